/-! ===== PURE: askings: without, least, full, odds ===== -/
theorem op_without {N : Nat} {σ τ : St} {t d s : Nat} {CL : List Cl} {CLs : List (List Cl)} (h : RR N σ τ t d CL CLs s) (p w : Int32) : Sm N (f_X_without 0 p w σ) (f_M_without 0 p w τ) := by
  unfold f_X_without f_M_without
  rw [h.tk, in_X]
  refine sm_ite (fun _ => sm_ret h _) (fun hp => sm_ite (fun _ => sm_ret h _) (fun hw => ?_))
  obtain ⟨i, hi, hi6, rfl⟩ := h.tt hp
  obtain ⟨n, -, hn, rfl⟩ := in_t (neg_f hw) (a := 0) (b := 30) (by decide) (by decide) (by decide) (by decide)
  obtain ⟨l1, l2, l3, l4⟩ := h.1.2.2.2.1
  obtain ⟨m, σ1, σ2, τ2, e1, e2, e3, -, ⟨k1, -⟩, -, τb, hR, hF⟩ := fin2 (n := n) (x3 := -1) h FT.rf (by omega) (Or.inl ⟨rfl, l3⟩) l4 (fun x => x) (fun _ => AG.rf) (fun σ1 τ1 g1 g2 t27 t28 => ⟨Or.inl ⟨t27.trans l1, g1⟩, Or.inl ⟨t28.trans l2, g2⟩⟩)
  obtain ⟨m', σ3, σ4, τ4, f1, f2, f3, -, ⟨j1, -⟩, -, τb', hR', hF'⟩ := fin2 (n := n) (x3 := nI i) hR (hF.s (f := 31) (x := nI i) (by decide)) (by omega) (Or.inr ⟨i, hi, rfl, rfl⟩) ((k1 32 (by decide) (by decide) (by decide) (by decide) (by decide)).trans l4) (fun x => x) (fun _ => AG.rf) (fun σ1 τ1 g1 g2 t27 t28 => ⟨Or.inl ⟨t27.trans ((k1 27 (by decide) (by decide) (by decide) (by decide) (by decide)).trans l1), g1⟩, Or.inl ⟨t28.trans ((k1 28 (by decide) (by decide) (by decide) (by decide) (by decide)).trans l2), g2⟩⟩)
  simp only [e1, e2, e3, f1, f2, f3, Option.bind_some, st]
  have hl : LK (sI τ4 0 31 (-1)) := ⟨(j1 27 (by decide) (by decide) (by decide) (by decide) (by decide)).trans ((k1 27 (by decide) (by decide) (by decide) (by decide) (by decide)).trans l1), (j1 28 (by decide) (by decide) (by decide) (by decide) (by decide)).trans ((k1 28 (by decide) (by decide) (by decide) (by decide) (by decide)).trans l2), rfl, (j1 32 (by decide) (by decide) (by decide) (by decide) (by decide)).trans ((k1 32 (by decide) (by decide) (by decide) (by decide) (by decide)).trans l4)⟩
  exact sm_ret (FT.fin hR' (hF'.s (by decide)) hl) _
theorem least_l {N t d s n : Nat} {CL : List Cl} {CLs : List (List Cl)} {w : Int32} (hn : n ≤ 60) : ∀ (k i f : Nat) (x3 x4 y3 y4 : Int32) (σ τb τ : St), RR N σ τb t d CL CLs s → FT τb τ → vI τ 0 28 = -1 → vI τ 0 31 = -1 → vI τ 0 32 = -1 → ((i = 0 ∧ x3 = 0 ∧ x4 = 2147483647 ∧ y3 = -1 ∧ y4 = 0) ∨ ∃ c m, c ≤ 20 ∧ m ≤ 5040 ∧ x3 = nI c ∧ x4 = nI m ∧ y3 = nI c ∧ y4 = nI m) → i + k = 21 → k < f → ∃ c m σ' τb' τ', f_X_least_l33 f 0 (nI n) w x3 x4 (nI i) σ = some (nI c, nI m, σ') ∧ f_M_least_l34 f 0 (nI n) w y3 y4 (nI i) τ = some (nI c, nI m, τ') ∧ RR N σ' τb' t d CL CLs s ∧ FT τb' τ' ∧ vI τ' 0 28 = -1 ∧ vI τ' 0 31 = -1 ∧ vI τ' 0 32 = -1 := by
  intro k
  induction k with
  | zero =>
    intro i f x3 x4 y3 y4 σ τb τ hR hF h28 h31 h32 hq hi hf
    obtain ⟨f, rfl⟩ : ∃ z, f = z + 1 := ⟨f - 1, by omega⟩
    obtain rfl : i = 21 := by omega
    rcases hq with ⟨h0, -⟩ | ⟨c, m, c20, m5, rfl, rfl, rfl, rfl⟩
    · exact absurd h0 (by decide)
    refine ⟨c, m, σ, τb, τ, ?_, ?_, hR, hF, h28, h31, h32⟩
    · rw [f_X_least_l33, if_pos (by decide)]
    · rw [f_M_least_l34, if_pos (by decide)]
  | succ k ih =>
    intro i f x3 x4 y3 y4 σ τb τ hR hF h28 h31 h32 hq hi hf
    obtain ⟨f, rfl⟩ : ∃ z, f = z + 1 := ⟨f - 1, by omega⟩
    obtain ⟨m, σ1, σ2, τ2, e1, e2, e3, m5, ⟨k1, -⟩, -, τb', hR', hF'⟩ := fin2 (n := n) (x3 := -1) hR (hF.s (f := 27) (x := nI i) (by decide)) hn (Or.inl ⟨rfl, h31⟩) h32 (fun x => sI x 67 11 (nI i)) (fun _ => AG.s (Or.inl rfl)) (fun σ1 τ1 g1 g2 t27 t28 => ⟨Or.inr ⟨i, by omega, t27.trans rfl, rfl⟩, Or.inl ⟨t28.trans h28, g2⟩⟩)
    rw [f_X_least_l33, if_neg (by rw [show (20 : Int32) = nI 20 by decide, nIlt (by decide) (by omega)]; omega), f_M_least_l34, if_neg (by rw [show (21 : Int32) = nI 21 by decide, nIle (by decide) (by omega)]; omega)]
    simp only [st, e1, e2, e3, Option.bind_some, nI_1]
    have c28 := (k1 28 (by decide) (by decide) (by decide) (by decide) (by decide)).trans h28
    have c31 := (k1 31 (by decide) (by decide) (by decide) (by decide) (by decide)).trans h31
    have c32 := (k1 32 (by decide) (by decide) (by decide) (by decide) (by decide)).trans h32
    rcases hq with ⟨h0, rfl, rfl, rfl, rfl⟩ | ⟨c, m', c20, m5', rfl, rfl, rfl, rfl⟩
    · rw [if_neg (by rw [show (2147483647 : Int32) = nI 2147483647 by decide, nIle (by decide) (by omega)]; omega), if_pos (by decide)]
      exact ih (i + 1) f _ _ _ _ σ2 τb' τ2 hR' hF' c28 c31 c32 (Or.inr ⟨i, m, by omega, m5, rfl, rfl, rfl, rfl⟩) (by omega) (by omega)
    · rw [if_neg (nI_pos (show c < 2 ^ 31 by omega))]
      by_cases hc : m' ≤ m
      · rw [if_pos (by rw [nIle (by omega) (by omega)]; exact hc), if_neg (by rw [nIlt (by omega) (by omega)]; omega)]
        exact ih (i + 1) f _ _ _ _ σ2 τb' τ2 hR' hF' c28 c31 c32 (Or.inr ⟨c, m', c20, m5', rfl, rfl, rfl, rfl⟩) (by omega) (by omega)
      · rw [if_neg (by rw [nIle (by omega) (by omega)]; exact hc), if_pos (by rw [nIlt (by omega) (by omega)]; omega)]
        exact ih (i + 1) f _ _ _ _ σ2 τb' τ2 hR' hF' c28 c31 c32 (Or.inr ⟨i, m, by omega, m5, rfl, rfl, rfl, rfl⟩) (by omega) (by omega)
theorem op_least {N : Nat} {σ τ : St} {t d s : Nat} {CL : List Cl} {CLs : List (List Cl)} (h : RR N σ τ t d CL CLs s) (p w : Int32) : Sm N (f_X_least 0 p w σ) (f_M_least 0 p w τ) := by
  unfold f_X_least f_M_least
  simp only [in_X]
  refine sm_ite (fun _ => sm_ret h _) (fun _ => sm_ite (fun _ => sm_ret h _) (fun hp => ?_))
  obtain ⟨n, -, hn, rfl⟩ := in_t (neg_f hp) (a := 1) (b := 10) (by decide) (by decide) (by decide) (by decide)
  obtain ⟨l1, l2, l3, l4⟩ := h.1.2.2.2.1
  obtain ⟨c, m, σ', τb, τ', e1, e2, hR, hF, k28, k31, k32⟩ := least_l (w := w) (n := n) (by omega) 21 0 FU 0 2147483647 (-1) 0 σ τ τ h FT.rf l2 l3 l4 (Or.inl ⟨rfl, rfl, rfl, rfl, rfl⟩) rfl (by unfold FU; omega)
  rw [nI_0] at e1 e2
  rw [e1, e2, Option.bind_some, Option.bind_some]
  have hR2 : RR N σ' (sI τ' 0 27 (-1)) t d CL CLs s := FT.fin hR (hF.s (by decide)) ⟨rfl, k28, k31, k32⟩
  simp only [st]
  exact sm_ite (fun _ => sm_ret hR2 _) (fun _ => sm_ret hR2 _)
theorem full_l {N t d s n : Nat} {CL : List Cl} {CLs : List (List Cl)} {w : Int32} (hn : n ≤ 60) : ∀ (k i f : Nat) (x3 x4 y3 y4 : Int32) (σ τb τ : St), RR N σ τb t d CL CLs s → FT τb τ → vI τ 0 27 = -1 → vI τ 0 31 = -1 → vI τ 0 32 = -1 → ((i = 1 ∧ x3 = 0 ∧ x4 = 2147483647 ∧ y3 = -1 ∧ y4 = 0) ∨ ∃ c m, c ≤ 300 ∧ m ≤ 196560 ∧ x3 = nI c ∧ x4 = nI m ∧ y3 = nI c ∧ y4 = nI m) → i + k = 31 → 1 ≤ i → k < f → ∃ c m σ' τb' τ', f_X_full_l33 f 0 (nI n) w x3 x4 (nI i) σ = some (nI c, nI m, σ') ∧ f_M_full_l35 f 0 (nI n) w y3 y4 (nI (10 * i)) τ = some (nI c, nI m, τ') ∧ RR N σ' τb' t d CL CLs s ∧ FT τb' τ' ∧ vI τ' 0 27 = -1 ∧ vI τ' 0 31 = -1 ∧ vI τ' 0 32 = -1 := by
  intro k
  induction k with
  | zero =>
    intro i f x3 x4 y3 y4 σ τb τ hR hF h28 h31 h32 hq hi hi1 hf
    obtain ⟨f, rfl⟩ : ∃ z, f = z + 1 := ⟨f - 1, by omega⟩
    obtain rfl : i = 31 := by omega
    rcases hq with ⟨h0, -⟩ | ⟨c, m, c20, m5, rfl, rfl, rfl, rfl⟩
    · exact absurd h0 (by decide)
    refine ⟨c, m, σ, τb, τ, ?_, ?_, hR, hF, h28, h31, h32⟩
    · rw [f_X_full_l33, if_pos (by decide)]
    · rw [f_M_full_l35, if_pos (by decide)]
  | succ k ih =>
    intro i f x3 x4 y3 y4 σ τb τ hR hF h28 h31 h32 hq hi hi1 hf
    obtain ⟨f, rfl⟩ : ∃ z, f = z + 1 := ⟨f - 1, by omega⟩
    obtain ⟨m, σ1, σ2, τ2, e1, e2, e3, m5, ⟨k1, -⟩, -, τb', hR', hF'⟩ := fin2 (n := n) (x3 := -1) hR (hF.s (f := 28) (x := nI (10 * i)) (by decide)) hn (Or.inl ⟨rfl, h31⟩) h32 (fun x => sI x 67 12 (nI (10 * i))) (fun _ => AG.s (Or.inr rfl)) (fun σ1 τ1 g1 g2 t27 t28 => ⟨Or.inl ⟨t27.trans h28, g1⟩, Or.inr ⟨10 * i, by omega, t28.trans rfl, rfl⟩⟩)
    have ten : (10 : Int32) * nI i = nI (10 * i) := by rw [show (10 : Int32) = nI 10 by decide, pk_mul]
    have q10 : nI (10 * i) / 10 = nI i := by rw [show (10 : Int32) = nI 10 by decide, pk_div (by omega) (by decide) (by decide), Nat.mul_div_cancel_left _ (by decide)]
    have add10 : nI (10 * i) + 10 = nI (10 * (i + 1)) := by rw [show (10 : Int32) = nI 10 by decide, nI_add]; rfl
    have add9 : nI i + 9 = nI (i + 9) := by rw [show (9 : Int32) = nI 9 by decide, nI_add]
    have hm : m * (i + 9) ≤ 196560 := by
      have := Nat.mul_le_mul m5 (show i + 9 ≤ 39 by omega)
      omega
    rw [f_X_full_l33, if_neg (by rw [show (30 : Int32) = nI 30 by decide, nIlt (by decide) (by omega)]; omega), f_M_full_l35, if_neg (by rw [show (301 : Int32) = nI 301 by decide, nIle (by decide) (by omega)]; omega)]
    simp only [st, ten, e1, e2, e3, Option.bind_some, nI_1, q10, add10, add9, pk_mul]
    have c28 := (k1 27 (by decide) (by decide) (by decide) (by decide) (by decide)).trans h28
    have c31 := (k1 31 (by decide) (by decide) (by decide) (by decide) (by decide)).trans h31
    have c32 := (k1 32 (by decide) (by decide) (by decide) (by decide) (by decide)).trans h32
    rcases hq with ⟨h0, rfl, rfl, rfl, rfl⟩ | ⟨c, m', c20, m5', rfl, rfl, rfl, rfl⟩
    · rw [if_neg (by rw [show (2147483647 : Int32) = nI 2147483647 by decide, nIle (by decide) (by omega)]; omega), if_pos (by decide)]
      exact ih (i + 1) f _ _ _ _ σ2 τb' τ2 hR' hF' c28 c31 c32 (Or.inr ⟨10 * i, m * (i + 9), by omega, hm, rfl, rfl, rfl, rfl⟩) (by omega) (by omega) (by omega)
    · rw [if_neg (nI_pos (show c < 2 ^ 31 by omega))]
      by_cases hc : m' ≤ m * (i + 9)
      · rw [if_pos (by rw [nIle (by omega) (by omega)]; exact hc), if_neg (by rw [nIlt (by omega) (by omega)]; omega)]
        exact ih (i + 1) f _ _ _ _ σ2 τb' τ2 hR' hF' c28 c31 c32 (Or.inr ⟨c, m', c20, m5', rfl, rfl, rfl, rfl⟩) (by omega) (by omega) (by omega)
      · rw [if_neg (by rw [nIle (by omega) (by omega)]; exact hc), if_pos (by rw [nIlt (by omega) (by omega)]; omega)]
        exact ih (i + 1) f _ _ _ _ σ2 τb' τ2 hR' hF' c28 c31 c32 (Or.inr ⟨10 * i, m * (i + 9), by omega, hm, rfl, rfl, rfl, rfl⟩) (by omega) (by omega) (by omega)
theorem op_full {N : Nat} {σ τ : St} {t d s : Nat} {CL : List Cl} {CLs : List (List Cl)} (h : RR N σ τ t d CL CLs s) (p w : Int32) : Sm N (f_X_full 0 p w σ) (f_M_full 0 p w τ) := by
  unfold f_X_full f_M_full
  simp only [in_X]
  refine sm_ite (fun _ => sm_ret h _) (fun _ => sm_ite (fun _ => sm_ret h _) (fun hp => ?_))
  obtain ⟨n, -, hn, rfl⟩ := in_t (neg_f hp) (a := 1) (b := 10) (by decide) (by decide) (by decide) (by decide)
  obtain ⟨l1, l2, l3, l4⟩ := h.1.2.2.2.1
  obtain ⟨c, m, σ', τb, τ', e1, e2, hR, hF, k28, k31, k32⟩ := full_l (w := w) (n := n) (by omega) 30 1 FU 0 2147483647 (-1) 0 σ τ τ h FT.rf l1 l3 l4 (Or.inl ⟨rfl, rfl, rfl, rfl, rfl⟩) rfl (by decide) (by unfold FU; omega)
  rw [show nI 1 = (1 : Int32) by decide] at e1
  rw [show nI (10 * 1) = (10 : Int32) by decide] at e2
  rw [e1, e2, Option.bind_some, Option.bind_some]
  have hR2 : RR N σ' (sI τ' 0 28 (-1)) t d CL CLs s := FT.fin hR (hF.s (by decide)) ⟨k28, rfl, k31, k32⟩
  simp only [st]
  exact sm_ite (fun _ => sm_ret hR2 _) (fun _ => sm_ret hR2 _)
theorem KR.t32 {σ τ : St} {c t d : Nat} {CL : List Cl} {x : Int32} (h : KR σ c τ t d CL) : KR σ c (sI τ 0 32 x) t d CL := by
  have h' := h
  obtain ⟨n1, n2, n3, n4, n5, -⟩ := h'
  exact h.re SX.rf rfl rfl rfl rfl rfl rfl (fun _ _ _ => rfl) n1 n2 n3 n4 n5
theorem AK.t32 {σ0 τ0 σ τ : St} {x : Int32} (h : AK σ0 τ0 σ τ) : AK σ0 τ0 σ (sI τ 0 32 x) :=
  ⟨h.1, h.2.1, h.2.2.1.tr ⟨fun f q => by simp at q; rw [vI_sI, if_pos rfl, if_neg (by omega)], fun _ _ => rfl, fun _ _ => rfl⟩, h.2.2.2.m rfl rfl rfl rfl rfl⟩
theorem odds_l {N t d s n p : Nat} {CL : List Cl} {CLs : List (List Cl)} {w : Int32} (hn : n ≤ 30) (hN : N ≤ 100000) (hp : p < t) : ∀ (k i a f : Nat) (σ τ : St), RR N σ τ t d CL CLs s → i + k = t → a ≤ i → k < f → ∃ a' σ' τ', f_X_odds_l37 f 0 (nI p) (nI n) w (nI a) (nI i) σ = some (nI a', σ') ∧ f_M_odds_l39 f 0 (nI p) (nI n) w (nI a) (nI i) τ = some (nI a', τ') ∧ RR N σ' τ' t d CL CLs s ∧ a' ≤ t := by
  intro k
  induction k with
  | zero =>
    intro i a f σ τ hR hi ha hf
    obtain ⟨f, rfl⟩ : ∃ z, f = z + 1 := ⟨f - 1, by omega⟩
    have ht := hR.1.1.1.1
    refine ⟨a, σ, τ, ?_, ?_, hR, by omega⟩
    · rw [f_X_odds_l37, hR.1.1.1.2.2.1, if_pos (nI_le (by omega) (by omega))]
    · rw [f_M_odds_l39, hR.1.1.1.2.2.2.1, if_pos (nI_le (by omega) (by omega))]
  | succ k ih =>
    intro i a f σ τ hR hi ha hf
    obtain ⟨f, rfl⟩ : ∃ z, f = z + 1 := ⟨f - 1, by omega⟩
    have ht := hR.1.1.1.1
    have hd := hR.1.2.1
    obtain ⟨σ1, τ1, e1, e2, hA, hk, hK, hl⟩ := ask0 hR
    obtain ⟨m, σ2, τ2, q1, q2, q3, q4, q5, q6, q7, q8⟩ := go2 (by decide) (hK.t32 (x := nI i)) (N := n) (x2 := nI i) (x3 := -1) (Or.inr ⟨i, by omega, rfl, rfl⟩) (Or.inl ⟨rfl, hl.2.2.1⟩) (by omega) (by omega)
    have hA2 := (hA.t32 (x := nI i)).d q6 q7
    have hA3 := hA2.t32 (x := -1)
    have K3 := q5.t32 (x := -1)
    have hl3 : LK (sI τ2 0 32 (-1)) := ⟨(q7.1 27 (by decide) (by decide) (by decide)).trans hl.1, (q7.1 28 (by decide) (by decide) (by decide)).trans hl.2.1, (q7.1 31 (by decide) (by decide) (by decide)).trans hl.2.2.1, rfl⟩
    obtain ⟨τ3, e5, -, hR3⟩ := hA3.back0 hR hl3
    obtain ⟨m1, -⟩ := hA3.more hR K3 (i := p) (by omega)
    obtain ⟨ks, s1, s2⟩ := q8
    obtain ⟨b, b1, b2⟩ := hR.2.2.1 p (by omega)
    have hkp := s2 p (by omega)
    have v5 : vJ τ2 5 p = nI (b + ks p) := by
      rw [s1 p (by omega), show vJ (sI τ1 0 32 (nI i)) 5 = vJ τ1 5 from rfl, hk.2 5 (by decide) (by decide) (by decide), b2, nI_add]
    have v19 : vJ τ2 19 p = nI b := by
      have := (hA3.2.2.2.2.2 p (by omega)).2.1
      rw [b2] at this
      exact this
    have hok : ok (nI p) 6 = true := ok_nI (by omega) (by decide)
    have hx : f_X_fetchesMore 0 (nI p) σ2 = some (nI (ks p)) := by
      rw [(x_more (show p < 6 by omega)).1, m1, show vJ (sI τ2 0 32 (-1)) 5 p = nI (b + ks p) from v5, show vJ (sI τ2 0 32 (-1)) 19 p = nI b from v19, pk_sub (by omega), Nat.add_sub_cancel_left]
    rw [f_X_odds_l37, hR.1.1.1.2.2.1, if_neg (nI_ge (by omega) (by omega)), f_M_odds_l39, hR.1.1.1.2.2.2.1, if_neg (nI_ge (by omega) (by omega)), e1, e2, Option.bind_some, Option.bind_some]
    simp only [st, q1, q2, Option.bind_some, hx, hok, if_true, nx_nI (show p < 2 ^ 31 by omega), show vJ (sI τ2 0 32 (-1)) 5 p = nI (b + ks p) from v5, show vJ (sI τ2 0 32 (-1)) 19 p = nI b from v19, nI_1]
    by_cases hz : ks p = 0
    · rw [if_pos (by rw [hz]; decide), if_pos (by rw [nIle (by omega) (by omega)]; omega), Option.bind_some, e5, Option.bind_some, show nI a + b2i false = nI a by rw [show b2i false = nI 0 by decide, nI_add]; rfl]
      exact ih (i + 1) a f σ2 τ3 hR3 (by omega) (by omega) (by omega)
    · rw [if_neg (by rw [show (0 : Int32) = nI 0 by decide, nIle (by omega) (by decide)]; omega), if_neg (by rw [nIle (by omega) (by omega)]; omega), Option.bind_some, e5, Option.bind_some, show nI a + b2i true = nI (a + 1) by rw [show b2i true = nI 1 by decide, nI_add]]
      exact ih (i + 1) (a + 1) f σ2 τ3 hR3 (by omega) (by omega) (by omega)
theorem op_odds {N : Nat} {σ τ : St} {t d s : Nat} {CL : List Cl} {CLs : List (List Cl)} (hN : N ≤ 100000) (h : RR N σ τ t d CL CLs s) (p v w : Int32) : Sm N (f_X_odds 0 p v w σ) (f_M_odds 0 p v w τ) := by
  unfold f_X_odds f_M_odds
  rw [h.tk]
  simp only [in_X]
  refine sm_ite (fun _ => sm_ret h _) (fun hp => sm_ite (fun _ => sm_ret h _) (fun hv => sm_ite (fun _ => sm_ret h _) (fun _ => ?_)))
  obtain ⟨i, hi, hi6, rfl⟩ := h.tt hp
  obtain ⟨n, -, hn, rfl⟩ := in_t (neg_f hv) (a := 0) (b := 30) (by decide) (by decide) (by decide) (by decide)
  have ht := h.1.1.1.1
  obtain ⟨a, σ', τ', e1, e2, hR, ha⟩ := odds_l (w := w) hn hN hi t 0 0 FU σ τ h (by omega) (by omega) (by unfold FU; omega)
  rw [nI_0] at e1 e2
  obtain ⟨r, r1, r2⟩ := low2 (a := a) (b := t) (w := w) (by omega) (by omega) (by omega)
  rw [e1, e2, Option.bind_some, Option.bind_some, hR.1.1.1.2.2.1, hR.1.1.1.2.2.2.1, r1, r2]
  exact sm_ret hR _
