/-! ===== PURE: askings: next, few ===== -/
theorem AK.day {σ0 τ0 σ τ : St} {x y : Int32} (h : AK σ0 τ0 σ τ) : AK σ0 τ0 (sI σ 67 9 x) (sI τ 0 2 y) :=
  h.d ⟨fun k f q => by
    rw [vI_sI]
    rcases q with q | ⟨-, q, -⟩
    · rw [if_neg q]
    · rw [if_neg q]; split <;> rfl, fun _ _ _ _ _ => rfl, fun _ => rfl, fun _ => rfl⟩ ⟨fun f q1 q2 q3 => by rw [vI_sI, if_pos rfl, if_neg q2], fun _ _ _ _ _ => rfl, fun _ => rfl⟩
theorem LK.day {τ : St} {y : Int32} (h : LK τ) : LK (sI τ 0 2 y) := h
def EQ5 (τ : St) : Prop := ∀ i, i < 6 → vJ τ 5 i = vJ τ 19 i
theorem next_in {N t d0 s dd d : Nat} {σ0 τ0 : St} {CL CL' : List Cl} {CLs : List (List Cl)} {w : Int32} (h : RR N σ0 τ0 t d0 CL CLs s) : ∀ (k i f f' : Nat) (σ τ : St), AK σ0 τ0 σ τ → KR σ 67 τ t d CL' → LK τ → EQ5 τ → i + k = t → k < f → k + 1 < f' →
    (∃ σ' τ', f_X_next_l32 f 0 w (nI dd) (nI i) σ = some (Sum.inl σ') ∧ f_M_next_l39 f' 0 w (nI dd) (-5) (-5) (nI i) τ = some (-5, -5, τ') ∧ AK σ0 τ0 σ' τ' ∧ KR σ' 67 τ' t d CL' ∧ LK τ' ∧ EQ5 τ') ∨
    (∃ j σ' τ', j < 6 ∧ f_X_next_l32 f 0 w (nI dd) (nI i) σ = some (Sum.inr (if w = 0 then nI j else nI dd, σ')) ∧ f_M_next_l39 f' 0 w (nI dd) (-5) (-5) (nI i) τ = some (nI j, nI dd, τ') ∧ AK σ0 τ0 σ' τ' ∧ LK τ') := by
  intro k
  induction k with
  | zero =>
    intro i f f' σ τ hA hK hl hE hi hf hf'
    obtain ⟨f, rfl⟩ : ∃ z, f = z + 1 := ⟨f - 1, by omega⟩
    obtain ⟨f', rfl⟩ : ∃ z, f' = z + 1 := ⟨f' - 1, by omega⟩
    have ht := hK.1.1
    refine Or.inl ⟨σ, τ, ?_, ?_, hA, hK, hl, hE⟩
    · rw [f_X_next_l32, hK.1.2.2.1, if_pos (nI_le (by omega) (by omega))]
    · rw [f_M_next_l39, hK.1.2.2.2.1, if_pos (nI_le (by omega) (by omega))]
  | succ k ih =>
    intro i f f' σ τ hA hK hl hE hi hf hf'
    obtain ⟨f, rfl⟩ : ∃ z, f = z + 1 := ⟨f - 1, by omega⟩
    obtain ⟨f', rfl⟩ : ∃ z, f' = z + 1 := ⟨f' - 1, by omega⟩
    have ht := hK.1.1
    obtain ⟨v, m, σ1, τ1, e1, e2, K1, A1, M1, -, -, hm, I1⟩ := tak hK (by decide) (p := i) (by omega)
    have hA1 := hA.d A1.d M1.d
    have hl1 := M1.d.lk hl
    obtain ⟨m1, -⟩ := hA1.more h K1 (i := i) (by omega)
    have v19 : ∀ j, vJ τ1 19 j = vJ τ 19 j := fun j => by rw [M1.2.1 19 (by decide) (by decide) (by decide) (by decide)]
    have v5 : vJ τ1 5 i = vJ τ1 19 i + nI m := by rw [I1 i (by omega), if_pos rfl, hE i (by omega), v19]
    have hok : ok (nI i) 6 = true := ok_nI (by omega) (by decide)
    have hx : f_X_fetchesMore 0 (nI i) σ1 = some (nI m) := by rw [(x_more (show i < 6 by omega)).1, m1, v5, sub_nI]
    rw [f_X_next_l32, hK.1.2.2.1, if_neg (nI_ge (by omega) (by omega)), f_M_next_l39, hK.1.2.2.2.1, if_neg (nI_ge (by omega) (by omega)), if_neg (by decide), e1, e2]
    simp only [Option.bind_some, hx, hok, if_true, nx_nI (show i < 2 ^ 31 by omega), nI_1]
    by_cases hz : m = 0
    · subst hz
      rw [if_pos (by decide), if_pos (by rw [v5, nI_0]; exact Int32.add_zero _)]
      refine ih (i + 1) f f' σ1 τ1 hA1 K1 hl1 (fun j hj => ?_) (by omega) (by omega) (by omega)
      rw [I1 j hj, v19, ← hE j hj, nI_0]
      split
      · exact Int32.add_zero _
      · rfl
    · have hne : ¬ vJ τ1 5 i = vJ τ1 19 i := by
        intro q
        have : vJ τ1 5 i - vJ τ1 19 i = nI m := by rw [v5, sub_nI]
        rw [q, Int32.sub_self] at this
        have h2 : nI 0 = nI m := by rw [nI_0]; exact this
        rw [nIeq (by decide) (by omega)] at h2
        omega
      rw [if_neg (by rw [show (0 : Int32) = nI 0 by decide, nIle (by omega) (by decide)]; omega), if_neg hne]
      obtain ⟨f', rfl⟩ : ∃ z, f' = z + 1 := ⟨f' - 1, by omega⟩
      refine Or.inr ⟨i, σ1, τ1, by omega, ?_, ?_, hA1, hl1⟩
      · by_cases hw : w = 0
        · rw [if_pos hw, if_pos hw]
        · rw [if_neg hw, if_neg hw]
      · rw [f_M_next_l39]
        by_cases hb : vI τ1 0 0 ≤ nI (i + 1)
        · rw [if_pos hb]
        · rw [if_neg hb, if_pos (nI_pos' (by omega))]
theorem next_out {N t d0 s : Nat} {σ0 τ0 : St} {CL CL' : List Cl} {CLs : List (List Cl)} {w : Int32} (h : RR N σ0 τ0 t d0 CL CLs s) : ∀ (k dd f f' d : Nat) (σ τ : St), AK σ0 τ0 σ τ → KR σ 67 τ t d CL' → LK τ → EQ5 τ → dd + k = 60 → k < f → k + 1 < f' → d ≤ 9999 + dd →
    ∃ r1 r2 σ' τ', ((f_X_next_l24 f 0 w (nI dd) σ).bind fun x_21 => Sum.elim (fun y23 => some ((-5), y23)) (fun z => some z) x_21) = some (if w = 0 then r1 else r2, σ') ∧ f_M_next_l25 f' 0 w (-5) (-5) (nI dd) τ = some (r1, r2, τ') ∧ AK σ0 τ0 σ' τ' ∧ LK τ' := by
  intro k
  induction k with
  | zero =>
    intro dd f f' d σ τ hA hK hl hE hi hf hf' hd
    obtain ⟨f, rfl⟩ : ∃ z, f = z + 1 := ⟨f - 1, by omega⟩
    obtain ⟨f', rfl⟩ : ∃ z, f' = z + 1 := ⟨f' - 1, by omega⟩
    obtain rfl : dd = 60 := by omega
    refine ⟨-5, -5, σ, τ, ?_, ?_, hA, hl⟩
    · rw [f_X_next_l24, if_pos (by decide)]
      show some _ = _
      split <;> rfl
    · rw [f_M_next_l25, if_pos (by decide)]
  | succ k ih =>
    intro dd f f' d σ τ hA hK hl hE hi hf hf' hd
    obtain ⟨f, rfl⟩ : ∃ z, f = z + 1 := ⟨f - 1, by omega⟩
    obtain ⟨f', rfl⟩ : ∃ z, f' = z + 1 := ⟨f' - 1, by omega⟩
    have ht := hK.1.1
    have n60 : ¬ (60 : Int32) ≤ nI dd := by rw [show (60 : Int32) = nI 60 by decide, nIle (by decide) (by omega)]; omega
    rw [f_X_next_l24, if_neg n60, f_M_next_l25, if_neg n60, if_neg (by decide)]
    rcases next_in (w := w) (dd := dd) h t 0 FU FU σ τ hA hK hl hE (by omega) (by unfold FU; omega) (by unfold FU; omega) with ⟨σ1, τ1, e1, e2, hA1, K1, hl1, hE1⟩ | ⟨j, σ1, τ1, hj, e1, e2, hA1, hl1⟩
    · rw [nI_0] at e1 e2
      rw [e1, e2]
      simp only [Option.bind_some, Sum.elim_inl, st, K1.1.2.2.2.2.1, K1.1.2.2.2.2.2, nI_1]
      exact ih (dd + 1) f f' (d + 1) _ _ hA1.day (KR_day K1 (by decide) (by omega)) hl1.day hE1 (by omega) (by omega) (by omega) (by omega)
    · rw [nI_0] at e1 e2
      rw [e1, e2]
      simp only [Option.bind_some, Sum.elim_inr, st]
      obtain ⟨f', rfl⟩ : ∃ z, f' = z + 1 := ⟨f' - 1, by omega⟩
      refine ⟨nI j, nI dd, σ1, sI τ1 0 2 (vI τ1 0 2 + 1), rfl, ?_, ⟨hA1.1, hA1.2.1, (hA1.day (x := 0)).2.2⟩, hl1.day⟩
      rw [f_M_next_l25]
      by_cases hb : (60 : Int32) ≤ nI dd + 1
      · rw [if_pos hb]
      · rw [if_neg hb, if_pos (nI_pos' (by omega))]
theorem op_next {N : Nat} {σ τ : St} {t d s : Nat} {CL : List Cl} {CLs : List (List Cl)} (h : RR N σ τ t d CL CLs s) (w : Int32) : Sm N (f_X_next 0 w σ) (f_M_next 0 w τ) := by
  unfold f_X_next f_M_next
  simp only [in_X]
  refine sm_ite (fun _ => sm_ret h _) (fun _ => ?_)
  obtain ⟨σ1, τ1, e1, e2, hA, hk, hK, hl⟩ := ask0 h
  have hd := h.1.2.1
  have hE : EQ5 τ1 := fun i hi => by rw [(hA.2.2.2.2.2 i hi).2.1, hk.2 5 (by decide) (by decide) (by decide)]
  obtain ⟨r1, r2, σ2, τ2, q1, q2, hA2, hl2⟩ := next_out (w := w) h 60 0 FU FU d σ1 τ1 hA hK hl hE rfl (by unfold FU; omega) (by unfold FU; omega) (by omega)
  obtain ⟨τ3, e5, -, hR⟩ := hA2.back0 h hl2
  rw [nI_0] at q1 q2
  rw [e1, e2, Option.bind_some, Option.bind_some, q1, q2, Option.bind_some, e5, Option.bind_some]
  by_cases hw : w = 0
  · rw [if_pos hw, if_pos hw]; exact sm_ret hR _
  · rw [if_neg hw, if_neg hw]; exact sm_ret hR _
theorem few_l {N t d0 s g : Nat} {σ0 τ0 : St} {CL CL' : List Cl} {CLs : List (List Cl)} {w : Int32} (h : RR N σ0 τ0 t d0 CL CLs s) (ht1 : 1 ≤ t) : ∀ (k i f f' d : Nat) (σ τ : St), AK σ0 τ0 σ τ → KR σ 67 τ t d CL' → LK τ → i + k = 300 → k < f → k + 1 < f' → d ≤ 9999 + i →
    (∃ σ' τ', f_X_few_l40 f 0 (nI g) w (nI (i % t)) (nI i) σ = some (Sum.inl σ') ∧ f_M_few_l36 f' 0 (nI g) w (-5) (nI i) τ = some (-5, τ') ∧ AK σ0 τ0 σ' τ' ∧ LK τ') ∨
    (∃ j σ' τ', j < 300 ∧ f_X_few_l40 f 0 (nI g) w (nI (i % t)) (nI i) σ = some (Sum.inr (if w = 0 then nI j else nI (j % t), σ')) ∧ f_M_few_l36 f' 0 (nI g) w (-5) (nI i) τ = some (nI j, τ') ∧ AK σ0 τ0 σ' τ' ∧ LK τ') := by
  intro k
  induction k with
  | zero =>
    intro i f f' d σ τ hA hK hl hi hf hf' hd
    obtain ⟨f, rfl⟩ : ∃ z, f = z + 1 := ⟨f - 1, by omega⟩
    obtain ⟨f', rfl⟩ : ∃ z, f' = z + 1 := ⟨f' - 1, by omega⟩
    obtain rfl : i = 300 := by omega
    refine Or.inl ⟨σ, τ, ?_, ?_, hA, hl⟩
    · rw [f_X_few_l40, if_pos (by decide)]
    · rw [f_M_few_l36, if_pos (by decide)]
  | succ k ih =>
    intro i f f' d σ τ hA hK hl hi hf hf' hd
    obtain ⟨f, rfl⟩ : ∃ z, f = z + 1 := ⟨f - 1, by omega⟩
    obtain ⟨f', rfl⟩ : ∃ z, f' = z + 1 := ⟨f' - 1, by omega⟩
    have ht := hK.1.1
    have hlt : i % t < t := Nat.mod_lt _ (by omega)
    have n300 : ¬ (300 : Int32) ≤ nI i := by rw [show (300 : Int32) = nI 300 by decide, nIle (by decide) (by omega)]; omega
    have t0 : ¬ nI t ≤ 0 := by rw [show (0 : Int32) = nI 0 by decide, nIle (by omega) (by decide)]; omega
    have t0' : ¬ nI t = 0 := by rw [show (0 : Int32) = nI 0 by decide, nIeq (by omega) (by decide)]; omega
    obtain ⟨v, m, σ1, τ1, e1, e2, K1, A1, M1, hL, -, hm, I1⟩ := tak hK (by decide) (p := i % t) hlt
    have hA1 := hA.d A1.d M1.d
    have hl1 := M1.d.lk hl
    rw [f_X_few_l40, if_neg n300, hK.1.2.2.1, if_neg t0, f_M_few_l36, if_neg n300, hK.1.2.2.2.1, if_neg t0, if_neg (by decide), if_neg t0', nI_rem (by omega) (by omega) (by omega), e1, e2, Option.bind_some, Option.bind_some]
    simp only [in_X, hL, K1.1.2.2.1, K1.1.2.2.2.1, K1.1.2.2.2.2.1, K1.1.2.2.2.2.2, nI_rem (show i < 2 ^ 31 by omega) (show 0 < t by omega) (show t < 2 ^ 31 by omega), t0', if_false, nI_1, st]
    have tp : nI t - 1 = nI (t - 1) := by
      obtain ⟨u, rfl⟩ : ∃ u, t = u + 1 := ⟨t - 1, by omega⟩
      exact nI_pred u
    rw [tp]
    by_cases hc : f_M_in 0 (vI τ1 0 30) 1 (nI g) = false
    · rw [if_pos hc, if_pos hc, Option.bind_some]
      by_cases hz : i % t + 1 = t
      · rw [if_pos (by rw [hz]), if_pos (by rw [nIeq (by omega) (by omega)]; omega)]
        have hmod : (i + 1) % t = 0 := by
          have e : i + 1 = t * (i / t + 1) := by
            have := Nat.div_add_mod i t
            rw [Nat.mul_add]; omega
          rw [e, Nat.mul_mod_right]
        have := ih (i + 1) f f' (d + 1) _ _ hA1.day (KR_day K1 (by decide) (by omega)) hl1.day (by omega) (by omega) (by omega) (by omega)
        rw [hmod] at this
        exact this
      · rw [if_neg (by rw [nIeq (by omega) (by omega)]; exact hz), if_neg (by rw [nIeq (by omega) (by omega)]; omega), show nI d + 0 = nI d from Int32.add_zero _]
        have hmod : (i + 1) % t = i % t + 1 := by
          rw [Nat.add_mod, Nat.mod_eq_of_lt (show i % t + 1 % t < t from ?_)]
          · rw [Nat.mod_eq_of_lt (show 1 < t by omega)]
          · rw [Nat.mod_eq_of_lt (show 1 < t by omega)]; omega
        have hA2 : AK σ0 τ0 σ1 (sI τ1 0 2 (nI d)) := ⟨hA1.1, hA1.2.1, (hA1.day (x := 0)).2.2⟩
        have K1' := K1
        obtain ⟨⟨a1, a2, a3, a4, a5, a6⟩, n2, n3, n4, n5, -⟩ := K1'
        have K2 : KR σ1 67 (sI τ1 0 2 (nI d)) t d CL' := K1.re SX.rf rfl rfl rfl rfl rfl rfl (fun _ _ _ => rfl) ⟨a1, a2, a3, a4, a5, rfl⟩ n2 n3 n4 n5
        have := ih (i + 1) f f' d σ1 _ hA2 K2 hl1.day (by omega) (by omega) (by omega) (by omega)
        rw [hmod] at this
        exact this
    · rw [if_neg hc, if_neg hc, Option.bind_some]
      obtain ⟨f', rfl⟩ : ∃ z, f' = z + 1 := ⟨f' - 1, by omega⟩
      have fin : ∀ τ' : St, f_M_few_l36 (f' + 1) 0 (nI g) w (nI i) (nI (i + 1)) τ' = some (nI i, τ') := by
        intro τ'
        rw [f_M_few_l36]
        by_cases hb : (300 : Int32) ≤ nI (i + 1)
        · rw [if_pos hb]
        · rw [if_neg hb]
          by_cases hb2 : vI τ' 0 0 ≤ 0
          · rw [if_pos hb2]
          · rw [if_neg hb2, if_pos (nI_pos' (by omega))]
      have hX : (if w = 0 then some (Sum.inr (nI i, σ1)) else some (Sum.inr (nI (i % t), σ1)) : Option (St ⊕ (Int32 × St))) = some (Sum.inr (if w = 0 then nI i else nI (i % t), σ1)) := by
        by_cases hw : w = 0
        · rw [if_pos hw, if_pos hw]
        · rw [if_neg hw, if_neg hw]
      refine Or.inr ?_
      by_cases hz : nI (i % t) = nI (t - 1)
      · rw [if_pos hz, fin]
        exact ⟨i, σ1, _, by omega, hX, rfl, ⟨hA1.1, hA1.2.1, (hA1.day (x := 0)).2.2⟩, hl1.day⟩
      · rw [if_neg hz, fin]
        exact ⟨i, σ1, _, by omega, hX, rfl, ⟨hA1.1, hA1.2.1, (hA1.day (x := 0)).2.2⟩, hl1.day⟩
theorem op_few {N : Nat} {σ τ : St} {t d s : Nat} {CL : List Cl} {CLs : List (List Cl)} (h : RR N σ τ t d CL CLs s) (p w : Int32) : Sm N (f_X_few 0 p w σ) (f_M_few 0 p w τ) := by
  unfold f_X_few f_M_few
  simp only [in_X]
  refine sm_ite (fun _ => sm_ret h _) (fun _ => sm_ite (fun _ => sm_ret h _) (fun hp => ?_))
  obtain ⟨g, -, hg, rfl⟩ := in_t (neg_f hp) (a := 0) (b := 99) (by decide) (by decide) (by decide) (by decide)
  obtain ⟨σ1, τ1, e1, e2, hA, hk, hK, hl⟩ := ask0 h
  have hd := h.1.2.1
  have ht := h.1.1.1.1
  rw [e1, e2, Option.bind_some, Option.bind_some]
  by_cases t0 : t = 0
  · subst t0
    obtain ⟨τ3, e5, -, hR⟩ := hA.back0 h hl
    rw [show FU = 999 + 1 by rfl, f_X_few_l40, if_neg (by decide), hK.1.2.2.1, if_pos (by decide), f_M_few_l36, if_neg (by decide), hK.1.2.2.2.1, if_pos (by decide)]
    simp only [Option.bind_some, e5, Sum.elim_inl, show ((-5 : Int32) < 0) = True by decide, if_true]
    exact sm_ret hR _
  · rcases few_l (w := w) (g := g) h (by omega) 300 0 FU FU d σ1 τ1 hA hK hl rfl (by unfold FU; omega) (by unfold FU; omega) (by omega) with ⟨σ2, τ2, q1, q2, hA2, hl2⟩ | ⟨j, σ2, τ2, hj, q1, q2, hA2, hl2⟩
    · obtain ⟨τ3, e5, -, hR⟩ := hA2.back0 h hl2
      rw [Nat.zero_mod, nI_0] at q1
      rw [nI_0] at q2
      rw [q1, q2]
      simp only [Option.bind_some, e5, Sum.elim_inl, show ((-5 : Int32) < 0) = True by decide, if_true]
      exact sm_ret hR _
    · obtain ⟨τ3, e5, -, hR⟩ := hA2.back0 h hl2
      rw [Nat.zero_mod, nI_0] at q1
      rw [nI_0] at q2
      have t0' : ¬ nI t = 0 := by rw [show (0 : Int32) = nI 0 by decide, nIeq (by omega) (by decide)]; exact t0
      have jn : ¬ nI j < 0 := nI_pos (show j < 2 ^ 31 by omega)
      rw [q1, q2]
      simp only [Option.bind_some, e5, Sum.elim_inr, jn, if_false, hR.1.1.1.2.2.2.1, t0', nI_rem (show j < 2 ^ 31 by omega) (show 0 < t by omega) (show t < 2 ^ 31 by omega)]
      by_cases hw : w = 0
      · rw [if_pos hw, if_pos hw]; exact sm_ret hR _
      · rw [if_neg hw, if_neg hw]; exact sm_ret hR _
