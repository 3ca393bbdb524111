/-! ===== PURE: askings: order ===== -/
theorem x_fct {t : Nat} (h : t ≤ 5) : f_X_ordersOf (nI t) = some (nI (fct t)) := by
  have : ∀ t, t < 6 → f_X_ordersOf (nI t) = some (nI (fct t)) := by decide +kernel
  exact this t (by omega)
theorem m_fct {t : Nat} {x1 : Int32} {τ : St} (hT : vI τ 0 0 = nI t) (ht : t ≤ 5) : ∀ (k j f : Nat), j + k = t + 1 → 1 ≤ j → k < f → f_M_layOrder_l4 f 0 x1 (nI (fct (j - 1))) (nI j) τ = some (nI (fct t)) := by
  intro k
  induction k with
  | zero =>
    intro j f h1 h2 hf
    obtain ⟨f, rfl⟩ : ∃ z, f = z + 1 := ⟨f - 1, by omega⟩
    rw [f_M_layOrder_l4, hT, if_pos (by rw [nIlt (by omega) (by omega)]; omega), show j - 1 = t by omega]
  | succ k ih =>
    intro j f h1 h2 hf
    obtain ⟨f, rfl⟩ : ∃ z, f = z + 1 := ⟨f - 1, by omega⟩
    rw [f_M_layOrder_l4, hT, if_neg (by rw [nIlt (by omega) (by omega)]; omega), pk_mul, nI_1]
    have := ih (j + 1) f (by omega) (by omega) (by omega)
    rw [show fct (j - 1) * j = fct (j + 1 - 1) by
      obtain ⟨u, rfl⟩ : ∃ u, j = u + 1 := ⟨j - 1, by omega⟩
      rfl]
    exact this
theorem m_fct0 {t : Nat} {x1 : Int32} {τ : St} (hT : vI τ 0 0 = nI t) (ht : t ≤ 5) : f_M_layOrder_l4 FU 0 x1 1 2 τ = some (nI (fct t)) := by
  by_cases h0 : t = 0
  · subst h0
    rw [show FU = 999 + 1 by rfl, f_M_layOrder_l4, hT, if_pos (by decide)]
    rfl
  · have := m_fct (x1 := x1) hT ht (t - 1) 2 FU (by omega) (by decide) (by unfold FU; omega)
    exact this
theorem fct_le {t : Nat} (h : t ≤ 5) : 1 ≤ fct t ∧ fct t ≤ 120 := by
  have : ∀ t, t < 6 → 1 ≤ fct t ∧ fct t ≤ 120 := by decide
  exact this t (by omega)
theorem lay2 {t r : Nat} {σ τ : St} (hT : vI τ 0 0 = nI t) (ht : t ≤ 5) (hr : r < fct t) : ∃ (P : Nat → Nat) (hX hM : Nat → Int32), (∀ i, i < t → P i < t) ∧ f_X_putOrder 0 (nI r) (nI (fct t)) (nI t) σ = some (sJ σ 87 hX) ∧ (∀ i, i < t → hX i = nI (P i)) ∧ f_M_layOrder 0 (nI r) τ = some (true, sJ τ 21 hM) ∧ ∀ i, i < t → hM i = nI (P i) := by
  obtain ⟨P, hP, e1, e2⟩ := orders2 ht hr
  have hf := fct_le ht
  rw [← nI_0] at e1
  obtain ⟨hX, x1, -, x3⟩ := pX_eq FU 0 _ _ _ _ σ (by decide) e1
  have e2' : pM FU (nI t) (nI (fct t)) ((1 <<< ((nI t) &&& (31 : Int32))) - 1) (nI r) (nI 0) = some ((List.range t).map (fun i => nI (P i))) := e2
  obtain ⟨hM, m1, -, m3⟩ := pM_eq FU 0 _ _ _ _ τ hT (by decide) e2'
  have hL : ∀ i, i < t → ((List.range t).map (fun i => nI (P i)))[i]? = some (nI (P i)) := fun i hi => by rw [List.getElem?_map, List.getElem?_range hi]; rfl
  refine ⟨P, hX, hM, hP, ?_, fun i hi => by have := x3 i _ (hL i hi); rwa [Nat.zero_add] at this, ?_, fun i hi => by have := m3 i _ (hL i hi); rwa [Nat.zero_add] at this⟩
  · rw [nI_0] at x1
    unfold f_X_putOrder
    rw [x1]; rfl
  · rw [nI_0] at m1
    unfold f_M_layOrder
    rw [m_fct0 hT ht, Option.bind_some, if_pos (by rw [nIlt (by omega) (by omega)]; exact hr), hT, m1]; rfl
theorem tot_l {N t d0 s d : Nat} {σ0 τ0 : St} {CL CL' : List Cl} {CLs : List (List Cl)} {x1 x2 x3 : Int32} {P : Nat → Nat} (hP : ∀ i, i < t → P i < t) (ht : t ≤ 5) : ∀ (k i a f f' : Nat) (σ τ : St), AK σ0 τ0 σ τ → KR σ 67 τ t d CL' → LK τ → (∀ j, j < t → vJ σ 87 j = nI (P j) ∧ vJ τ 21 j = nI (P j)) → i + k = t → k < f → k < f' → ∃ a' σ' τ', f_X_takenByOrder_l15 f 0 (nI a) (nI i) σ = some (nI a', σ') ∧ f_M_order_l45 f' 0 x1 x2 x3 (nI a) (nI i) τ = some (nI a', τ') ∧ AK σ0 τ0 σ' τ' ∧ LK τ' ∧ (vJ σ' 87 = vJ σ 87 ∧ vJ σ' 88 = vJ σ 88 ∧ vJ τ' 21 = vJ τ 21 ∧ vJ τ' 22 = vJ τ 22) ∧ a' ≤ a + 990 * k := by
  intro k
  induction k with
  | zero =>
    intro i a f f' σ τ hA hK hl hq hi hf hf'
    obtain ⟨f, rfl⟩ : ∃ z, f = z + 1 := ⟨f - 1, by omega⟩
    obtain ⟨f', rfl⟩ : ∃ z, f' = z + 1 := ⟨f' - 1, by omega⟩
    refine ⟨a, σ, τ, ?_, ?_, hA, hl, ⟨rfl, rfl, rfl, rfl⟩, by omega⟩
    · rw [f_X_takenByOrder_l15, hK.1.2.2.1, if_pos (nI_le (by omega) (by omega))]
    · rw [f_M_order_l45, hK.1.2.2.2.1, if_pos (nI_le (by omega) (by omega))]
  | succ k ih =>
    intro i a f f' σ τ hA hK hl hq hi hf hf'
    obtain ⟨f, rfl⟩ : ∃ z, f = z + 1 := ⟨f - 1, by omega⟩
    obtain ⟨f', rfl⟩ : ∃ z, f' = z + 1 := ⟨f' - 1, by omega⟩
    obtain ⟨q1, q2⟩ := hq i (by omega)
    obtain ⟨v, m, σ1, τ1, e1, e2, K1, A1, M1, -, hv, hm, I1⟩ := tak hK (by decide) (hP i (by omega))
    have hok : ok (nI i) 5 = true := ok_nI (by omega) (by decide)
    have w1 : vJ σ1 87 = vJ σ 87 := A1.2.1 87 (by decide) (by decide) (by decide) (by decide)
    have w2 : vJ σ1 88 = vJ σ 88 := A1.2.1 88 (by decide) (by decide) (by decide) (by decide)
    have w3 : vJ τ1 21 = vJ τ 21 := M1.2.1 21 (by decide) (by decide) (by decide) (by decide)
    have w4 : vJ τ1 22 = vJ τ 22 := M1.2.1 22 (by decide) (by decide) (by decide) (by decide)
    rw [f_X_takenByOrder_l15, hK.1.2.2.1, if_neg (nI_ge (by omega) (by omega)), if_neg (by rw [show (5 : Int32) = nI 5 by decide, nIle (by decide) (by omega)]; omega), f_M_order_l45, hK.1.2.2.2.1, if_neg (nI_ge (by omega) (by omega))]
    simp only [hok, if_true, nx_nI (show i < 2 ^ 31 by omega), q1, q2, e1, e2, Option.bind_some, nI_add, nI_1]
    obtain ⟨a', σ', τ', r1, r2, r3, r4, ⟨g1, g2, g3, g4⟩, r5⟩ := ih (i + 1) (a + v) f f' σ1 τ1 (hA.d A1.d M1.d) K1 (M1.d.lk hl) (fun j hj => by rw [w1, w3]; exact hq j hj) (by omega) (by omega) (by omega)
    exact ⟨a', σ', τ', r1, r2, r3, r4, ⟨g1.trans w1, g2.trans w2, g3.trans w3, g4.trans w4⟩, by omega⟩
theorem bec_J {σ σ1 : St} (ht : tgb BX (vH σ 49) 1 = true) (h : f_K_becomes 67 49 σ = some σ1) : ∀ k, k < 68 ∨ 74 < k → vJ σ1 k = vJ σ k := by
  obtain ⟨σ', e, -, -, -, -, -, x6, -⟩ := bec_67_49 ht
  rw [h] at e
  cases e
  exact x6
theorem rank1 {N t d s r : Nat} {σ τ : St} {CL : List Cl} {CLs : List (List Cl)} {x1 x2 x3 : Int32} (h : RR N σ τ t d CL CLs s) (ht : t ≤ 5) (hr : r < fct t) : ∃ (P : Nat → Nat) (a : Nat) (σ1 σ2 τ1 τ2 τ3 τ4 : St), f_X_putOrder 0 (nI r) (nI (fct t)) (nI t) σ = some σ1 ∧ f_X_takenByOrder 0 σ1 = some (nI a, σ2) ∧ f_M_layOrder 0 (nI r) τ = some (true, τ1) ∧ f_M_keep 0 τ1 = some τ2 ∧ f_M_order_l45 FU 0 x1 x2 x3 0 0 τ2 = some (nI a, τ3) ∧ f_M_putBack 0 τ3 = some τ4 ∧ RR N σ2 τ4 t d CL CLs s ∧ PX σ σ2 ∧ NX σ σ2 ∧ (∀ i, i < t → vJ σ2 87 i = nI (P i) ∧ vJ τ4 21 i = nI (P i)) ∧ vJ σ2 88 = vJ σ 88 ∧ vJ τ4 22 = vJ τ 22 ∧ a ≤ 4950 := by
  obtain ⟨P, hX, hM, hP, e1, e2, e3, e4⟩ := lay2 (σ := σ) h.1.1.1.2.2.2.1 ht hr
  have px : PX σ (sJ σ 87 hX) := ⟨fun _ _ _ _ => rfl, fun k _ q _ => by rw [vJ_sJ, if_neg q], fun _ => rfl, fun _ _ _ => rfl⟩
  have nx : NX σ (sJ σ 87 hX) := ⟨fun _ _ => rfl, rfl, rfl, rfl, rfl⟩
  have h' : RR N (sJ σ 87 hX) (sJ τ 21 hM) t d CL CLs s := h.keep px nx ⟨fun _ _ => rfl, fun k q => by simp at q; rw [vJ_sJ, if_neg (by omega)], fun _ _ => rfl⟩ rfl rfl ⟨rfl, rfl, rfl, rfl⟩ (fun _ _ => ⟨rfl, rfl, rfl⟩)
  obtain ⟨σ1, τ1, f1, f2, hA, hk, hK, hl⟩ := ask0 h'
  have bj := bec_J (tgb_of h'.1.1.2.2.2.2.2.2.2.2.1) f1
  obtain ⟨a, σ2, τ2, g1, g2, hA2, hl2, ⟨w1, w2, w3, w4⟩, ha⟩ := tot_l (N := N) (s := s) (CL := CL) (CLs := CLs) (d0 := d) (x1 := x1) (x2 := x2) (x3 := x3) hP ht t 0 0 FU FU σ1 τ1 hA hK hl (fun j hj => by
    rw [bj 87 (by decide), hk.2 21 (by decide) (by decide) (by decide), vJ_sJ, vJ_sJ, if_pos rfl, if_pos rfl]
    exact ⟨e2 j hj, e4 j hj⟩) (by omega) (by unfold FU; omega) (by unfold FU; omega)
  obtain ⟨τ3, e5, hb, hR⟩ := hA2.back0 h' hl2
  rw [nI_0] at g1 g2
  refine ⟨P, a, _, σ2, _, τ1, τ2, τ3, e1, ?_, e3, f2, g2, e5, hR, px.tr hA2.1, nx.tr hA2.2.1, fun i hi => ?_, ?_, ?_, by omega⟩
  · unfold f_X_takenByOrder
    rw [f1, Option.bind_some, g1]; rfl
  · rw [w1, bj 87 (by decide), hb.2 21 (by decide) (by decide) (by decide), w3, hk.2 21 (by decide) (by decide) (by decide), vJ_sJ, vJ_sJ, if_pos rfl, if_pos rfl]
    exact ⟨e2 i hi, e4 i hi⟩
  · rw [w2, bj 88 (by decide)]; rfl
  · rw [hb.2 22 (by decide) (by decide) (by decide), w4, hk.2 22 (by decide) (by decide) (by decide)]; rfl
theorem copy5 {x1 x2 x3 : Int32} : ∀ (k i f : Nat) (τ : St), i + k = 5 → k < f → ∃ h, f_M_order_l95 f 0 x1 x2 x3 (nI i) τ = some (sJ τ 22 h) ∧ ∀ j, j < 5 → h j = if i ≤ j then vJ τ 21 j else vJ τ 22 j := by
  intro k
  induction k with
  | zero =>
    intro i f τ hi hf
    obtain ⟨f, rfl⟩ : ∃ z, f = z + 1 := ⟨f - 1, by omega⟩
    obtain rfl : i = 5 := by omega
    refine ⟨vJ τ 22, ?_, fun j hj => by rw [if_neg (by omega)]⟩
    rw [f_M_order_l95, if_pos (by decide), sJ_self]
  | succ k ih =>
    intro i f τ hi hf
    obtain ⟨f, rfl⟩ : ∃ z, f = z + 1 := ⟨f - 1, by omega⟩
    have hok : ok (nI i) 5 = true := ok_nI (by omega) (by decide)
    obtain ⟨h, e, w⟩ := ih (i + 1) f (sJ τ 22 (upd (vJ τ 22) i (vJ τ 21 i))) (by omega) (by omega)
    rw [f_M_order_l95, if_neg (by rw [show (5 : Int32) = nI 5 by decide, nIle (by decide) (by omega)]; omega)]
    simp only [hok, if_true, nx_nI (show i < 2 ^ 31 by omega), st, nI_1]
    rw [e, sJ_sJ]
    refine ⟨h, rfl, fun j hj => ?_⟩
    rw [w j hj, show vJ (sJ τ 22 (upd (vJ τ 22) i (vJ τ 21 i))) 21 = vJ τ 21 from rfl, show vJ (sJ τ 22 (upd (vJ τ 22) i (vJ τ 21 i))) 22 = upd (vJ τ 22) i (vJ τ 21 i) from rfl]
    by_cases h1 : i + 1 ≤ j
    · rw [if_pos h1, if_pos (by omega)]
    · rw [if_neg h1]
      by_cases h2 : j = i
      · subst h2; rw [upd_s, if_pos (Nat.le_refl _)]
      · rw [upd_n h2, if_neg (by omega)]
