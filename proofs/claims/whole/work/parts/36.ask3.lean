/-! ===== PURE: askings: on; without, least, full ===== -/
theorem op_on {N : Nat} {σ τ : St} {t d s : Nat} {CL : List Cl} {CLs : List (List Cl)} (h : RR N σ τ t d CL CLs s) (p w : Int32) : Sm N (f_X_on 0 p w σ) (f_M_on 0 p w τ) := by
  have ht := h.1.1.1.1
  have a4 : vI τ 0 0 = nI t := h.1.1.1.2.2.2.1
  have hd := h.1.2.1
  have B1 : f_X_isTaker 0 (w - 10) σ = f_M_in 0 w 10 (9 + nI t) := by
    have := tk_in τ (p := w) (c := 10) ht (by decide) (by decide)
    rw [show nI 10 = (10 : Int32) by decide, show nI (10 - 1) = (9 : Int32) by decide] at this
    rw [h.tk, ← this]; unfold f_M_isTaker; rw [a4]
  have B2 : f_X_isTaker 0 (w - 20) σ = f_M_in 0 w 20 (19 + nI t) := by
    have := tk_in τ (p := w) (c := 20) ht (by decide) (by decide)
    rw [show nI 20 = (20 : Int32) by decide, show nI (20 - 1) = (19 : Int32) by decide] at this
    rw [h.tk, ← this]; unfold f_M_isTaker; rw [a4]
  have R : ∀ n, n ≤ 60 → ∃ m σ1 σ2 τ1 τ2 τ3 x5 x6 y6 g, f_K_becomes 67 49 σ = some σ1 ∧ f_K_go 67 (nI n) (-1) (-1) σ1 = some (nI m, σ2) ∧ f_M_keep 0 τ = some τ1 ∧ f_M_goDays 0 (nI n) τ1 = some τ2 ∧ f_M_putBack 0 τ2 = some τ3 ∧ f_M_sum 0 0 τ = some x5 ∧ f_M_sum 0 0 τ2 = some (x5 + nI m) ∧ f_M_sum 0 1 τ = some x6 ∧ f_M_sum 0 1 τ2 = some y6 ∧ f_X_sum (67 + 6) (vI σ2 67 0) σ2 = some y6 ∧ f_X_sum (49 + 6) (vI σ2 49 0) σ2 = some x6 ∧ (f_X_isTaker 0 (w - 10) σ2 = f_X_isTaker 0 (w - 10) σ ∧ f_X_isTaker 0 (w - 20) σ2 = f_X_isTaker 0 (w - 20) σ) ∧ (vI σ2 67 8 = nI g ∧ vI τ2 0 1 = nI g) ∧ (∀ i, i < 6 → vJ σ2 72 i - vJ σ2 54 i = vJ τ2 5 i - vJ τ2 19 i ∧ vJ σ2 71 i - vJ σ2 53 i = vJ τ2 4 i - vJ τ2 18 i) ∧ RR N σ2 τ3 t d CL CLs s := by
    intro n hn
    obtain ⟨σ1, τ1, e1, e2, hA, hk, hK, hl⟩ := ask0 h
    obtain ⟨m, σ2, τ2, q1, q2, q3, q4, q5, q6, q7, q8⟩ := go2 (by decide) hK (N := n) (x2 := -1) (x3 := -1) (Or.inl ⟨rfl, hl.2.2.2⟩) (Or.inl ⟨rfl, hl.2.2.1⟩) hn (by omega)
    have hA2 := hA.d q6 q7
    obtain ⟨τ3, e5, -, hR⟩ := hA2.back0 h (q7.lk hl)
    obtain ⟨g, -, g1, g2⟩ := q5.2.1
    have i49 : vI σ2 49 0 = vI σ 49 0 := hA2.2.1.1 0 (by decide)
    refine ⟨m, σ1, σ2, τ1, τ2, τ3, _, _, _, g, e1, q1, e2, q2, e5, m_sum0 ht a4, ?_, m_sum1 ht a4, m_sum1 ht q5.1.2.2.2.1, ?_, ?_, ⟨?_, ?_⟩, ⟨g1, g2⟩, fun i hi => hA2.more h q5 hi, hR⟩
    · rw [m_sum0 ht q5.1.2.2.2.1, q4, hk.2 5 (by decide) (by decide) (by decide)]
    · rw [q5.1.2.2.1, x_sum ht]
      exact congrArg some (SM_congr (fun i hi => (q5.2.2.1 i (by omega)).2.2.2.2.2))
    · rw [i49, h.1.1.1.2.2.1, x_sum ht]
      exact congrArg some (SM_congr (fun i hi => by rw [show vJ σ2 (49 + 6) = vJ σ (49 + 6) from hA2.2.1.2.2.2.1]; exact (h.1.1.2.2.1 i (by omega)).2.2.2.2.2))
    · unfold f_X_isTaker; rw [i49]
    · unfold f_X_isTaker; rw [i49]
  unfold f_X_on f_M_on
  simp only [B1, B2, in_X, a4]
  cases c1 : f_M_in 0 w 10 (9 + nI t) with
  | true =>
    obtain ⟨i, i1, i2, rfl⟩ := in_t c1 (a := 10) (b := 9 + t) (by decide) (by rw [show (9 : Int32) = nI 9 by decide, nI_add]) (by decide) (by omega)
    have c0 : f_M_in 0 (nI i) 0 2 = false := by
      unfold f_M_in
      rw [if_neg (nI_pos (by omega)), if_pos (by rw [show (2 : Int32) = nI 2 by decide, nIlt (by decide) (by omega)]; omega)]
    simp only [c0, Bool.true_eq_false, if_false, if_true]
    refine sm_ite (fun _ => sm_ret h _) (fun hp => ?_)
    obtain ⟨n, -, hn, rfl⟩ := in_t (neg_f hp) (a := 0) (b := 60) (by decide) (by decide) (by decide) (by decide)
    obtain ⟨m, σ1, σ2, τ1, τ2, τ3, x5, x6, y6, g, e1, e2, e3, e4, e5, e6, e7, e8, e9, e10, e11, ⟨e12, e13⟩, ⟨g1, g2⟩, hm, hR⟩ := R n hn
    obtain ⟨m1, m2⟩ := hm (i - 10) (by omega)
    have es : nI i - 10 = nI (i - 10) := by rw [show (10 : Int32) = nI 10 by decide, pk_sub i1]
    rw [B1, c1, es] at e12
    have n20 : ¬ (20 : Int32) ≤ nI i := by rw [show (20 : Int32) = nI 20 by decide, nIle (by decide) (by omega)]; omega
    have k0 : ¬ nI i = 0 := by rw [show (0 : Int32) = nI 0 by decide, nIeq (by omega) (by decide)]; omega
    have k1 : ¬ nI i = 1 := by rw [show (1 : Int32) = nI 1 by decide, nIeq (by omega) (by decide)]; omega
    have k2 : ¬ nI i = 2 := by rw [show (2 : Int32) = nI 2 by decide, nIeq (by omega) (by decide)]; omega
    unfold f_M_moreOf
    simp only [e1, e2, e3, e4, e5, e6, e7, e8, e9, Option.bind_some, es, e12, Bool.true_eq_false, if_false, if_true, k0, k1, k2, n20, (x_more (show i - 10 < 6 by omega)).2, m2, ok_nI (show i - 10 < 6 by omega) (show 6 < 2 ^ 31 by decide), nx_nI (show i - 10 < 2 ^ 31 by omega)]
    exact sm_ret hR _
  | false =>
    cases c2 : f_M_in 0 w 20 (19 + nI t) with
    | true =>
      obtain ⟨i, i1, i2, rfl⟩ := in_t c2 (a := 20) (b := 19 + t) (by decide) (by rw [show (19 : Int32) = nI 19 by decide, nI_add]) (by decide) (by omega)
      have c0 : f_M_in 0 (nI i) 0 2 = false := by
        unfold f_M_in
        rw [if_neg (nI_pos (by omega)), if_pos (by rw [show (2 : Int32) = nI 2 by decide, nIlt (by decide) (by omega)]; omega)]
      simp only [c0, Bool.true_eq_false, if_false, if_true]
      refine sm_ite (fun _ => sm_ret h _) (fun hp => ?_)
      obtain ⟨n, -, hn, rfl⟩ := in_t (neg_f hp) (a := 0) (b := 60) (by decide) (by decide) (by decide) (by decide)
      obtain ⟨m, σ1, σ2, τ1, τ2, τ3, x5, x6, y6, g, e1, e2, e3, e4, e5, e6, e7, e8, e9, e10, e11, ⟨e12, e13⟩, ⟨g1, g2⟩, hm, hR⟩ := R n hn
      obtain ⟨m1, m2⟩ := hm (i - 20) (by omega)
      have es : nI i - 20 = nI (i - 20) := by rw [show (20 : Int32) = nI 20 by decide, pk_sub i1]
      rw [B1, c1] at e12
      rw [B2, c2, es] at e13
      have n20 : (20 : Int32) ≤ nI i := by rw [show (20 : Int32) = nI 20 by decide, nIle (by decide) (by omega)]; omega
      have k0 : ¬ nI i = 0 := by rw [show (0 : Int32) = nI 0 by decide, nIeq (by omega) (by decide)]; omega
      have k1 : ¬ nI i = 1 := by rw [show (1 : Int32) = nI 1 by decide, nIeq (by omega) (by decide)]; omega
      have k2 : ¬ nI i = 2 := by rw [show (2 : Int32) = nI 2 by decide, nIeq (by omega) (by decide)]; omega
      unfold f_M_moreOf
      simp only [e1, e2, e3, e4, e5, e6, e7, e8, e9, Option.bind_some, e12, es, e13, Bool.true_eq_false, if_false, if_true, k0, k1, k2, n20, (x_more (show i - 20 < 6 by omega)).1, m1, ok_nI (show i - 20 < 6 by omega) (show 6 < 2 ^ 31 by decide), nx_nI (show i - 20 < 2 ^ 31 by omega)]
      exact sm_ret hR _
    | false =>
      cases c0 : f_M_in 0 w 0 2 with
      | false =>
        simp only [if_true]
        exact sm_ret h _
      | true =>
        obtain ⟨i, -, i2, rfl⟩ := in_t c0 (a := 0) (b := 2) (by decide) (by decide) (by decide) (by decide)
        simp only [Bool.true_eq_false, if_false, if_true]
        refine sm_ite (fun _ => sm_ret h _) (fun hp => ?_)
        obtain ⟨n, -, hn, rfl⟩ := in_t (neg_f hp) (a := 0) (b := 60) (by decide) (by decide) (by decide) (by decide)
        obtain ⟨m, σ1, σ2, τ1, τ2, τ3, x5, x6, y6, g, e1, e2, e3, e4, e5, e6, e7, e8, e9, e10, e11, ⟨e12, e13⟩, ⟨g1, g2⟩, hm, hR⟩ := R n hn
        rw [B1, c1] at e12
        rw [B2, c2] at e13
        simp only [e1, e2, e3, e4, e5, e6, e7, e8, e9, e10, e11, Option.bind_some, e12, e13, if_true, g1, g2, sub_nI]
        rcases (show i = 0 ∨ i = 1 ∨ i = 2 by omega) with rfl | rfl | rfl
        · rw [if_pos (by decide), if_pos (by decide), Option.bind_some]; exact sm_ret hR _
        · rw [if_neg (by decide), if_pos (by decide), if_neg (by decide), if_pos (by decide), Option.bind_some]; exact sm_ret hR _
        · rw [if_neg (by decide), if_neg (by decide), if_neg (by decide), if_neg (by decide), if_pos (by decide), Option.bind_some]; exact sm_ret hR _
