/-! ===== PURE: askings: order, all ranks ===== -/
theorem order_l {N t d s : Nat} {CL : List Cl} {CLs : List (List Cl)} {p : Int32} (ht : t ≤ 5) : ∀ (k r f f' : Nat) (x2 : Int32) (σ τ : St), RR N σ τ t d CL CLs s → ((r = 0 ∧ x2 = -1) ∨ ∃ a, a ≤ 4950 ∧ x2 = nI a ∧ ∀ j, j < t → vJ σ 88 j = vJ τ 22 j) → r + k = fct t → k < f → k < f' → ∃ a σ' τ', f_X_order_l55 f 0 p (nI (fct t)) x2 (nI r) σ = some (nI a, σ') ∧ f_M_order_l27 f' 0 p x2 (nI r) τ = some (nI a, τ') ∧ RR N σ' τ' t d CL CLs s ∧ PX σ σ' ∧ NX σ σ' ∧ ∀ j, j < t → vJ σ' 88 j = vJ τ' 22 j := by
  have hfc := fct_le ht
  intro k
  induction k with
  | zero =>
    intro r f f' x2 σ τ hR hq hr hf hf'
    obtain ⟨f, rfl⟩ : ∃ z, f = z + 1 := ⟨f - 1, by omega⟩
    obtain ⟨f', rfl⟩ : ∃ z, f' = z + 1 := ⟨f' - 1, by omega⟩
    obtain rfl : r = fct t := by omega
    rcases hq with ⟨h0, -⟩ | ⟨a, ha, rfl, hb⟩
    · omega
    refine ⟨a, σ, τ, ?_, ?_, hR, PX.rf, NX.rf, hb⟩
    · rw [f_X_order_l55, if_pos (nI_le (by omega) (by omega))]
    · rw [f_M_order_l27]
      unfold f_M_layOrder
      rw [m_fct0 hR.1.1.1.2.2.2.1 ht, Option.bind_some, if_neg (by rw [nIlt (by omega) (by omega)]; omega), Option.bind_some, if_pos rfl]
  | succ k ih =>
    intro r f f' x2 σ τ hR hq hr hf hf'
    obtain ⟨f, rfl⟩ : ∃ z, f = z + 1 := ⟨f - 1, by omega⟩
    obtain ⟨f', rfl⟩ : ∃ z, f' = z + 1 := ⟨f' - 1, by omega⟩
    obtain ⟨P, a, σ1, σ2, τ1, τ2, τ3, τ4, e1, e2, e3, e4, e5, e6, hR2, px, nX, hP, b1, b2, ha⟩ := rank1 (x1 := p) (x2 := x2) (x3 := nI r) hR ht (r := r) (by omega)
    rw [f_X_order_l55, if_neg (nI_ge (by omega) (by omega)), hR.1.1.1.2.2.1, f_M_order_l27, e1, e3]
    simp only [Option.bind_some, Bool.true_eq_false, if_false, e2, e4, e5, e6, nI_1]
    have keepgo : (∃ a', a' ≤ 4950 ∧ x2 = nI a' ∧ ∀ j, j < t → vJ σ 88 j = vJ τ 22 j) → nI a ≤ x2 → ∃ a σ' τ', f_X_order_l55 f 0 p (nI (fct t)) x2 (nI (r + 1)) σ2 = some (nI a, σ') ∧ f_M_order_l27 f' 0 p x2 (nI (r + 1)) τ4 = some (nI a, τ') ∧ RR N σ' τ' t d CL CLs s ∧ PX σ σ' ∧ NX σ σ' ∧ ∀ j, j < t → vJ σ' 88 j = vJ τ' 22 j := by
      rintro ⟨a', h1, h2, h3⟩ -
      obtain ⟨a2, σ', τ', r1, r2, r3, r4, r5, r6⟩ := ih (r + 1) f f' x2 σ2 τ4 hR2 (Or.inr ⟨a', h1, h2, fun j hj => by rw [b1, b2]; exact h3 j hj⟩) (by omega) (by omega) (by omega)
      exact ⟨a2, σ', τ', r1, r2, r3, px.tr r4, nX.tr r5, r6⟩
    by_cases hc : nI a ≤ x2
    · rw [if_pos hc, if_neg (Int32.not_lt.mpr hc)]
      rcases hq with ⟨-, h0⟩ | hq
      · exfalso
        rw [h0] at hc
        exact absurd (Int32.le_trans (nI_pos' (show a < 2 ^ 31 by omega)) hc) (by decide)
      · exact keepgo hq hc
    · rw [if_neg hc, if_pos (Int32.not_le.mp hc)]
      obtain ⟨h, c1, c2⟩ := copy5 (x1 := p) (x2 := nI a) (x3 := nI r) 5 0 FU τ4 rfl (by unfold FU; omega)
      rw [nI_0] at c1
      simp only [show okc 0 5 5 = true by decide, if_true, st, c1, Option.bind_some]
      have hR3 : RR N (sJ σ2 88 (va_cpy (vJ σ2 87) (vJ σ2 88) (nx 0) (nx 0) (nx 5))) (sJ τ4 22 h) t d CL CLs s := hR2.keep ⟨fun _ _ _ _ => rfl, fun k _ _ q => by rw [vJ_sJ, if_neg q], fun _ => rfl, fun _ _ _ => rfl⟩ ⟨fun _ _ => rfl, rfl, rfl, rfl, rfl⟩ ⟨fun _ _ => rfl, fun k q => by simp at q; rw [vJ_sJ, if_neg (by omega)], fun _ _ => rfl⟩ rfl rfl ⟨rfl, rfl, rfl, rfl⟩ (fun _ _ => ⟨rfl, rfl, rfl⟩)
      obtain ⟨a2, σ', τ', r1, r2, r3, r4, r5, r6⟩ := ih (r + 1) f f' (nI a) _ _ hR3 (Or.inr ⟨a, ha, rfl, fun j hj => by
        rw [vJ_sJ, vJ_sJ, if_pos rfl, if_pos rfl, c2 j (by omega), if_pos (Nat.zero_le _), (hP j hj).2]
        simp [va_cpy, show nx 0 = 0 by decide, show nx 5 = 5 by decide, show j < 5 by omega, (hP j hj).1]⟩) (by omega) (by omega) (by omega)
      have pp : PX σ2 (sJ σ2 88 (va_cpy (vJ σ2 87) (vJ σ2 88) (nx 0) (nx 0) (nx 5))) := ⟨fun _ _ _ _ => rfl, fun k _ _ q => by rw [vJ_sJ, if_neg q], fun _ => rfl, fun _ _ _ => rfl⟩
      have nn : NX σ2 (sJ σ2 88 (va_cpy (vJ σ2 87) (vJ σ2 88) (nx 0) (nx 0) (nx 5))) := ⟨fun _ _ => rfl, rfl, rfl, rfl, rfl⟩
      exact ⟨a2, σ', τ', r1, r2, r3, px.tr (pp.tr r4), nX.tr (nn.tr r5), r6⟩
theorem PX.sym {a b : St} (h : PX a b) : PX b a := ⟨fun k f q1 q2 => (h.1 k f q1 q2).symm, fun k q1 q2 q3 => (h.2.1 k q1 q2 q3).symm, fun k => (h.2.2.1 k).symm, fun k q1 q2 => (h.2.2.2 k q1 q2).symm⟩
theorem NX.sym {a b : St} (h : NX a b) : NX b a := ⟨fun f q => (h.1 f q).symm, h.2.1.symm, h.2.2.1.symm, h.2.2.2.1.symm, h.2.2.2.2.symm⟩
theorem op_order {N : Nat} {σ τ : St} {t d s : Nat} {CL : List Cl} {CLs : List (List Cl)} (h : RR N σ τ t d CL CLs s) (p : Int32) : Sm N (f_X_order 0 p σ) (f_M_order 0 p τ) := by
  unfold f_X_order f_M_order
  rw [in_X, h.1.1.1.2.2.1, h.1.1.1.2.2.2.1]
  refine sm_ite (fun _ => sm_ret h _) (fun hp => sm_ite (fun h5 => ?_) (fun _ => sm_ret h _))
  have ht6 := h.1.1.1.1
  have ht : t ≤ 5 := by rw [show (5 : Int32) = nI 5 by decide, nIle (by omega) (by decide)] at h5; exact h5
  have hfc := fct_le ht
  obtain ⟨a, σ', τ', e1, e2, hR, px, nX, hb⟩ := order_l (p := p) ht (fct t) 0 FU FU (-1) σ τ h (Or.inl ⟨rfl, rfl⟩) (by omega) (by unfold FU; omega) (by unfold FU; omega)
  rw [nI_0] at e1 e2
  rw [x_fct ht, Option.bind_some, e1, e2, Option.bind_some, Option.bind_some]
  have hT' := hR.1.1.1.2.2.2.1
  by_cases h0 : 0 ≤ p
  · have hp2 : f_M_in 0 p 0 4 = true := by
      have := neg_f hp
      unfold f_M_in at this ⊢
      rw [if_neg (Int32.not_lt.mpr h0)]
      by_cases q : p < -1
      · rw [if_pos q] at this; cases this
      · rw [if_neg q] at this; exact this
    obtain ⟨i, -, hi, rfl⟩ := in_t hp2 (a := 0) (b := 4) (by decide) (by decide) (by decide) (by decide)
    simp only [h0, if_true, hT']
    by_cases hit : i < t
    · rw [if_pos (by rw [nIlt (by omega) (by omega)]; exact hit), if_pos (ok_nI (by omega) (by decide)), if_neg (nI_ge hit (by omega)), if_pos (ok_nI (by omega) (by decide)), nx_nI (by omega), hb i hit]
      exact sm_ret hR _
    · rw [if_neg (by rw [nIlt (by omega) (by omega)]; exact hit), if_pos (nI_le (by omega) (by omega))]
      exact sm_ret (hR.keep px.sym nX.sym PM.rf rfl rfl ⟨rfl, rfl, rfl, rfl⟩ (fun _ _ => ⟨rfl, rfl, rfl⟩)) _
  · rw [if_pos (Int32.lt_of_lt_of_le (Int32.not_le.mp h0) (nI_pos' (by omega)))]
    simp only [h0, if_false]
    exact sm_ret hR _
