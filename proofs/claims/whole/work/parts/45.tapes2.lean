/-! ===== PURE: calls on tapes: tape, judge; taken ===== -/
theorem sL_sL (σ : St) (c : Nat) (h1 h2 : Nat → Int64) : sL (sL σ c h1) c h2 = sL σ c h2 := by
  unfold sL
  refine Prod.ext rfl (Prod.ext rfl (Prod.ext ?_ rfl))
  funext a
  show up1 (up1 σ.2.2.1 c h1) c h2 a = up1 σ.2.2.1 c h2 a
  unfold up1
  split <;> rfl
theorem sL_self (σ : St) (c : Nat) : sL σ c (vL σ c) = σ := by
  unfold sL
  refine Prod.ext rfl (Prod.ext rfl (Prod.ext ?_ rfl))
  funext z
  show up1 σ.2.2.1 c (vL σ c) z = σ.2.2.1 z
  unfold up1
  split
  · rename_i h; rw [h]; rfl
  · rfl
theorem x_zero {c : Nat} : ∀ (k i f : Nat) (σ : St), i + k = 60 → k < f → ∃ h, f_jA_fill_l6 f c 0 60 (nI i) σ = some (sL σ c h) ∧ ∀ j, j < 60 → h j = if i ≤ j then 0 else vL σ c j := by
  intro k
  induction k with
  | zero =>
    intro i f σ hi hf
    obtain ⟨f, rfl⟩ : ∃ z, f = z + 1 := ⟨f - 1, by omega⟩
    obtain rfl : i = 60 := by omega
    refine ⟨vL σ c, ?_, fun j hj => by rw [if_neg (by omega)]⟩
    rw [f_jA_fill_l6, if_pos (by decide), sL_self]
  | succ k ih =>
    intro i f σ hi hf
    obtain ⟨f, rfl⟩ : ∃ z, f = z + 1 := ⟨f - 1, by omega⟩
    obtain ⟨h, e, w⟩ := ih (i + 1) f (sL σ c (va_up (vL σ c) i 0)) (by omega) (by omega)
    rw [f_jA_fill_l6, if_neg (by rw [show (60 : Int32) = nI 60 by decide, nIle (by decide) (by omega)]; omega), if_pos (ok_nI (by omega) (by decide)), nx_nI (by omega)]
    simp only [st, nI_1]
    rw [e, sL_sL]
    refine ⟨h, rfl, fun j hj => ?_⟩
    rw [w j hj, vL_sL, if_pos rfl]
    by_cases h2 : j = i
    · subst h2; rw [va_up_self, if_neg (by omega), if_pos (Nat.le_refl _)]
    · rw [va_up_ne _ _ h2]
      by_cases h3 : i + 1 ≤ j
      · rw [if_pos h3, if_pos (by omega)]
      · rw [if_neg h3, if_neg (by omega)]
theorem m_zero {p : Nat} (hp : p < 6) : ∀ (k i f : Nat) (τ : St), i + k = 60 → k < f → ∃ h, f_M_tape_l69 f 0 (nI p) (nI i) τ = some (sL τ 39 h) ∧ ∀ j, h j = if 60 * p + i ≤ j ∧ j < 60 * p + 60 then 0 else vL τ 39 j := by
  intro k
  induction k with
  | zero =>
    intro i f τ hi hf
    obtain ⟨f, rfl⟩ : ∃ z, f = z + 1 := ⟨f - 1, by omega⟩
    obtain rfl : i = 60 := by omega
    refine ⟨vL τ 39, ?_, fun j => by rw [if_neg (by omega)]⟩
    rw [f_M_tape_l69, if_pos (by decide), sL_self]
  | succ k ih =>
    intro i f τ hi hf
    obtain ⟨f, rfl⟩ : ∃ z, f = z + 1 := ⟨f - 1, by omega⟩
    have e2 : 60 * nI p + nI i = nI (60 * p + i) := by rw [show (60 : Int32) = nI 60 by decide, pk_mul, nI_add]
    obtain ⟨h, e, w⟩ := ih (i + 1) f (sL τ 39 (va_up (vL τ 39) (60 * p + i) 0)) (by omega) (by omega)
    rw [f_M_tape_l69, if_neg (by rw [show (60 : Int32) = nI 60 by decide, nIle (by decide) (by omega)]; omega), e2, if_pos (ok_nI (by omega) (by decide)), nx_nI (by omega)]
    simp only [st, nI_1]
    rw [e, sL_sL]
    refine ⟨h, rfl, fun j => ?_⟩
    rw [w j, vL_sL, if_pos rfl]
    by_cases h2 : j = 60 * p + i
    · subst h2; rw [va_up_self, if_neg (by omega), if_pos (by omega)]
    · rw [va_up_ne _ _ h2]
      by_cases h3 : 60 * p + (i + 1) ≤ j ∧ j < 60 * p + 60
      · rw [if_pos h3, if_pos (by omega)]
      · rw [if_neg h3, if_neg (by omega)]
theorem tape1 {N : Nat} {σ τ : St} {t d s i z : Nat} {CL : List Cl} {CLs : List (List Cl)} {so : Int32} (h : RR N σ τ t d CL CLs s) (hi : i < 6) (hz : z ≤ 60) (hs : so = -1 ∧ z = 0 ∨ so = 0 ∨ so = 1 ∨ so = 2 ∨ so = 3 ∨ so = 4) : ∃ σ' τ', f_T_become (92 + 2 * i) so (nI z) σ = some σ' ∧ f_M_tape_l69 FU 0 (nI i) 0 (sJ (sJ τ 37 (upd (vJ τ 37) i so)) 38 (upd (vJ (sJ τ 37 (upd (vJ τ 37) i so)) 38) i (nI z))) = some τ' ∧ RR N σ' τ' t d CL CLs s := by
  obtain ⟨hX, x1, x2⟩ := x_zero (c := 92 + 2 * i + 1) 60 0 FU (sI (sI σ (92 + 2 * i) 0 so) (92 + 2 * i) 1 (nI z)) rfl (by unfold FU; omega)
  obtain ⟨hM, m1, m2⟩ := m_zero hi 60 0 FU (sJ (sJ τ 37 (upd (vJ τ 37) i so)) 38 (upd (vJ (sJ τ 37 (upd (vJ τ 37) i so)) 38) i (nI z))) rfl (by unfold FU; omega)
  rw [nI_0] at x1 m1
  have e1 : f_T_become (92 + 2 * i) so (nI z) σ = some (sL (sI (sI σ (92 + 2 * i) 0 so) (92 + 2 * i) 1 (nI z)) (92 + 2 * i + 1) hX) := by
    unfold f_T_become f_jA_fill
    simp only [st]
    rw [x1]; rfl
  refine ⟨_, _, e1, m1, h.tape (fun k f hk => ?_) (fun _ => rfl) (fun k hk => by rw [vL_sL, if_neg (by omega)]; rfl) (fun _ => rfl) (fun _ => rfl) (fun k q1 q2 => ?_) (fun k hk => ?_)⟩
  · rw [vI_sL, vI_sI, if_neg (by omega), vI_sI, if_neg (by omega)]
  · rw [vJ_sL, vJ_sJ, if_neg q2, vJ_sJ, if_neg q1]
  · by_cases hki : k = i
    · subst hki
      refine ⟨so, z, hs, hz, ?_, ?_, ?_, ?_, fun a ha => ?_⟩
      · simp [vI_sL, vI_sI]
      · show upd (vJ τ 37) k so k = so
        rw [upd_s]
      · simp [vI_sL, vI_sI]
      · show upd (vJ τ 38) k (nI z) k = nI z
        rw [upd_s]
      · rw [vL_sL, if_pos (by omega), vL_sL, if_pos rfl, x2 a ha, if_pos (Nat.zero_le _), m2, if_pos (by omega)]
    · obtain ⟨so', z', g1, g2, g3, g4, g5, g6, g7⟩ := h.2.1.2.2.2.2.1 k hk
      refine ⟨so', z', g1, g2, ?_, ?_, ?_, ?_, fun a ha => ?_⟩
      · rw [vI_sL, vI_sI, if_neg (by omega), vI_sI, if_neg (by omega)]; exact g3
      · show upd (vJ τ 37) i so k = so'
        rw [upd_n hki]; exact g4
      · rw [vI_sL, vI_sI, if_neg (by omega), vI_sI, if_neg (by omega)]; exact g5
      · show upd (vJ τ 38) i (nI z) k = nI z'
        rw [upd_n hki]; exact g6
      · rw [vL_sL, if_neg (by omega), vL_sL, if_pos rfl, m2, if_neg (by omega)]; exact g7 a ha
theorem op_tape {N : Nat} {σ τ : St} {t d s : Nat} {CL : List Cl} {CLs : List (List Cl)} (h : RR N σ τ t d CL CLs s) (p v w : Int32) : Sm N (f_X_tape 0 p v w σ) (f_M_tape 0 p v w τ) := by
  unfold f_X_tape f_M_tape
  rw [xT, mT, in_X]
  refine sm_ite (fun _ => sm_ret h _) (fun hp => ?_)
  obtain ⟨i, hi, rfl⟩ := tape_i hp
  have hok : ok (nI i) 6 = true := ok_nI hi (by decide)
  simp only [hok, if_true, nx_nI (show i < 2 ^ 31 by omega), st]
  by_cases h1 : v = -1
  · subst h1
    obtain ⟨σ', τ', e1, e2, hR⟩ := tape1 h hi (z := 0) (so := -1) (by decide) (Or.inl ⟨rfl, rfl⟩)
    rw [nI_0] at e1 e2
    rw [if_pos rfl, if_neg (by decide), if_pos (by decide), if_pos (by decide), if_neg (by decide), e1]
    simp only [Option.bind_some, e2]
    exact sm_ret hR _
  rw [if_neg h1]
  by_cases h2 : f_M_in 0 v 0 4 = false
  · rw [if_pos h2, if_pos ?_]
    · exact sm_ret h _
    · unfold f_M_in at h2 ⊢
      by_cases q : v < -1
      · rw [if_pos q]
      · rw [if_neg q]
        by_cases q0 : v < 0
        · exfalso
          have a1 := Int32.le_iff_toInt_le.mp (Int32.not_lt.mp q)
          have a2 := Int32.lt_iff_toInt_lt.mp q0
          apply h1
          apply Int32.toInt_inj.mp
          rw [show (-1 : Int32).toInt = -1 by decide] at a1 ⊢
          rw [show (0 : Int32).toInt = 0 by decide] at a2
          omega
        · rw [if_neg q0] at h2; exact h2
  · rw [if_neg h2]
    obtain ⟨so, -, hso, rfl⟩ := in_t (neg_f h2) (a := 0) (b := 4) (by decide) (by decide) (by decide) (by decide)
    have e3 : f_M_in 0 (nI so) (-1) 4 = true := by
      unfold f_M_in
      rw [if_neg (Int32.not_lt.mpr (Int32.le_trans (by decide) (nI_pos' (show so < 2 ^ 31 by omega)))), if_neg (by rw [show (4 : Int32) = nI 4 by decide, nIlt (by decide) (by omega)]; omega)]
    have n0 : ¬ nI so < 0 := nI_pos (by omega)
    have p0 : 0 ≤ nI so := nI_pos' (by omega)
    simp only [e3, n0, p0, if_true, if_false, Option.bind_some, Bool.true_eq_false]
    refine sm_ite (fun hw1 => sm_ite (fun hw2 => ?_) (fun _ => sm_ret h _)) (fun _ => sm_ret h _)
    have hw : f_M_in 0 w 0 60 = true := by
      unfold f_M_in
      rw [if_neg (Int32.not_lt.mpr hw2), if_neg (Int32.not_lt.mpr hw1)]
    obtain ⟨z, -, hz, rfl⟩ := in_t hw (a := 0) (b := 60) (by decide) (by decide) (by decide) (by decide)
    obtain ⟨σ', τ', e1, e2, hR⟩ := tape1 h hi (z := z) (so := nI so) hz (Or.inr (by
      rcases (show so = 0 ∨ so = 1 ∨ so = 2 ∨ so = 3 ∨ so = 4 by omega) with rfl | rfl | rfl | rfl | rfl <;> decide))
    rw [e1]
    simp only [Option.bind_some, e2]
    exact sm_ret hR _
