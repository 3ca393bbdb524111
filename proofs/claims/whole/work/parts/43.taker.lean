/-! ===== PURE: calls: taker, read, judge ===== -/
theorem x_adm {t : Nat} (ht : t < 6) : ∀ (k i f : Nat) (σ : St), i + k = 4 → k < f → ∃ h, f_K_admit_l57 f 49 (nI t) (nI i) σ = some (sJ σ 56 h) ∧ ∀ j, h j = if 4 * t + i ≤ j ∧ j < 4 * t + 4 then 0 else vJ σ 56 j := by
  intro k
  induction k with
  | zero =>
    intro i f σ hi hf
    obtain ⟨f, rfl⟩ : ∃ z, f = z + 1 := ⟨f - 1, by omega⟩
    obtain rfl : i = 4 := by omega
    refine ⟨vJ σ 56, ?_, fun j => by rw [if_neg (by omega)]⟩
    rw [f_K_admit_l57, if_pos (by decide), sJ_self]
  | succ k ih =>
    intro i f σ hi hf
    obtain ⟨f, rfl⟩ : ∃ z, f = z + 1 := ⟨f - 1, by omega⟩
    have e1 : nI t * 4 + nI i = nI (4 * t + i) := by rw [show (4 : Int32) = nI 4 by decide, pk_mul, nI_add, Nat.mul_comm]
    have hok : ok (nI (4 * t + i)) 24 = true := ok_nI (by omega) (by decide)
    obtain ⟨h, e, w⟩ := ih (i + 1) f (sJ σ 56 (upd (vJ σ 56) (4 * t + i) 0)) (by omega) (by omega)
    rw [f_K_admit_l57, if_neg (by rw [show (4 : Int32) = nI 4 by decide, nIle (by decide) (by omega)]; omega)]
    simp only [e1, hok, if_true, nx_nI (show 4 * t + i < 2 ^ 31 by omega), st, nI_1, show (49 : Nat) + 7 = 56 by rfl]
    rw [e, sJ_sJ]
    refine ⟨h, rfl, fun j => ?_⟩
    rw [w j, vJ_sJ, if_pos rfl]
    by_cases h2 : j = 4 * t + i
    · subst h2
      rw [upd_s, if_pos (by omega)]
      split <;> rfl
    · rw [upd_n h2]
      by_cases h3 : 4 * t + (i + 1) ≤ j ∧ j < 4 * t + 4
      · rw [if_pos h3, if_pos (by omega)]
      · rw [if_neg h3, if_neg (by omega)]
theorem m_adm {t : Nat} (ht : t < 6) : ∀ (k i f : Nat) (τ : St), vI τ 0 0 = nI t → i + k = 4 → k < f → ∃ h, f_M_taker_l113 f 0 (nI i) τ = some (sJ τ 7 h) ∧ ∀ j, h j = if 4 * t + i ≤ j ∧ j < 4 * t + 4 then 0 else vJ τ 7 j := by
  intro k
  induction k with
  | zero =>
    intro i f τ hT hi hf
    obtain ⟨f, rfl⟩ : ∃ z, f = z + 1 := ⟨f - 1, by omega⟩
    obtain rfl : i = 4 := by omega
    refine ⟨vJ τ 7, ?_, fun j => by rw [if_neg (by omega)]⟩
    rw [f_M_taker_l113, if_pos (by decide), sJ_self]
  | succ k ih =>
    intro i f τ hT hi hf
    obtain ⟨f, rfl⟩ : ∃ z, f = z + 1 := ⟨f - 1, by omega⟩
    have e1 : 4 * nI t + nI i = nI (4 * t + i) := by rw [show (4 : Int32) = nI 4 by decide, pk_mul, nI_add]
    have hok : ok (nI (4 * t + i)) 24 = true := ok_nI (by omega) (by decide)
    obtain ⟨h, e, w⟩ := ih (i + 1) f (sJ τ 7 (upd (vJ τ 7) (4 * t + i) 0)) hT (by omega) (by omega)
    rw [f_M_taker_l113, if_neg (by rw [show (4 : Int32) = nI 4 by decide, nIle (by decide) (by omega)]; omega)]
    simp only [hT, e1, hok, if_true, nx_nI (show 4 * t + i < 2 ^ 31 by omega), st, nI_1]
    rw [e, sJ_sJ]
    refine ⟨h, rfl, fun j => ?_⟩
    rw [w j, vJ_sJ, if_pos rfl]
    by_cases h2 : j = 4 * t + i
    · subst h2
      rw [upd_s, if_pos (by omega)]
      split <;> rfl
    · rw [upd_n h2]
      by_cases h3 : 4 * t + (i + 1) ≤ j ∧ j < 4 * t + 4
      · rw [if_pos h3, if_pos (by omega)]
      · rw [if_neg h3, if_neg (by omega)]
theorem op_taker {N : Nat} {σ τ : St} {t d s : Nat} {CL : List Cl} {CLs : List (List Cl)} (h : RR N σ τ t d CL CLs s) (p v w : Int32) : Sm N (f_X_taker 0 p v w σ) (f_M_taker 0 p v w τ) := by
  unfold f_X_taker f_M_taker
  simp only [in_X]
  refine sm_ite (fun _ => sm_ret h _) (fun hp => sm_ite (fun _ => sm_ret h _) (fun _ => sm_ite (fun _ => sm_ret h _) (fun hw => ?_)))
  obtain ⟨k, -, hk, rfl⟩ := in_t (neg_f hp) (a := 0) (b := 6) (by decide) (by decide) (by decide) (by decide)
  obtain ⟨q, q1, q2, rfl⟩ := in_t (neg_f hw) (a := 1) (b := 60) (by decide) (by decide) (by decide) (by decide)
  have hK := h.1.1
  obtain ⟨⟨ht, hd, a3, a4, a5, a6⟩, n2, n3, n4, n5, -⟩ := h.1.1
  rw [a3, a4]
  by_cases t6 : t = 6
  · subst t6
    rw [if_pos (by decide), if_pos (by decide)]
    exact sm_ret h _
  · have ht5 : t < 6 := by omega
    have hok : ok (nI t) 6 = true := ok_nI ht5 (by decide)
    rw [if_neg (by rw [show (6 : Int32) = nI 6 by decide, nIle (by decide) (by omega)]; omega), if_neg (by rw [show (6 : Int32) = nI 6 by decide, nIeq (by omega) (by decide)]; exact t6)]
    unfold f_K_admit
    simp only [a3, a4, vI_sJ, hok, if_true, nx_nI (show t < 2 ^ 31 by omega), st]
    obtain ⟨hX, x1, x2⟩ := x_adm ht5 4 0 FU (sJ (sJ (sJ (sJ (sJ (sJ σ (49 + 1) (upd (vJ σ (49 + 1)) t (nI k))) (49 + 2) (upd (vJ (sJ σ (49 + 1) (upd (vJ σ (49 + 1)) t (nI k))) (49 + 2)) t v)) (49 + 3) (upd (vJ (sJ (sJ σ (49 + 1) (upd (vJ σ (49 + 1)) t (nI k))) (49 + 2) (upd (vJ (sJ σ (49 + 1) (upd (vJ σ (49 + 1)) t (nI k))) (49 + 2)) t v)) (49 + 3)) t (nI q))) (49 + 4) (upd (vJ σ 53) t 0)) (49 + 5) (upd (vJ σ 54) t 0)) (49 + 6) (upd (vJ σ 55) t 0)) rfl (by unfold FU; omega)
    obtain ⟨hM, m1, m2⟩ := m_adm ht5 4 0 FU (sJ (sJ (sJ (sJ (sJ (sJ τ 1 (upd (vJ τ 1) t (nI k))) 2 (upd (vJ τ 2) t v)) 3 (upd (vJ τ 3) t (nI q))) 4 (upd (vJ τ 4) t 0)) 5 (upd (vJ τ 5) t 0)) 6 (upd (vJ τ 6) t 0)) a4 rfl (by unfold FU; omega)
    rw [nI_0] at x1 m1
    rw [show f_K_admit_l57 FU 49 (nI t) 0 _ = _ from x1, show f_M_taker_l113 FU 0 0 _ = _ from m1]
    sorry
