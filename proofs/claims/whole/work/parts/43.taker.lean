/-! ===== PURE: calls: taker, read, judge ===== -/
theorem x_adm {t : Nat} (ht : t < 6) : ∀ (k i f : Nat) (σ : St), i + k = 4 → k < f → ∃ h, f_K_admit_l57 f 49 (nI t) (nI i) σ = some (sJ σ 56 h) ∧ ∀ j, h j = if 4 * t + i ≤ j ∧ j < 4 * t + 4 then 0 else vJ σ 56 j := by
  intro k
  induction k with
  | zero =>
    intro i f σ hi hf
    obtain ⟨f, rfl⟩ : ∃ z, f = z + 1 := ⟨f - 1, by omega⟩
    obtain rfl : i = 4 := by omega
    refine ⟨vJ σ 56, ?_, fun j => by rw [if_neg (by omega)]⟩
    rw [f_K_admit_l57, if_pos (by decide), sJ_self]
  | succ k ih =>
    intro i f σ hi hf
    obtain ⟨f, rfl⟩ : ∃ z, f = z + 1 := ⟨f - 1, by omega⟩
    have e1 : nI t * 4 + nI i = nI (4 * t + i) := by rw [show (4 : Int32) = nI 4 by decide, pk_mul, nI_add, Nat.mul_comm]
    have hok : ok (nI (4 * t + i)) 24 = true := ok_nI (by omega) (by decide)
    obtain ⟨h, e, w⟩ := ih (i + 1) f (sJ σ 56 (upd (vJ σ 56) (4 * t + i) 0)) (by omega) (by omega)
    rw [f_K_admit_l57, if_neg (by rw [show (4 : Int32) = nI 4 by decide, nIle (by decide) (by omega)]; omega)]
    simp only [e1, hok, if_true, nx_nI (show 4 * t + i < 2 ^ 31 by omega), st, nI_1, show (49 : Nat) + 7 = 56 by rfl]
    rw [e, sJ_sJ]
    refine ⟨h, rfl, fun j => ?_⟩
    rw [w j, vJ_sJ, if_pos rfl]
    by_cases h2 : j = 4 * t + i
    · subst h2
      rw [upd_s, if_neg (by omega), if_pos (by omega)]
    · rw [upd_n h2]
      by_cases h3 : 4 * t + (i + 1) ≤ j ∧ j < 4 * t + 4
      · rw [if_pos h3, if_pos (by omega)]
      · rw [if_neg h3, if_neg (by omega)]
theorem m_adm {t : Nat} (ht : t < 6) : ∀ (k i f : Nat) (τ : St), vI τ 0 0 = nI t → i + k = 4 → k < f → ∃ h, f_M_taker_l113 f 0 (nI i) τ = some (sJ τ 7 h) ∧ ∀ j, h j = if 4 * t + i ≤ j ∧ j < 4 * t + 4 then 0 else vJ τ 7 j := by
  intro k
  induction k with
  | zero =>
    intro i f τ hT hi hf
    obtain ⟨f, rfl⟩ : ∃ z, f = z + 1 := ⟨f - 1, by omega⟩
    obtain rfl : i = 4 := by omega
    refine ⟨vJ τ 7, ?_, fun j => by rw [if_neg (by omega)]⟩
    rw [f_M_taker_l113, if_pos (by decide), sJ_self]
  | succ k ih =>
    intro i f τ hT hi hf
    obtain ⟨f, rfl⟩ : ∃ z, f = z + 1 := ⟨f - 1, by omega⟩
    have e1 : 4 * nI t + nI i = nI (4 * t + i) := by rw [show (4 : Int32) = nI 4 by decide, pk_mul, nI_add]
    have hok : ok (nI (4 * t + i)) 24 = true := ok_nI (by omega) (by decide)
    obtain ⟨h, e, w⟩ := ih (i + 1) f (sJ τ 7 (upd (vJ τ 7) (4 * t + i) 0)) hT (by omega) (by omega)
    rw [f_M_taker_l113, if_neg (by rw [show (4 : Int32) = nI 4 by decide, nIle (by decide) (by omega)]; omega)]
    simp only [hT, e1, hok, if_true, nx_nI (show 4 * t + i < 2 ^ 31 by omega), st, nI_1]
    rw [e, sJ_sJ]
    refine ⟨h, rfl, fun j => ?_⟩
    rw [w j, vJ_sJ, if_pos rfl]
    by_cases h2 : j = 4 * t + i
    · subst h2
      rw [upd_s, if_neg (by omega), if_pos (by omega)]
    · rw [upd_n h2]
      by_cases h3 : 4 * t + (i + 1) ≤ j ∧ j < 4 * t + 4
      · rw [if_pos h3, if_pos (by omega)]
      · rw [if_neg h3, if_neg (by omega)]
theorem op_taker {N : Nat} {σ τ : St} {t d s : Nat} {CL : List Cl} {CLs : List (List Cl)} (h : RR N σ τ t d CL CLs s) (p v w : Int32) : Sm N (f_X_taker 0 p v w σ) (f_M_taker 0 p v w τ) := by
  unfold f_X_taker f_M_taker
  simp only [in_X]
  refine sm_ite (fun _ => sm_ret h _) (fun hp => sm_ite (fun _ => sm_ret h _) (fun _ => sm_ite (fun _ => sm_ret h _) (fun hw => ?_)))
  obtain ⟨k, -, hk, rfl⟩ := in_t (neg_f hp) (a := 0) (b := 6) (by decide) (by decide) (by decide) (by decide)
  obtain ⟨q, q1, q2, rfl⟩ := in_t (neg_f hw) (a := 1) (b := 60) (by decide) (by decide) (by decide) (by decide)
  have hK := h.1.1
  obtain ⟨⟨ht, hd, a3, a4, a5, a6⟩, n2, n3, n4, n5, -⟩ := h.1.1
  rw [a3, a4]
  by_cases t6 : t = 6
  · subst t6
    rw [if_pos (by decide), if_pos (by decide)]
    exact sm_ret h _
  · have ht5 : t < 6 := by omega
    have hok : ok (nI t) 6 = true := ok_nI ht5 (by decide)
    rw [if_neg (by rw [show (6 : Int32) = nI 6 by decide, nIle (by decide) (by omega)]; omega), if_neg (by rw [show (6 : Int32) = nI 6 by decide, nIeq (by omega) (by decide)]; exact t6)]
    have key : ∀ S T : St, ((∀ k f, vI S k f = vI σ k f) ∧ (∀ k, vL S k = vL σ k) ∧ (∀ k, vH S k = vH σ k) ∧ (∀ k, k < 50 ∨ 55 < k → vJ S k = vJ σ k) ∧ vJ S 50 = upd (vJ σ 50) t (nI k) ∧ vJ S 51 = upd (vJ σ 51) t v ∧ vJ S 52 = upd (vJ σ 52) t (nI q) ∧ vJ S 53 = upd (vJ σ 53) t 0 ∧ vJ S 54 = upd (vJ σ 54) t 0 ∧ vJ S 55 = upd (vJ σ 55) t 0) → ((∀ k f, vI T k f = vI τ k f) ∧ (∀ k, vL T k = vL τ k) ∧ (∀ k, k = 0 ∨ 6 < k → vJ T k = vJ τ k) ∧ vJ T 1 = upd (vJ τ 1) t (nI k) ∧ vJ T 2 = upd (vJ τ 2) t v ∧ vJ T 3 = upd (vJ τ 3) t (nI q) ∧ vJ T 4 = upd (vJ τ 4) t 0 ∧ vJ T 5 = upd (vJ τ 5) t 0 ∧ vJ T 6 = upd (vJ τ 6) t 0) → Sm N (((f_K_admit_l57 FU 49 (nI t) 0 S).bind fun x => some (nI t, sI x 49 0 (vI x 49 0 + 1))).bind fun q5 => some (q5.1, q5.2)) ((f_M_taker_l113 FU 0 0 T).bind fun x => some (vI (sI x 0 0 (vI x 0 0 + 1)) 0 0 - 1, sI x 0 0 (vI x 0 0 + 1))) := by
      intro S T ⟨S1, S2, S3, S4, S5, S6, S7, S8, S9, S10⟩ ⟨T1, T2, T4, T5, T6, T7, T8, T9, T10⟩
      obtain ⟨hX, x1, x2⟩ := x_adm ht5 4 0 FU S rfl (by unfold FU; omega)
      obtain ⟨hM, m1, m2⟩ := m_adm ht5 4 0 FU T ((T1 0 0).trans a4) rfl (by unfold FU; omega)
      rw [nI_0] at x1 m1
      have vx : vI (sJ S 56 hX) 49 0 = nI t := (S1 49 0).trans a3
      have vm : vI (sJ T 7 hM) 0 0 = nI t := (T1 0 0).trans a4
      rw [x1, m1]
      simp only [Option.bind_some, vx, vm, nI_1]
      have hlast : vI (sI (sJ T 7 hM) 0 0 (nI (t + 1))) 0 0 - 1 = nI t := by rw [show vI (sI (sJ T 7 hM) 0 0 (nI (t + 1))) 0 0 = nI (t + 1) from rfl, nI_pred]
      rw [hlast]
      have sx : ∀ {a b : Nat}, b ≤ 49 ∨ 57 ≤ a → SX a b σ (sI (sJ S 56 hX) 49 0 (nI (t + 1))) := fun hab => SX.i (SX.j (fun k g1 g2 => ⟨S1 k, S4 k (by omega), S2 k, S3 k⟩) (by omega)) (by omega)
      have jm : ∀ k, k = 0 ∨ 7 < k → vJ (sI (sJ T 7 hM) 0 0 (nI (t + 1))) k = vJ τ k := fun k g => by rw [vJ_sI, vJ_sJ, if_neg (by omega)]; exact T4 k (by omega)
      have im : ∀ f, f ≠ 0 → vI (sI (sJ T 7 hM) 0 0 (nI (t + 1))) 0 f = vI τ 0 f := fun f g => by rw [vI_sI, if_pos rfl, if_neg g]; exact T1 0 f
      refine ⟨nI t, _, _, rfl, rfl, t + 1, d, CL, CLs, s, h.now (hK.re (sx (by decide)) (S1 49 11) (S1 49 12) (S3 49) (im 27 (by decide)) (im 28 (by decide)) (im 11 (by decide)) (fun k g1 g2 => jm k (by omega)) ⟨by omega, hd, rfl, rfl, (S1 49 9).trans a5, (im 2 (by decide)).trans a6⟩ (let ⟨g, g0, g1, g2⟩ := n2; ⟨g, g0, (S1 49 8).trans g1, (im 1 (by decide)).trans g2⟩) (fun i hi => ?_) (fun i hi => ?_) (fun i hi => ?_)) h.1.2.1 (fun i hi => ?_) ⟨S1 0 9, S1 0 6⟩ (sx (by decide)) (sx (by decide)) (sx (by decide)) (S3 49) (fun f g => im f (by simp at g; omega)) (fun k g => jm k (by simp at g; omega)) (T2 39) ⟨fun i hi => ?_, fun i hi => ?_⟩⟩
      · show vJ S 50 i = vJ T 1 i ∧ vJ S 51 i = vJ T 2 i ∧ vJ S 52 i = vJ T 3 i ∧ vJ S 53 i = vJ T 4 i ∧ vJ S 54 i = vJ T 5 i ∧ vJ S 55 i = vJ T 6 i
        rw [S5, S6, S7, S8, S9, S10, T5, T6, T7, T8, T9, T10]
        obtain ⟨v1, v2, v3, v4, v5, v6⟩ := n3 i hi
        unfold upd
        rw [v1, v2, v3, v4, v5, v6]
        exact ⟨rfl, rfl, rfl, rfl, rfl, rfl⟩
      · show hX i = hM i
        rw [x2, m2, S4 56 (by decide), T4 7 (by decide), show vJ σ 56 i = vJ τ 7 i from n4 i hi]
      · show ∃ q, 1 ≤ q ∧ q ≤ 60 ∧ vJ T 3 i = nI q
        rw [T7]
        unfold upd
        by_cases e : i = t
        · rw [if_pos e]; exact ⟨q, q1, q2, rfl⟩
        · rw [if_neg e]; exact n5 i (by omega)
      · show ∃ k, k ≤ 6 ∧ vJ T 1 i = nI k
        rw [T5]
        unfold upd
        by_cases e : i = t
        · rw [if_pos e]; exact ⟨k, hk, rfl⟩
        · rw [if_neg e]; exact h.1.2.2.1 i (by omega)
      · show ∃ k, k ≤ N ∧ vJ T 5 i = nI k
        rw [T9]
        unfold upd
        by_cases e : i = t
        · rw [if_pos e]; exact ⟨0, Nat.zero_le _, by decide⟩
        · rw [if_neg e]; exact h.2.2.1 i hi
      · show ∃ k, k ≤ N ∧ vJ T 30 i = nI k
        rw [T4 30 (by decide)]; exact h.2.2.2 i hi
    unfold f_K_admit
    simp only [a3, a4, vI_sJ, hok, if_true, nx_nI (show t < 2 ^ 31 by omega), st]
    refine key _ _ ⟨fun _ _ => rfl, fun _ => rfl, fun _ => rfl, fun k g => ?_, rfl, rfl, rfl, rfl, rfl, rfl⟩ ⟨fun _ _ => rfl, fun _ => rfl, fun k g => ?_, rfl, rfl, rfl, rfl, rfl, rfl⟩
    · simp only [vJ_sJ]
      rw [if_neg (by omega), if_neg (by omega), if_neg (by omega), if_neg (by omega), if_neg (by omega), if_neg (by omega)]
    · simp only [vJ_sJ]
      rw [if_neg (by omega), if_neg (by omega), if_neg (by omega), if_neg (by omega), if_neg (by omega), if_neg (by omega)]
