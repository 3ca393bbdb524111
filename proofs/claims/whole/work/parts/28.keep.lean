/-! ===== PURE: copies of kitchens; keeping and putting back ===== -/
theorem bec_67_49 {σ : St} (ht : tgb BX (vH σ 49) 1 = true) : ∃ σ', f_K_becomes 67 49 σ = some σ' ∧ (∀ f, f = 0 ∨ f = 8 ∨ f = 9 ∨ f = 11 ∨ f = 12 → vI σ' 67 f = vI σ 49 f) ∧ (∀ i, i < 6 → vJ σ' 68 i = vJ σ 50 i ∧ vJ σ' 69 i = vJ σ 51 i ∧ vJ σ' 70 i = vJ σ 52 i ∧ vJ σ' 71 i = vJ σ 53 i ∧ vJ σ' 72 i = vJ σ 54 i ∧ vJ σ' 73 i = vJ σ 55 i) ∧ (∀ i, i < 24 → vJ σ' 74 i = vJ σ 56 i) ∧ vH σ' 67 = vH σ 49 ∧ (∀ k f, k ≠ 67 → vI σ' k f = vI σ k f) ∧ (∀ k, k < 68 ∨ 74 < k → vJ σ' k = vJ σ k) ∧ (∀ k, vL σ' k = vL σ k) ∧ (∀ k, k ≠ 67 → vH σ' k = vH σ k) := by
  unfold f_K_becomes
  have h9 : ∀ s : St, vH s 49 = vH σ 49 → tgb BX (vH s 49) 1 = true := fun s h => by rw [h]; exact ht
  simp only [show okc 0 6 6 = true by decide, show okc 0 24 24 = true by decide, if_true, st, vH_sI, vH_sJ, ht]
  refine ⟨_, rfl, fun f hf => ?_, fun i hi => ?_, fun i hi => ?_, ?_, fun k f hk => ?_, fun k hk => ?_, fun k => rfl, fun k hk => ?_⟩
  · rcases hf with rfl | rfl | rfl | rfl | rfl <;> simp [vI_sI, vI_sJ, vI_sH]
  · simp [vJ_sI, vJ_sJ, vJ_sH, va_cpy, hi, show nx 0 = 0 by decide, show nx 6 = 6 by decide]
  · simp [vJ_sI, vJ_sJ, vJ_sH, va_cpy, hi, show nx 0 = 0 by decide, show nx 24 = 24 by decide]
  · simp [vH_sI, vH_sJ, vH_sH]
  · simp [vI_sI, vI_sJ, vI_sH, hk]
  · simp only [vJ_sI, vJ_sJ, vJ_sH]
    rw [if_neg (by omega), if_neg (by omega), if_neg (by omega), if_neg (by omega), if_neg (by omega), if_neg (by omega), if_neg (by omega)]
  · simp [vH_sI, vH_sJ, vH_sH, hk]
theorem bec_58_49 {σ : St} (ht : tgb BX (vH σ 49) 1 = true) : ∃ σ', f_K_becomes 58 49 σ = some σ' ∧ (∀ f, f = 0 ∨ f = 8 ∨ f = 9 ∨ f = 11 ∨ f = 12 → vI σ' 58 f = vI σ 49 f) ∧ (∀ i, i < 6 → vJ σ' 59 i = vJ σ 50 i ∧ vJ σ' 60 i = vJ σ 51 i ∧ vJ σ' 61 i = vJ σ 52 i ∧ vJ σ' 62 i = vJ σ 53 i ∧ vJ σ' 63 i = vJ σ 54 i ∧ vJ σ' 64 i = vJ σ 55 i) ∧ (∀ i, i < 24 → vJ σ' 65 i = vJ σ 56 i) ∧ vH σ' 58 = vH σ 49 ∧ (∀ k f, k ≠ 58 → vI σ' k f = vI σ k f) ∧ (∀ k, k < 59 ∨ 65 < k → vJ σ' k = vJ σ k) ∧ (∀ k, vL σ' k = vL σ k) ∧ (∀ k, k ≠ 58 → vH σ' k = vH σ k) := by
  unfold f_K_becomes
  have h9 : ∀ s : St, vH s 49 = vH σ 49 → tgb BX (vH s 49) 1 = true := fun s h => by rw [h]; exact ht
  simp only [show okc 0 6 6 = true by decide, show okc 0 24 24 = true by decide, if_true, st, vH_sI, vH_sJ, ht]
  refine ⟨_, rfl, fun f hf => ?_, fun i hi => ?_, fun i hi => ?_, ?_, fun k f hk => ?_, fun k hk => ?_, fun k => rfl, fun k hk => ?_⟩
  · rcases hf with rfl | rfl | rfl | rfl | rfl <;> simp [vI_sI, vI_sJ, vI_sH]
  · simp [vJ_sI, vJ_sJ, vJ_sH, va_cpy, hi, show nx 0 = 0 by decide, show nx 6 = 6 by decide]
  · simp [vJ_sI, vJ_sJ, vJ_sH, va_cpy, hi, show nx 0 = 0 by decide, show nx 24 = 24 by decide]
  · simp [vH_sI, vH_sJ, vH_sH]
  · simp [vI_sI, vI_sJ, vI_sH, hk]
  · simp only [vJ_sI, vJ_sJ, vJ_sH]
    rw [if_neg (by omega), if_neg (by omega), if_neg (by omega), if_neg (by omega), if_neg (by omega), if_neg (by omega), if_neg (by omega)]
  · simp [vH_sI, vH_sJ, vH_sH, hk]
theorem bec_49_58 {σ : St} (ht : tgb BX (vH σ 58) 1 = true) : ∃ σ', f_K_becomes 49 58 σ = some σ' ∧ (∀ f, f = 0 ∨ f = 8 ∨ f = 9 ∨ f = 11 ∨ f = 12 → vI σ' 49 f = vI σ 58 f) ∧ (∀ i, i < 6 → vJ σ' 50 i = vJ σ 59 i ∧ vJ σ' 51 i = vJ σ 60 i ∧ vJ σ' 52 i = vJ σ 61 i ∧ vJ σ' 53 i = vJ σ 62 i ∧ vJ σ' 54 i = vJ σ 63 i ∧ vJ σ' 55 i = vJ σ 64 i) ∧ (∀ i, i < 24 → vJ σ' 56 i = vJ σ 65 i) ∧ vH σ' 49 = vH σ 58 ∧ (∀ k f, k ≠ 49 → vI σ' k f = vI σ k f) ∧ (∀ k, k < 50 ∨ 56 < k → vJ σ' k = vJ σ k) ∧ (∀ k, vL σ' k = vL σ k) ∧ (∀ k, k ≠ 49 → vH σ' k = vH σ k) := by
  unfold f_K_becomes
  have h9 : ∀ s : St, vH s 58 = vH σ 58 → tgb BX (vH s 58) 1 = true := fun s h => by rw [h]; exact ht
  simp only [show okc 0 6 6 = true by decide, show okc 0 24 24 = true by decide, if_true, st, vH_sI, vH_sJ, ht]
  refine ⟨_, rfl, fun f hf => ?_, fun i hi => ?_, fun i hi => ?_, ?_, fun k f hk => ?_, fun k hk => ?_, fun k => rfl, fun k hk => ?_⟩
  · rcases hf with rfl | rfl | rfl | rfl | rfl <;> simp [vI_sI, vI_sJ, vI_sH]
  · simp [vJ_sI, vJ_sJ, vJ_sH, va_cpy, hi, show nx 0 = 0 by decide, show nx 6 = 6 by decide]
  · simp [vJ_sI, vJ_sJ, vJ_sH, va_cpy, hi, show nx 0 = 0 by decide, show nx 24 = 24 by decide]
  · simp [vH_sI, vH_sJ, vH_sH]
  · simp [vI_sI, vI_sJ, vI_sH, hk]
  · simp only [vJ_sI, vJ_sJ, vJ_sH]
    rw [if_neg (by omega), if_neg (by omega), if_neg (by omega), if_neg (by omega), if_neg (by omega), if_neg (by omega), if_neg (by omega)]
  · simp [vH_sI, vH_sJ, vH_sH, hk]
/-- kept: what a day moves of τ0 lies in τ -/
def KP (τ0 τ : St) : Prop := vI τ 0 33 = vI τ0 0 1 ∧ vI τ 0 34 = vI τ0 0 2 ∧ ∀ i, i < 6 → vJ τ 18 i = vJ τ0 4 i ∧ vJ τ 19 i = vJ τ0 5 i ∧ vJ τ 20 i = vJ τ0 6 i
theorem keep_l : ∀ (m i n : Nat) (τ : St), i + m = 6 → m < n → ∃ τ', f_M_keep_l18 n 0 (nI i) τ = some τ' ∧ (∀ f, vI τ' 0 f = vI τ 0 f) ∧ (∀ k, k ≠ 18 → k ≠ 19 → k ≠ 20 → vJ τ' k = vJ τ k) ∧ (∀ k, vL τ' k = vL τ k) ∧ ∀ j, j < 6 → vJ τ' 18 j = (if i ≤ j then vJ τ 4 j else vJ τ 18 j) ∧ vJ τ' 19 j = (if i ≤ j then vJ τ 5 j else vJ τ 19 j) ∧ vJ τ' 20 j = (if i ≤ j then vJ τ 6 j else vJ τ 20 j) := by
  intro m
  induction m with
  | zero =>
    intro i n τ hi hn
    obtain ⟨n, rfl⟩ : ∃ z, n = z + 1 := ⟨n - 1, by omega⟩
    refine ⟨τ, ?_, fun _ => rfl, fun _ _ _ _ => rfl, fun _ => rfl, fun j hj => ?_⟩
    · rw [f_M_keep_l18, if_pos (by rw [show (6 : Int32) = nI 6 by decide]; exact nI_le (by omega) (by omega))]
    · rw [if_neg (by omega), if_neg (by omega), if_neg (by omega)]; exact ⟨rfl, rfl, rfl⟩
  | succ m ih =>
    intro i n τ hi hn
    obtain ⟨n, rfl⟩ : ∃ z, n = z + 1 := ⟨n - 1, by omega⟩
    have hok : ok (nI i) 6 = true := ok_nI (by omega) (by decide)
    rw [f_M_keep_l18, if_neg (by rw [show (6 : Int32) = nI 6 by decide]; exact nI_ge (by omega) (by decide))]
    simp only [hok, if_true, st, nx_nI (show i < 2 ^ 31 by omega), nI_1]
    obtain ⟨τ', e, h1, h2, h3, h4⟩ := ih (i + 1) n (sJ (sJ (sJ τ 18 (upd (vJ τ 18) i (vJ τ 4 i))) 19 (upd (vJ (sJ τ 18 (upd (vJ τ 18) i (vJ τ 4 i))) 19) i (vJ (sJ τ 18 (upd (vJ τ 18) i (vJ τ 4 i))) 5 i))) 20 (upd (vJ (sJ (sJ τ 18 (upd (vJ τ 18) i (vJ τ 4 i))) 19 (upd (vJ (sJ τ 18 (upd (vJ τ 18) i (vJ τ 4 i))) 19) i (vJ (sJ τ 18 (upd (vJ τ 18) i (vJ τ 4 i))) 5 i))) 20) i (vJ (sJ (sJ τ 18 (upd (vJ τ 18) i (vJ τ 4 i))) 19 (upd (vJ (sJ τ 18 (upd (vJ τ 18) i (vJ τ 4 i))) 19) i (vJ (sJ τ 18 (upd (vJ τ 18) i (vJ τ 4 i))) 5 i))) 6 i))) (by omega) (by omega)
    refine ⟨τ', e, h1, fun k q1 q2 q3 => by rw [h2 k q1 q2 q3]; simp only [vJ_sJ, q1, q2, q3, if_false], h3, fun j hj => ?_⟩
    obtain ⟨g1, g2, g3⟩ := h4 j hj
    rw [g1, g2, g3]
    simp only [vJ_sJ, upd]
    by_cases hij : j = i
    · subst hij; simp [upd_s]
    · by_cases hlt : i ≤ j
      · simp [upd_n hij, upd, hij, hlt, show i + 1 ≤ j by omega]
      · simp [upd_n hij, upd, hij, hlt, show ¬ i + 1 ≤ j by omega]
theorem keep2 (τ : St) : ∃ τ', f_M_keep 0 τ = some τ' ∧ KP τ τ' ∧ (∀ f, f ≠ 33 → f ≠ 34 → vI τ' 0 f = vI τ 0 f) ∧ (∀ k, k ≠ 18 → k ≠ 19 → k ≠ 20 → vJ τ' k = vJ τ k) ∧ (∀ k, vL τ' k = vL τ k) := by
  obtain ⟨τ', e, h1, h2, h3, h4⟩ := keep_l 6 0 FU (sI (sI τ 0 33 (vI τ 0 1)) 0 34 (vI (sI τ 0 33 (vI τ 0 1)) 0 2)) rfl (by decide)
  rw [nI_0] at e
  refine ⟨τ', by unfold f_M_keep; simp only [st]; rw [e]; rfl, ⟨?_, ?_, fun i hi => ?_⟩, fun f q1 q2 => ?_, h2, h3⟩
  · rw [h1]; simp [vI_sI]
  · rw [h1]; simp [vI_sI]
  · obtain ⟨g1, g2, g3⟩ := h4 i hi
    rw [g1, g2, g3, if_pos (Nat.zero_le _), if_pos (Nat.zero_le _), if_pos (Nat.zero_le _)]
    exact ⟨rfl, rfl, rfl⟩
  · rw [h1]; simp [vI_sI, q1, q2]
theorem back_l : ∀ (m i n : Nat) (τ : St), i + m = 6 → m < n → ∃ τ', f_M_putBack_l18 n 0 (nI i) τ = some τ' ∧ (∀ f, vI τ' 0 f = vI τ 0 f) ∧ (∀ k, k ≠ 4 → k ≠ 5 → k ≠ 6 → vJ τ' k = vJ τ k) ∧ (∀ k, vL τ' k = vL τ k) ∧ ∀ j, j < 6 → vJ τ' 4 j = (if i ≤ j then vJ τ 18 j else vJ τ 4 j) ∧ vJ τ' 5 j = (if i ≤ j then vJ τ 19 j else vJ τ 5 j) ∧ vJ τ' 6 j = (if i ≤ j then vJ τ 20 j else vJ τ 6 j) := by
  intro m
  induction m with
  | zero =>
    intro i n τ hi hn
    obtain ⟨n, rfl⟩ : ∃ z, n = z + 1 := ⟨n - 1, by omega⟩
    refine ⟨τ, ?_, fun _ => rfl, fun _ _ _ _ => rfl, fun _ => rfl, fun j hj => ?_⟩
    · rw [f_M_putBack_l18, if_pos (by rw [show (6 : Int32) = nI 6 by decide]; exact nI_le (by omega) (by omega))]
    · rw [if_neg (by omega), if_neg (by omega), if_neg (by omega)]; exact ⟨rfl, rfl, rfl⟩
  | succ m ih =>
    intro i n τ hi hn
    obtain ⟨n, rfl⟩ : ∃ z, n = z + 1 := ⟨n - 1, by omega⟩
    have hok : ok (nI i) 6 = true := ok_nI (by omega) (by decide)
    rw [f_M_putBack_l18, if_neg (by rw [show (6 : Int32) = nI 6 by decide]; exact nI_ge (by omega) (by decide))]
    simp only [hok, if_true, st, nx_nI (show i < 2 ^ 31 by omega), nI_1]
    obtain ⟨τ', e, h1, h2, h3, h4⟩ := ih (i + 1) n (sJ (sJ (sJ τ 4 (upd (vJ τ 4) i (vJ τ 18 i))) 5 (upd (vJ (sJ τ 4 (upd (vJ τ 4) i (vJ τ 18 i))) 5) i (vJ (sJ τ 4 (upd (vJ τ 4) i (vJ τ 18 i))) 19 i))) 6 (upd (vJ (sJ (sJ τ 4 (upd (vJ τ 4) i (vJ τ 18 i))) 5 (upd (vJ (sJ τ 4 (upd (vJ τ 4) i (vJ τ 18 i))) 5) i (vJ (sJ τ 4 (upd (vJ τ 4) i (vJ τ 18 i))) 19 i))) 6) i (vJ (sJ (sJ τ 4 (upd (vJ τ 4) i (vJ τ 18 i))) 5 (upd (vJ (sJ τ 4 (upd (vJ τ 4) i (vJ τ 18 i))) 5) i (vJ (sJ τ 4 (upd (vJ τ 4) i (vJ τ 18 i))) 19 i))) 20 i))) (by omega) (by omega)
    refine ⟨τ', e, h1, fun k q1 q2 q3 => by rw [h2 k q1 q2 q3]; simp only [vJ_sJ, q1, q2, q3, if_false], h3, fun j hj => ?_⟩
    obtain ⟨g1, g2, g3⟩ := h4 j hj
    rw [g1, g2, g3]
    simp only [vJ_sJ, upd]
    by_cases hij : j = i
    · subst hij; simp [upd_s]
    · by_cases hlt : i ≤ j
      · simp [upd_n hij, upd, hij, hlt, show i + 1 ≤ j by omega]
      · simp [upd_n hij, upd, hij, hlt, show ¬ i + 1 ≤ j by omega]
theorem back2 {τ0 τ : St} (h : KP τ0 τ) : ∃ τ', f_M_putBack 0 τ = some τ' ∧ vI τ' 0 1 = vI τ0 0 1 ∧ vI τ' 0 2 = vI τ0 0 2 ∧ (∀ i, i < 6 → vJ τ' 4 i = vJ τ0 4 i ∧ vJ τ' 5 i = vJ τ0 5 i ∧ vJ τ' 6 i = vJ τ0 6 i) ∧ (∀ f, f ≠ 1 → f ≠ 2 → vI τ' 0 f = vI τ 0 f) ∧ (∀ k, k ≠ 4 → k ≠ 5 → k ≠ 6 → vJ τ' k = vJ τ k) ∧ (∀ k, vL τ' k = vL τ k) := by
  obtain ⟨p1, p2, p3⟩ := h
  obtain ⟨τ', e, h1, h2, h3, h4⟩ := back_l 6 0 FU (sI (sI τ 0 1 (vI τ 0 33)) 0 2 (vI (sI τ 0 1 (vI τ 0 33)) 0 34)) rfl (by decide)
  rw [nI_0] at e
  refine ⟨τ', by unfold f_M_putBack; simp only [st]; rw [e]; rfl, ?_, ?_, fun i hi => ?_, fun f q1 q2 => ?_, h2, h3⟩
  · rw [h1]; simp [vI_sI]; exact p1
  · rw [h1]; simp [vI_sI]; exact p2
  · obtain ⟨g1, g2, g3⟩ := h4 i hi
    obtain ⟨w1, w2, w3⟩ := p3 i hi
    rw [g1, g2, g3, if_pos (Nat.zero_le _), if_pos (Nat.zero_le _), if_pos (Nat.zero_le _)]
    exact ⟨w1, w2, w3⟩
  · rw [h1]; simp [vI_sI, q1, q2]
