/-! ===== PURE: calls: act ===== -/
def AS (σ0 τ0 : St) (κ v : Int32) (p n : Nat) (σ τ : St) : Prop :=
  (vI σ 89 1 = nI n ∧ vI τ 0 62 = nI n ∧ vI σ 89 2 = κ ∧ vI σ 89 3 = nI p ∧ vI σ 89 4 = v ∧ vJ τ 1 p = κ ∧ vJ τ 2 p = v) ∧ (∀ i, i < n → i < 20 → vJ σ 90 i = vJ τ 36 i) ∧
  ((∀ k f, k ≠ 89 → vI σ k f = vI σ0 k f) ∧ (∀ k, k ≠ 90 → vJ σ k = vJ σ0 k) ∧ (∀ k, vL σ k = vL σ0 k) ∧ (∀ k, vH σ k = vH σ0 k)) ∧ (∀ f, f ≠ 62 → vI τ 0 f = vI τ0 0 f) ∧ (∀ k, k ≠ 36 → vJ τ k = vJ τ0 k) ∧ ∀ k, vL τ k = vL τ0 k
theorem beg2 {σ0 τ0 σ τ : St} {κ v b : Int32} {p n : Nat} (h : AS σ0 τ0 κ v p n σ τ) (hn : n < 60) : ∃ σ' τ', f_A_begin 89 b σ = some σ' ∧ f_M_body 0 b τ = some τ' ∧ AS σ0 τ0 κ v p (n + 1) σ' τ' := by
  obtain ⟨⟨a1, a2, a3, a4, a5, a6, a7⟩, hb, ⟨x1, x2, x3, x4⟩, m1, m2, m3⟩ := h
  unfold f_A_begin f_M_body
  rw [a1, a2]
  have e20 : ((20 : Int32) ≤ nI n) = (20 ≤ n) := by rw [show (20 : Int32) = nI 20 by decide]; exact nIle (by decide) (by omega)
  by_cases hc' : 20 ≤ n
  · have hc : (20 : Int32) ≤ nI n := by rw [e20]; exact hc'
    rw [if_pos hc, if_pos hc]
    simp only [st, nI_1]
    refine ⟨_, _, rfl, rfl, ⟨rfl, rfl, a3, a4, a5, a6, a7⟩, fun i h1 h2 => hb i (by omega) h2, ⟨fun k f hk => by rw [vI_sI, if_neg hk]; exact x1 k f hk, x2, x3, x4⟩, fun f hf => by rw [vI_sI, if_pos rfl, if_neg hf]; exact m1 f hf, m2, m3⟩
  · have hc : ¬ (20 : Int32) ≤ nI n := by rw [e20]; exact hc'
    rw [if_neg hc, if_neg hc, if_pos (ok_nI (by omega) (by decide)), if_pos (ok_nI (by omega) (by decide)), nx_nI (by omega)]
    simp only [st, vI_sJ, a1, a2, nI_1]
    refine ⟨_, _, rfl, rfl, ⟨rfl, rfl, a3, a4, a5, a6, a7⟩, fun i h1 h2 => ?_, ⟨fun k f hk => by rw [vI_sI, if_neg hk]; exact x1 k f hk, fun k hk => by rw [vJ_sI, vJ_sJ, if_neg hk]; exact x2 k hk, x3, x4⟩, fun f hf => by rw [vI_sI, if_pos rfl, if_neg hf]; exact m1 f hf, fun k hk => by rw [vJ_sI, vJ_sJ, if_neg hk]; exact m2 k hk, m3⟩
    show upd (vJ σ 90) n b i = upd (vJ τ 36) n b i
    unfold upd
    by_cases e : i = n
    · rw [if_pos e, if_pos e]
    · rw [if_neg e, if_neg e]; exact hb i (by omega) h2
theorem tk0 {σ0 τ0 σ τ : St} {κ v κ' x : Int32} {p n : Nat} {g : Nat → Int32 → Int32 → St → Option (Int32 × St)} (h : AS σ0 τ0 κ v p n σ τ) (hn : n < 60) (hk : κ' = 0 ∨ κ' = 1 ∨ κ' = 3) : ∃ σ' τ', f_A_takesAs g 89 κ' x σ = some (x + nI p, σ') ∧ f_M_takerTakes 0 (nI p) x τ = some (x + nI p, τ') ∧ AS σ0 τ0 κ v p (n + 1) σ' τ' := by
  obtain ⟨σ', τ', e1, e2, hA⟩ := beg2 (b := 10) h hn
  refine ⟨σ', τ', ?_, ?_, hA⟩
  · unfold f_A_takesAs
    rw [e1]
    rcases hk with rfl | rfl | rfl
    · simp [hA.1.2.2.2.1]
    · simp [hA.1.2.2.2.1]
    · simp [hA.1.2.2.2.1]
  · unfold f_M_takerTakes
    rw [e2]; rfl
theorem takes2 {σ0 τ0 σ τ : St} {κ v x : Int32} {p n : Nat} (hp : p < 6) (h : AS σ0 τ0 κ v p n σ τ) (hn : n < 50) (hk : κ = 0 ∨ κ = 1 ∨ κ = 2 ∨ κ = 3 ∨ κ = 4 ∨ κ = 5 ∨ κ = 6) : ∃ r m σ' τ', F_A_takesAs 3 89 κ x σ = some (r, σ') ∧ f_M_takesAct 0 (nI p) x τ = some (r, τ') ∧ m ≤ n + 2 ∧ AS σ0 τ0 κ v p m σ' τ' := by
  have hok : ok (nI p) 6 = true := ok_nI hp (by decide)
  have eX : F_A_takesAs 3 = f_A_takesAs (f_A_takesAs (F_A_takesAs 1)) := rfl
  rw [eX]
  unfold f_M_takesAct
  simp only [hok, if_true, nx_nI (show p < 2 ^ 31 by omega), h.1.2.2.2.2.2.1]
  rcases hk with rfl | rfl | rfl | rfl | rfl | rfl | rfl
  · obtain ⟨σ', τ', e1, e2, hA⟩ := tk0 (g := f_A_takesAs (F_A_takesAs 1)) (x := x) (κ' := 0) h (by omega) (by decide)
    exact ⟨_, _, σ', τ', e1, by simp [e2], by omega, hA⟩
  · obtain ⟨σ', τ', e1, e2, hA⟩ := tk0 (g := f_A_takesAs (F_A_takesAs 1)) (x := x) (κ' := 1) h (by omega) (by decide)
    exact ⟨_, _, σ', τ', e1, by simp [e2], by omega, hA⟩
  · obtain ⟨σ1, τ1, e1, e2, hA⟩ := beg2 (b := 30) h (by omega)
    obtain ⟨σ', τ', e3, e4, hA'⟩ := tk0 (g := F_A_takesAs 1) (x := x * 3) (κ' := 0) hA (by omega) (by decide)
    exact ⟨x * 3 + nI p, _, σ', τ', by rw [f_A_takesAs]; simp [e1, e3], by simp [e2, e4], by omega, hA'⟩
  · obtain ⟨σ', τ', e1, e2, hA⟩ := tk0 (g := f_A_takesAs (F_A_takesAs 1)) (x := x) (κ' := 3) h (by omega) (by decide)
    exact ⟨_, _, σ', τ', e1, by simp [e2], by omega, hA⟩
  · obtain ⟨σ1, τ1, e1, e2, hA⟩ := beg2 (b := 50) h (by omega)
    obtain ⟨σ', τ', e3, e4, hA'⟩ := tk0 (g := F_A_takesAs 1) (x := x) (κ' := 1) hA (by omega) (by decide)
    exact ⟨-(x + nI p), _, σ', τ', by rw [f_A_takesAs]; simp [e1, e3], by simp [e2, e4], by omega, hA'⟩
  · obtain ⟨σ1, τ1, e1, e2, hA⟩ := beg2 (b := 30) h (by omega)
    obtain ⟨σ', τ', e3, e4, hA'⟩ := tk0 (g := F_A_takesAs 1) (x := x * 3) (κ' := 0) hA (by omega) (by decide)
    exact ⟨x * 3 + nI p, _, σ', τ', by rw [f_A_takesAs]; simp [e1, e3], by simp [e2, e4], by omega, hA'⟩
  · obtain ⟨σ1, τ1, e1, e2, hA⟩ := beg2 (b := 71) h (by omega)
    obtain ⟨σ', τ', e3, e4, hA'⟩ := tk0 (g := F_A_takesAs 1) (x := x) (κ' := 3) hA (by omega) (by decide)
    exact ⟨(x + nI p) ^^^ v, _, σ', τ', by rw [f_A_takesAs]; simp [e1, e3, hA'.1.2.2.2.2.1], by simp [e2, e4, hA'.1.2.2.2.2.2.2], by omega, hA'⟩
