/-! ===== PURE: calls: act ===== -/
def AS (σ0 τ0 : St) (κ v : Int32) (p n : Nat) (σ τ : St) : Prop :=
  (vI σ 89 1 = nI n ∧ vI τ 0 62 = nI n ∧ vI σ 89 2 = κ ∧ vI σ 89 3 = nI p ∧ vI σ 89 4 = v ∧ vJ τ 1 p = κ ∧ vJ τ 2 p = v) ∧ (∀ i, i < n → i < 20 → vJ σ 90 i = vJ τ 36 i) ∧
  ((∀ k f, k ≠ 89 → vI σ k f = vI σ0 k f) ∧ (∀ k, k ≠ 90 → vJ σ k = vJ σ0 k) ∧ (∀ k, vL σ k = vL σ0 k) ∧ (∀ k, vH σ k = vH σ0 k)) ∧ (∀ f, f ≠ 62 → vI τ 0 f = vI τ0 0 f) ∧ (∀ k, k ≠ 36 → vJ τ k = vJ τ0 k) ∧ ∀ k, vL τ k = vL τ0 k
theorem beg2 {σ0 τ0 σ τ : St} {κ v b : Int32} {p n : Nat} (h : AS σ0 τ0 κ v p n σ τ) (hn : n < 60) : ∃ σ' τ', f_A_begin 89 b σ = some σ' ∧ f_M_body 0 b τ = some τ' ∧ AS σ0 τ0 κ v p (n + 1) σ' τ' := by
  obtain ⟨⟨a1, a2, a3, a4, a5, a6, a7⟩, hb, ⟨x1, x2, x3, x4⟩, m1, m2, m3⟩ := h
  unfold f_A_begin f_M_body
  rw [a1, a2]
  have e20 : ((20 : Int32) ≤ nI n) = (20 ≤ n) := by rw [show (20 : Int32) = nI 20 by decide]; exact nIle (by decide) (by omega)
  by_cases hc' : 20 ≤ n
  · have hc : (20 : Int32) ≤ nI n := by rw [e20]; exact hc'
    rw [if_pos hc, if_pos hc]
    simp only [st, nI_1]
    refine ⟨_, _, rfl, rfl, ⟨rfl, rfl, a3, a4, a5, a6, a7⟩, fun i h1 h2 => hb i (by omega) h2, ⟨fun k f hk => by rw [vI_sI, if_neg hk]; exact x1 k f hk, x2, x3, x4⟩, fun f hf => by rw [vI_sI, if_pos rfl, if_neg hf]; exact m1 f hf, m2, m3⟩
  · have hc : ¬ (20 : Int32) ≤ nI n := by rw [e20]; exact hc'
    rw [if_neg hc, if_neg hc, if_pos (ok_nI (by omega) (by decide)), if_pos (ok_nI (by omega) (by decide)), nx_nI (by omega)]
    simp only [st, vI_sJ, a1, a2, nI_1]
    refine ⟨_, _, rfl, rfl, ⟨rfl, rfl, a3, a4, a5, a6, a7⟩, fun i h1 h2 => ?_, ⟨fun k f hk => by rw [vI_sI, if_neg hk]; exact x1 k f hk, fun k hk => by rw [vJ_sI, vJ_sJ, if_neg hk]; exact x2 k hk, x3, x4⟩, fun f hf => by rw [vI_sI, if_pos rfl, if_neg hf]; exact m1 f hf, fun k hk => by rw [vJ_sI, vJ_sJ, if_neg hk]; exact m2 k hk, m3⟩
    show upd (vJ σ 90) n b i = upd (vJ τ 36) n b i
    unfold upd
    by_cases e : i = n
    · rw [if_pos e, if_pos e]
    · rw [if_neg e, if_neg e]; exact hb i (by omega) h2
theorem tk0 {σ0 τ0 σ τ : St} {κ v κ' x : Int32} {p n : Nat} {g : Nat → Int32 → Int32 → St → Option (Int32 × St)} (h : AS σ0 τ0 κ v p n σ τ) (hn : n < 60) (hk : κ' = 0 ∨ κ' = 1 ∨ κ' = 3) : ∃ σ' τ', f_A_takesAs g 89 κ' x σ = some (x + nI p, σ') ∧ f_M_takerTakes 0 (nI p) x τ = some (x + nI p, τ') ∧ AS σ0 τ0 κ v p (n + 1) σ' τ' := by
  obtain ⟨σ', τ', e1, e2, hA⟩ := beg2 (b := 10) h hn
  refine ⟨σ', τ', ?_, ?_, hA⟩
  · unfold f_A_takesAs
    rw [e1]
    rcases hk with rfl | rfl | rfl
    · simp [hA.1.2.2.2.1]
    · simp [hA.1.2.2.2.1]
    · simp [hA.1.2.2.2.1]
  · unfold f_M_takerTakes
    rw [e2]; rfl
theorem takes2 {σ0 τ0 σ τ : St} {κ v x : Int32} {p n : Nat} (hp : p < 6) (h : AS σ0 τ0 κ v p n σ τ) (hn : n < 50) (hk : κ = 0 ∨ κ = 1 ∨ κ = 2 ∨ κ = 3 ∨ κ = 4 ∨ κ = 5 ∨ κ = 6) : ∃ r m σ' τ', F_A_takesAs 3 89 κ x σ = some (r, σ') ∧ f_M_takesAct 0 (nI p) x τ = some (r, τ') ∧ m ≤ n + 2 ∧ AS σ0 τ0 κ v p m σ' τ' := by
  have hok : ok (nI p) 6 = true := ok_nI hp (by decide)
  have eX : F_A_takesAs 3 = f_A_takesAs (f_A_takesAs (F_A_takesAs 1)) := rfl
  rw [eX]
  unfold f_M_takesAct
  simp only [hok, if_true, nx_nI (show p < 2 ^ 31 by omega), h.1.2.2.2.2.2.1]
  rcases hk with rfl | rfl | rfl | rfl | rfl | rfl | rfl
  · obtain ⟨σ', τ', e1, e2, hA⟩ := tk0 (g := f_A_takesAs (F_A_takesAs 1)) (x := x) (κ' := 0) h (by omega) (by decide)
    exact ⟨_, _, σ', τ', e1, by simp [e2], by omega, hA⟩
  · obtain ⟨σ', τ', e1, e2, hA⟩ := tk0 (g := f_A_takesAs (F_A_takesAs 1)) (x := x) (κ' := 1) h (by omega) (by decide)
    exact ⟨_, _, σ', τ', e1, by simp [e2], by omega, hA⟩
  · obtain ⟨σ1, τ1, e1, e2, hA⟩ := beg2 (b := 30) h (by omega)
    obtain ⟨σ', τ', e3, e4, hA'⟩ := tk0 (g := F_A_takesAs 1) (x := x * 3) (κ' := 0) hA (by omega) (by decide)
    exact ⟨x * 3 + nI p, _, σ', τ', by rw [f_A_takesAs]; simp [e1, e3], by simp [e2, e4], by omega, hA'⟩
  · obtain ⟨σ', τ', e1, e2, hA⟩ := tk0 (g := f_A_takesAs (F_A_takesAs 1)) (x := x) (κ' := 3) h (by omega) (by decide)
    exact ⟨_, _, σ', τ', e1, by simp [e2], by omega, hA⟩
  · obtain ⟨σ1, τ1, e1, e2, hA⟩ := beg2 (b := 50) h (by omega)
    obtain ⟨σ', τ', e3, e4, hA'⟩ := tk0 (g := F_A_takesAs 1) (x := x) (κ' := 1) hA (by omega) (by decide)
    exact ⟨-(x + nI p), _, σ', τ', by rw [f_A_takesAs]; simp [e1, e3], by simp [e2, e4], by omega, hA'⟩
  · obtain ⟨σ1, τ1, e1, e2, hA⟩ := beg2 (b := 30) h (by omega)
    obtain ⟨σ', τ', e3, e4, hA'⟩ := tk0 (g := F_A_takesAs 1) (x := x * 3) (κ' := 0) hA (by omega) (by decide)
    exact ⟨x * 3 + nI p, _, σ', τ', by rw [f_A_takesAs]; simp [e1, e3], by simp [e2, e4], by omega, hA'⟩
  · obtain ⟨σ1, τ1, e1, e2, hA⟩ := beg2 (b := 71) h (by omega)
    obtain ⟨σ', τ', e3, e4, hA'⟩ := tk0 (g := F_A_takesAs 1) (x := x) (κ' := 3) hA (by omega) (by decide)
    exact ⟨(x + nI p) ^^^ v, _, σ', τ', by rw [f_A_takesAs]; simp [e1, e3, hA'.1.2.2.2.2.1], by simp [e2, e4, hA'.1.2.2.2.2.2.2], by omega, hA'⟩
theorem lv0 {σ0 τ0 σ τ : St} {κ v κ' x : Int32} {p n : Nat} {g : Nat → Int32 → Int32 → St → Option (Int32 × St)} (hp : p < 6) (h : AS σ0 τ0 κ v p n σ τ) (hn : n < 40) (hk : κ = 0 ∨ κ = 1 ∨ κ = 2 ∨ κ = 3 ∨ κ = 4 ∨ κ = 5 ∨ κ = 6) (hk' : ¬ κ' = 1 ∧ ¬ κ' = 4 ∧ ¬ κ' = 6) : ∃ r m σ' τ', f_A_leavesAs g 89 κ' x σ = some (r, σ') ∧ f_M_takerLeaves 0 (nI p) x τ = some (r, τ') ∧ m ≤ n + 3 ∧ AS σ0 τ0 κ v p m σ' τ' := by
  have hok : ok (nI p) 6 = true := ok_nI hp (by decide)
  obtain ⟨σ1, τ1, e1, e2, hA⟩ := beg2 (b := 11) h (by omega)
  obtain ⟨r, m, σ', τ', e3, e4, hm, hA'⟩ := takes2 (x := x) hp hA (by omega) hk
  refine ⟨r - v, m, σ', τ', ?_, ?_, by omega, hA'⟩
  · unfold f_A_leavesAs
    rw [if_neg hk'.1, if_neg hk'.2.1, if_neg hk'.2.2, e1]
    simp only [Option.bind_some, hA.1.2.2.1, e3, hA'.1.2.2.2.2.1]
  · unfold f_M_takerLeaves
    simp only [e2, Option.bind_some, e4, hok, if_true, nx_nI (show p < 2 ^ 31 by omega), hA'.1.2.2.2.2.2.2]
theorem hv0 {σ0 τ0 σ τ : St} {κ v x : Int32} {p n : Nat} {g : Nat → Int32 → Int32 → St → Option (Int32 × St)} (hp : p < 6) (h : AS σ0 τ0 κ v p n σ τ) (hn : n < 39) (hk : κ = 0 ∨ κ = 1 ∨ κ = 2 ∨ κ = 3 ∨ κ = 4 ∨ κ = 5 ∨ κ = 6) : ∃ r m σ' τ', f_A_leavesAs (f_A_leavesAs g) 89 1 x σ = some (r, σ') ∧ f_M_halverLeaves 0 (nI p) x τ = some (r, τ') ∧ m ≤ n + 4 ∧ AS σ0 τ0 κ v p m σ' τ' := by
  obtain ⟨σ1, τ1, e1, e2, hA⟩ := beg2 (b := 20) h (by omega)
  obtain ⟨r, m, σ', τ', e3, e4, hm, hA'⟩ := lv0 (g := g) (x := x) (κ' := 0) hp hA (by omega) hk (by decide)
  refine ⟨r ^^^ 6, m, σ', τ', ?_, ?_, by omega, hA'⟩
  · rw [f_A_leavesAs, if_pos rfl, e1]
    simp only [Option.bind_some, e3]
  · unfold f_M_halverLeaves
    simp only [e2, Option.bind_some, e4]
theorem leaves2 {σ0 τ0 σ τ : St} {κ v x : Int32} {p n : Nat} (hp : p < 6) (h : AS σ0 τ0 κ v p n σ τ) (hn : n < 35) (hk : κ = 0 ∨ κ = 1 ∨ κ = 2 ∨ κ = 3 ∨ κ = 4 ∨ κ = 5 ∨ κ = 6) : ∃ r m σ' τ', F_A_leavesAs 4 89 κ x σ = some (r, σ') ∧ f_M_leavesAct 0 (nI p) x τ = some (r, τ') ∧ m ≤ n + 5 ∧ AS σ0 τ0 κ v p m σ' τ' := by
  have hok : ok (nI p) 6 = true := ok_nI hp (by decide)
  have eX : F_A_leavesAs 4 = f_A_leavesAs (f_A_leavesAs (f_A_leavesAs (F_A_leavesAs 1))) := rfl
  rw [eX]
  unfold f_M_leavesAct
  simp only [hok, if_true, nx_nI (show p < 2 ^ 31 by omega), h.1.2.2.2.2.2.1]
  have base : (¬ κ = 1 ∧ ¬ κ = 4 ∧ ¬ κ = 6) → ∃ r m σ' τ', f_A_leavesAs (f_A_leavesAs (f_A_leavesAs (F_A_leavesAs 1))) 89 κ x σ = some (r, σ') ∧ (if κ = 1 then ((f_M_halverLeaves 0 (nI p) x τ).bind fun q3 => some (q3.1, q3.2)) else (if κ = 4 then ((f_M_body 0 51 τ).bind fun q6 => ((f_M_halverLeaves 0 (nI p) (x + 1) q6).bind fun q8 => some (q8.1, q8.2))) else (if κ = 6 then ((f_M_body 0 70 τ).bind fun q11 => ((f_M_takerLeaves 0 (nI p) x q11).bind fun q13 => ((f_M_takerTakes 0 (nI p) 2 q13.2).bind fun q15 => some ((q13.1 + q15.1), q15.2)))) else ((f_M_takerLeaves 0 (nI p) x τ).bind fun q17 => some (q17.1, q17.2))))) = some (r, τ') ∧ m ≤ n + 5 ∧ AS σ0 τ0 κ v p m σ' τ' := by
    intro hq
    obtain ⟨r, m, σ', τ', e3, e4, hm, hA'⟩ := lv0 (g := f_A_leavesAs (f_A_leavesAs (F_A_leavesAs 1))) (x := x) (κ' := κ) hp h (by omega) hk hq
    refine ⟨r, m, σ', τ', e3, ?_, by omega, hA'⟩
    rw [if_neg hq.1, if_neg hq.2.1, if_neg hq.2.2, e4]
    rfl
  by_cases k1 : κ = 1
  · subst k1
    obtain ⟨r, m, σ', τ', e3, e4, hm, hA'⟩ := hv0 (g := f_A_leavesAs (F_A_leavesAs 1)) (x := x) hp h (by omega) hk
    exact ⟨r, m, σ', τ', e3, by rw [if_pos rfl, e4]; rfl, by omega, hA'⟩
  by_cases k4 : κ = 4
  · subst k4
    obtain ⟨σ1, τ1, e1, e2, hA⟩ := beg2 (b := 51) h (by omega)
    obtain ⟨r, m, σ', τ', e3, e4, hm, hA'⟩ := hv0 (g := F_A_leavesAs 1) (x := x + 1) hp hA (by omega) hk
    refine ⟨r, m, σ', τ', ?_, ?_, by omega, hA'⟩
    · rw [f_A_leavesAs, if_neg (by decide), if_pos rfl, e1]
      simp only [Option.bind_some, e3]
    · rw [if_neg (by decide), if_pos rfl, e2]
      simp only [Option.bind_some, e4]
  by_cases k6 : κ = 6
  · subst k6
    obtain ⟨σ1, τ1, e1, e2, hA⟩ := beg2 (b := 70) h (by omega)
    obtain ⟨r, m, σ2, τ2, e3, e4, hm, hA2⟩ := lv0 (g := f_A_leavesAs (F_A_leavesAs 1)) (x := x) (κ' := 3) hp hA (by omega) hk (by decide)
    obtain ⟨σ', τ', e5, e6, hA'⟩ := tk0 (g := f_A_takesAs (F_A_takesAs 1)) (x := 2) (κ' := 3) hA2 (by omega) (by decide)
    have e5' : F_A_takesAs 3 89 3 2 σ2 = some (2 + nI p, σ') := e5
    refine ⟨r + (2 + nI p), m + 1, σ', τ', ?_, ?_, by omega, hA'⟩
    · rw [f_A_leavesAs, if_neg (by decide), if_neg (by decide), if_pos rfl, e1]
      simp only [Option.bind_some, e3, e5']
    · rw [if_neg (by decide), if_neg (by decide), if_pos rfl, e2]
      simp only [Option.bind_some, e4, e6]
  exact base ⟨k1, k4, k6⟩
theorem tt0 {σ0 τ0 σ τ : St} {κ v κ' x : Int32} {p n : Nat} {g : Nat → Int32 → Int32 → St → Option (Int32 × St)} (hp : p < 6) (h : AS σ0 τ0 κ v p n σ τ) (hn : n < 30) (hk : κ = 0 ∨ κ = 1 ∨ κ = 2 ∨ κ = 3 ∨ κ = 4 ∨ κ = 5 ∨ κ = 6) (hk' : ¬ κ' = 3 ∧ ¬ κ' = 5 ∧ ¬ κ' = 6) : ∃ r m σ' τ', f_A_tellsAs g 89 κ' x σ = some (r, σ') ∧ f_M_takerTells 0 (nI p) x τ = some (r, τ') ∧ m ≤ n + 6 ∧ AS σ0 τ0 κ v p m σ' τ' := by
  obtain ⟨σ1, τ1, e1, e2, hA⟩ := beg2 (b := 12) h (by omega)
  obtain ⟨r, m, σ', τ', e3, e4, hm, hA'⟩ := leaves2 (x := x) hp hA (by omega) hk
  refine ⟨r * 2, m, σ', τ', ?_, ?_, by omega, hA'⟩
  · unfold f_A_tellsAs
    rw [if_neg hk'.1, if_neg hk'.2.1, if_neg hk'.2.2, e1]
    simp only [Option.bind_some, hA.1.2.2.1, e3, ite_self]
  · unfold f_M_takerTells
    simp only [e2, Option.bind_some, e4]
theorem tells2 {σ0 τ0 σ τ : St} {κ v x : Int32} {p n : Nat} (hp : p < 6) (h : AS σ0 τ0 κ v p n σ τ) (hn : n < 20) (hk : κ = 0 ∨ κ = 1 ∨ κ = 2 ∨ κ = 3 ∨ κ = 4 ∨ κ = 5 ∨ κ = 6) : ∃ r m σ' τ', F_A_tellsAs 3 89 κ x σ = some (r, σ') ∧ f_M_tellsAct 0 (nI p) x τ = some (r, τ') ∧ m ≤ n + 12 ∧ AS σ0 τ0 κ v p m σ' τ' := by
  have hok : ok (nI p) 6 = true := ok_nI hp (by decide)
  have eX : F_A_tellsAs 3 = f_A_tellsAs (f_A_tellsAs (F_A_tellsAs 1)) := rfl
  rw [eX]
  unfold f_M_tellsAct
  simp only [hok, if_true, nx_nI (show p < 2 ^ 31 by omega), h.1.2.2.2.2.2.1]
  have pt : κ = 3 ∨ κ = 6 → ∃ r m σ' τ', f_A_tellsAs (f_A_tellsAs (F_A_tellsAs 1)) 89 κ x σ = some (r, σ') ∧ ((f_M_body 0 40 τ).bind fun q3 => ((f_M_takerTells 0 (nI p) x q3).bind fun q5 => ((f_M_leavesAct 0 (nI p) 1 q5.2).bind fun q7 => some ((q5.1 + q7.1), q7.2)))) = some (r, τ') ∧ m ≤ n + 12 ∧ AS σ0 τ0 κ v p m σ' τ' := by
    intro hq
    obtain ⟨σ1, τ1, e1, e2, hA⟩ := beg2 (b := 40) h (by omega)
    obtain ⟨r, m, σ2, τ2, e3, e4, hm, hA2⟩ := tt0 (g := F_A_tellsAs 1) (x := x) (κ' := 0) hp hA (by omega) hk (by decide)
    obtain ⟨r3, m3, σ3, τ3, e5, e6, hm3, hA3⟩ := leaves2 (x := 1) hp hA2 (by omega) hk
    refine ⟨r + r3, m3, σ3, τ3, ?_, ?_, by omega, hA3⟩
    · rw [f_A_tellsAs]
      rcases hq with rfl | rfl
      · rw [if_pos rfl, e1]
        simp only [Option.bind_some, e3, hA2.1.2.2.1, e5]
      · rw [if_neg (by decide), if_neg (by decide), if_neg (by decide), if_pos rfl, e1]
        simp only [Option.bind_some, e3, hA2.1.2.2.1, e5]
    · rw [e2]
      simp only [Option.bind_some, e4, e6]
  by_cases k3 : κ = 3
  · rw [if_pos k3]; exact pt (Or.inl k3)
  rw [if_neg k3]
  have base : ¬ κ = 5 → ¬ κ = 6 → ∃ r m σ' τ', f_A_tellsAs (f_A_tellsAs (F_A_tellsAs 1)) 89 κ x σ = some (r, σ') ∧ ((f_M_takerTells 0 (nI p) x τ).bind fun q10 => some (q10.1, q10.2)) = some (r, τ') ∧ m ≤ n + 12 ∧ AS σ0 τ0 κ v p m σ' τ' := by
    intro q5 q6
    obtain ⟨r, m, σ2, τ2, e3, e4, hm, hA2⟩ := tt0 (g := f_A_tellsAs (F_A_tellsAs 1)) (x := x) (κ' := κ) hp h (by omega) hk ⟨k3, q5, q6⟩
    exact ⟨r, m, σ2, τ2, e3, by rw [e4]; rfl, by omega, hA2⟩
  by_cases k4 : κ = 4
  · rw [if_pos k4]; exact base (by rw [k4]; decide) (by rw [k4]; decide)
  rw [if_neg k4]
  by_cases k5 : κ = 5
  · rw [if_pos k5]
    obtain ⟨σ1, τ1, e1, e2, hA⟩ := beg2 (b := 60) h (by omega)
    obtain ⟨r, m, σ2, τ2, e3, e4, hm, hA2⟩ := tt0 (g := F_A_tellsAs 1) (x := x - nI p) (κ' := 2) hp hA (by omega) hk (by decide)
    refine ⟨r, m, σ2, τ2, ?_, ?_, by omega, hA2⟩
    · subst k5
      rw [f_A_tellsAs, if_neg (by decide), if_neg (by decide), if_pos rfl, e1]
      simp only [Option.bind_some, hA.1.2.2.2.1, e3]
    · rw [e2]
      simp only [Option.bind_some, e4]
  rw [if_neg k5]
  by_cases k6 : κ = 6
  · rw [if_pos k6]; exact pt (Or.inr k6)
  rw [if_neg k6]
  exact base k5 k6
/-- when the acts alone change -/
theorem RR.acts {N : Nat} {σ σ' τ τ' : St} {t d s : Nat} {CL : List Cl} {CLs : List (List Cl)} (h : RR N σ τ t d CL CLs s) (hI : ∀ k f, k ≠ 89 → vI σ' k f = vI σ k f) (hJ : ∀ k, k ≠ 90 → vJ σ' k = vJ σ k) (hL : ∀ k, vL σ' k = vL σ k) (hH : ∀ k, vH σ' k = vH σ k) (mI : ∀ f, f ≠ 62 → vI τ' 0 f = vI τ 0 f) (mJ : ∀ k, k ≠ 36 → vJ τ' k = vJ τ k) (mL : ∀ k, vL τ' k = vL τ k) (h7 : R7 σ' τ') : RR N σ' τ' t d CL CLs s := by
  obtain ⟨⟨k1, k2, k3, ⟨l1, l2, l3, l4⟩, k5⟩, ⟨r2, r3, r4, r5, r6, -, r8⟩, f1, f2⟩ := h
  have sx : ∀ {a b : Nat}, b ≤ 89 ∨ 91 ≤ a → SX a b σ σ' := fun hb k q1 q2 => ⟨fun f => hI k f (by omega), hJ k (by omega), hL k, hH k⟩
  have k1' := k1
  obtain ⟨⟨n1, n1b, n1c, n1d, n1e, n1f⟩, ⟨g, g0, g1, g2⟩, n3, n4, n5, -⟩ := k1'
  refine ⟨⟨k1.re (sx (by decide)) (hI _ _ (by decide)) (hI _ _ (by decide)) (hH _) (mI _ (by decide)) (mI _ (by decide)) (mI _ (by decide)) (fun k q1 q2 => mJ k (by omega)) ⟨n1, n1b, by rw [hI _ _ (by decide)]; exact n1c, by rw [mI _ (by decide)]; exact n1d, by rw [hI _ _ (by decide)]; exact n1e, by rw [mI _ (by decide)]; exact n1f⟩ ⟨g, g0, by rw [hI _ _ (by decide)]; exact g1, by rw [mI _ (by decide)]; exact g2⟩ (fun i hi => ?_) (fun i hi => ?_) (fun i hi => ?_), k2, fun i hi => ?_, ⟨?_, ?_, ?_, ?_⟩, ?_⟩, ⟨r2.c (hI _ _ (by decide)) (sx (by decide)) (mI _ (by decide)) (fun k q1 q2 => mJ k (by omega)), r3.c (hI _ _ (by decide)) (hJ _ (by decide)) (mI _ (by decide)) (mJ _ (by decide)), r4.c (sx (by decide)) (mI _ (by decide)) (mI _ (by decide)) (mJ _ (by decide)) (mJ _ (by decide)) (mJ _ (by decide)), r5.c (hI _ _ (by decide)) (sx (by decide)) (sx (by decide)) (fun f q1 q2 => mI f (by omega)) (fun k q1 q2 => mJ k (by omega)), r6.c (sx (by decide)) (mJ _ (by decide)) (mJ _ (by decide)) (mL _), h7, r8.c (mJ _ (by decide))⟩, ?_, ?_⟩
  · rw [hJ _ (by decide), hJ _ (by decide), hJ _ (by decide), hJ _ (by decide), hJ _ (by decide), hJ _ (by decide), mJ 1 (by decide), mJ 2 (by decide), mJ 3 (by decide), mJ 4 (by decide), mJ 5 (by decide), mJ 6 (by decide)]
    exact n3 i hi
  · rw [hJ _ (by decide), mJ 7 (by decide)]; exact n4 i hi
  · rw [mJ 3 (by decide)]; exact n5 i hi
  · rw [mJ 1 (by decide)]; exact k3 i hi
  · rw [mI _ (by decide)]; exact l1
  · rw [mI _ (by decide)]; exact l2
  · rw [mI _ (by decide)]; exact l3
  · rw [mI _ (by decide)]; exact l4
  · rw [hH, mI _ (by decide)]; exact k5
  · rw [mJ 5 (by decide)]; exact f1
  · rw [mJ 30 (by decide)]; exact f2
theorem op_act {N : Nat} {σ τ : St} {t d s : Nat} {CL : List Cl} {CLs : List (List Cl)} (h : RR N σ τ t d CL CLs s) (p w x : Int32) : Sm N (f_X_act 0 p w x σ) (f_M_act 0 p w x τ) := by
  have hz : RR N (sI σ 89 1 0) (sI τ 0 62 0) t d CL CLs s := h.acts (fun k f hk => by rw [vI_sI, if_neg hk]) (fun _ _ => rfl) (fun _ => rfl) (fun _ => rfl) (fun f hf => by rw [vI_sI, if_pos rfl, if_neg hf]) (fun _ _ => rfl) (fun _ => rfl) ⟨0, by decide, rfl, rfl, fun i hi _ => absurd hi (Nat.not_lt_zero _)⟩
  unfold f_X_act f_M_act
  have e1 : f_M_isTaker 0 p (sI τ 0 62 0) = f_M_isTaker 0 p τ := rfl
  rw [h.tk, in_X]
  simp only [st, e1]
  refine sm_ite (fun _ => sm_ret hz _) (fun hp => sm_ite (fun _ => sm_ret hz _) (fun hw => ?_))
  obtain ⟨i, hi, hi6, rfl⟩ := h.tt hp
  have hok : ok (nI i) 6 = true := ok_nI hi6 (by decide)
  obtain ⟨n1, n2, n3, n4, n5, -⟩ := h.1.1
  obtain ⟨k, hk6, hk⟩ := h.1.2.2.1 i hi
  have j1 : vJ σ (49 + 1) i = nI k := (n3 i hi6).1.trans hk
  have j2 : vJ σ (49 + 2) i = vJ τ 2 i := (n3 i hi6).2.1
  simp only [hok, if_true, nx_nI (show i < 2 ^ 31 by omega), j1, j2]
  have hkk : nI k = 0 ∨ nI k = 1 ∨ nI k = 2 ∨ nI k = 3 ∨ nI k = 4 ∨ nI k = 5 ∨ nI k = 6 := by
    have : ∀ k, k ≤ 6 → nI k = 0 ∨ nI k = 1 ∨ nI k = 2 ∨ nI k = 3 ∨ nI k = 4 ∨ nI k = 5 ∨ nI k = 6 := by decide
    exact this k hk6
  have hA : AS σ τ (nI k) (vJ τ 2 i) i 0 (sI (sI (sI (sI σ 89 1 0) 89 2 (nI k)) 89 3 (nI i)) 89 4 (vJ τ 2 i)) (sI τ 0 62 0) :=
    ⟨⟨rfl, rfl, rfl, rfl, rfl, hk, rfl⟩, fun i hi _ => absurd hi (Nat.not_lt_zero _), ⟨fun k f hk => by simp [vI_sI, hk], fun _ _ => rfl, fun _ => rfl, fun _ => rfl⟩, fun f hf => by rw [vI_sI, if_pos rfl, if_neg hf], fun _ _ => rfl, fun _ => rfl⟩
  have fin : ∀ {r : Int32} {m : Nat} {σ' τ' : St}, m ≤ 60 → AS σ τ (nI k) (vJ τ 2 i) i m σ' τ' → RR N σ' τ' t d CL CLs s := by
    intro r m σ' τ' hm hB
    obtain ⟨⟨a1, a2, -⟩, hb, ⟨x1, x2, x3, x4⟩, m1, m2, m3⟩ := hB
    exact h.acts x1 x2 x3 x4 m1 m2 m3 ⟨m, hm, a1, a2, hb⟩
  have e0 : vI (sI (sI (sI (sI σ 89 1 0) 89 2 (nI k)) 89 3 (nI i)) 89 4 (vJ τ 2 i)) 89 2 = nI k := rfl
  unfold f_A_perform
  simp only [st, e0]
  by_cases w0 : w = 0
  · rw [if_pos w0, if_pos w0]
    obtain ⟨r, m, σ', τ', e3, e4, hm, hA'⟩ := takes2 (x := x) hi6 hA (by decide) hkk
    simp only [e3, e4, Option.bind_some]
    exact ⟨r, σ', τ', rfl, rfl, t, d, CL, CLs, s, fin (r := r) (by omega) hA'⟩
  rw [if_neg w0, if_neg w0]
  by_cases w1 : w = 1
  · rw [if_pos w1, if_pos w1]
    obtain ⟨r, m, σ', τ', e3, e4, hm, hA'⟩ := leaves2 (x := x) hi6 hA (by decide) hkk
    simp only [e3, e4, Option.bind_some]
    exact ⟨r, σ', τ', rfl, rfl, t, d, CL, CLs, s, fin (r := r) (by omega) hA'⟩
  rw [if_neg w1, if_neg w1]
  obtain ⟨r, m, σ', τ', e3, e4, hm, hA'⟩ := tells2 (x := x) hi6 hA (by decide) hkk
  simp only [e3, e4, Option.bind_some]
  exact ⟨r, σ', τ', rfl, rfl, t, d, CL, CLs, s, fin (r := r) (by omega) hA'⟩
