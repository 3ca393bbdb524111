/-! ===== PURE: calls on tapes: read, item, judge; taken ===== -/
theorem tape_i {p : Int32} (h : ¬ f_M_in 0 p 0 5 = false) : ∃ i, i < 6 ∧ p = nI i := by
  obtain ⟨i, -, h1, h2⟩ := in_t (neg_f h) (a := 0) (b := 5) (by decide) (by decide) (by decide) (by decide)
  exact ⟨i, by omega, h2⟩
theorem xT (p : Int32) : f_X_isTape p = f_M_in 0 p 0 5 := rfl
theorem mT (p : Int32) : f_M_isTape 0 p = f_M_in 0 p 0 5 := rfl
/-- a place on a tape of z items -/
theorem place_i {p : Int32} {z : Nat} (hz : z ≤ 60) (h : ¬ f_M_in 0 p 0 (nI z - 1) = false) : ∃ i, i < z ∧ p = nI i := by
  have hh := neg_f h
  cases z with
  | zero =>
    exfalso
    unfold f_M_in at hh
    by_cases h1 : p < 0
    · rw [if_pos h1] at hh; cases hh
    rw [if_neg h1] at hh
    by_cases h2 : nI 0 - 1 < p
    · rw [if_pos h2] at hh; cases hh
    have := Int32.le_trans (Int32.not_lt.mp h1) (Int32.not_lt.mp h2)
    revert this; decide
  | succ z =>
    obtain ⟨i, -, h1, h2⟩ := in_t hh (a := 0) (b := z) (by decide) (by rw [nI_pred]) (by decide) (by omega)
    exact ⟨i, by omega, h2⟩
/-- the sort of a tape: none, or 0 .. 4 -/
theorem sort_c {so : Int32} {z : Nat} (h : so = -1 ∧ z = 0 ∨ so = 0 ∨ so = 1 ∨ so = 2 ∨ so = 3 ∨ so = 4) : (so = -1 ↔ so < 0) := by
  rcases h with ⟨rfl, -⟩ | rfl | rfl | rfl | rfl | rfl <;> decide
theorem op_read {N : Nat} {σ τ : St} {t d s : Nat} {CL : List Cl} {CLs : List (List Cl)} (h : RR N σ τ t d CL CLs s) (p w : Int32) : ∃ r, f_X_read 0 p w σ = some r ∧ f_M_read 0 p w τ = some r := by
  unfold f_X_read f_M_read
  rw [xT, mT, in_X]
  refine ex_ite (fun _ => ⟨_, rfl, rfl⟩) (fun hp => ?_)
  obtain ⟨i, hi, rfl⟩ := tape_i hp
  obtain ⟨so, z, h1, h2, h3, h4, h5, h6, h7⟩ := h.2.1.2.2.2.2.1 i hi
  have hok : ok (nI i) 6 = true := ok_nI hi (by decide)
  simp only [hok, if_true, nx_nI (show i < 2 ^ 31 by omega), h3, h4, h5, h6, ← sort_c h1]
  refine ex_ite (fun _ => ⟨_, rfl, rfl⟩) (fun _ => ex_ite (fun _ => ⟨_, rfl, rfl⟩) (fun hw => ?_))
  obtain ⟨j, hj, rfl⟩ := place_i h2 hw
  have e2 : 60 * nI i + nI j = nI (60 * i + j) := by rw [show (60 : Int32) = nI 60 by decide, pk_mul, nI_add]
  rw [e2, if_pos (ok_nI (by omega) (by decide)), if_pos (ok_nI (by omega) (by decide)), nx_nI (by omega), nx_nI (by omega), show 92 + 2 * i + 1 = 93 + 2 * i by omega, h7 j (by omega)]
  exact ⟨_, rfl, rfl⟩
theorem nar_eq {so : Int32} {z c : Nat} {v : Int64} {σ : St} (h : so = -1 ∧ z = 0 ∨ so = 0 ∨ so = 1 ∨ so = 2 ∨ so = 3 ∨ so = 4) (hn : ¬ so = -1) (hs : vI σ c 0 = so) : f_T_narrowed c v σ = f_M_narrow 0 so v := by
  unfold f_T_narrowed f_M_narrow
  rw [hs]
  rcases h with ⟨rfl, -⟩ | rfl | rfl | rfl | rfl | rfl
  · exact absurd rfl hn
  · rfl
  · rfl
  · rfl
  · rfl
  · rfl
/-- when one tape alone changes -/
theorem RR.tape {N : Nat} {σ σ' τ τ' : St} {t d s : Nat} {CL : List Cl} {CLs : List (List Cl)} (h : RR N σ τ t d CL CLs s) (hI : ∀ k f, k < 92 → vI σ' k f = vI σ k f) (hJ : ∀ k, vJ σ' k = vJ σ k) (hL : ∀ k, k < 92 → vL σ' k = vL σ k) (hH : ∀ k, vH σ' k = vH σ k) (mI : ∀ f, vI τ' 0 f = vI τ 0 f) (mJ : ∀ k, k ≠ 37 → k ≠ 38 → vJ τ' k = vJ τ k) (h6 : R6 σ' τ') : RR N σ' τ' t d CL CLs s := by
  obtain ⟨⟨k1, k2, k3, ⟨l1, l2, l3, l4⟩, k5⟩, ⟨r2, r3, r4, r5, -, r7, r8⟩, f1, f2⟩ := h
  have sx : ∀ {a b : Nat}, b ≤ 92 → SX a b σ σ' := fun hb k q1 q2 => ⟨fun f => hI k f (by omega), hJ k, hL k (by omega), hH k⟩
  have k1' := k1
  obtain ⟨⟨n1, n1b, n1c, n1d, n1e, n1f⟩, ⟨g, g0, g1, g2⟩, n3, n4, n5, -⟩ := k1'
  refine ⟨⟨k1.re (sx (by decide)) (hI _ _ (by decide)) (hI _ _ (by decide)) (hH _) (mI _) (mI _) (mI _) (fun k q1 q2 => mJ k (by omega) (by omega)) ⟨n1, n1b, by rw [hI _ _ (by decide)]; exact n1c, by rw [mI]; exact n1d, by rw [hI _ _ (by decide)]; exact n1e, by rw [mI]; exact n1f⟩ ⟨g, g0, by rw [hI _ _ (by decide)]; exact g1, by rw [mI]; exact g2⟩ (fun i hi => ?_) (fun i hi => ?_) (fun i hi => ?_), k2, fun i hi => ?_, ⟨?_, ?_, ?_, ?_⟩, ?_⟩, ⟨r2.c (hI _ _ (by decide)) (sx (by decide)) (mI _) (fun k q1 q2 => mJ k (by omega) (by omega)), r3.c (hI _ _ (by decide)) (hJ _) (mI _) (mJ _ (by decide) (by decide)), r4.c (sx (by decide)) (mI _) (mI _) (mJ _ (by decide) (by decide)) (mJ _ (by decide) (by decide)) (mJ _ (by decide) (by decide)), r5.c (hI _ _ (by decide)) (sx (by decide)) (sx (by decide)) (fun f _ _ => mI f) (fun k q1 q2 => mJ k (by omega) (by omega)), h6, r7.c (hI _ _ (by decide)) (hJ _) (mI _) (mJ _ (by decide) (by decide)), r8.c (mJ _ (by decide) (by decide))⟩, ?_, ?_⟩
  · rw [hJ, hJ, hJ, hJ, hJ, hJ, mJ 1 (by decide) (by decide), mJ 2 (by decide) (by decide), mJ 3 (by decide) (by decide), mJ 4 (by decide) (by decide), mJ 5 (by decide) (by decide), mJ 6 (by decide) (by decide)]
    exact n3 i hi
  · rw [hJ, mJ 7 (by decide) (by decide)]; exact n4 i hi
  · rw [mJ 3 (by decide) (by decide)]; exact n5 i hi
  · rw [mJ 1 (by decide) (by decide)]; exact k3 i hi
  · rw [mI]; exact l1
  · rw [mI]; exact l2
  · rw [mI]; exact l3
  · rw [mI]; exact l4
  · rw [hH, mI]; exact k5
  · rw [mJ 5 (by decide) (by decide)]; exact f1
  · rw [mJ 30 (by decide) (by decide)]; exact f2
theorem op_item {N : Nat} {σ τ : St} {t d s : Nat} {CL : List Cl} {CLs : List (List Cl)} (h : RR N σ τ t d CL CLs s) (p w : Int32) (v : Int64) : Sm N (f_X_item 0 p w v σ) (f_M_item 0 p w v τ) := by
  unfold f_X_item f_M_item
  rw [xT, mT, in_X]
  refine sm_ite (fun _ => sm_ret h _) (fun hp => ?_)
  obtain ⟨i, hi, rfl⟩ := tape_i hp
  obtain ⟨so, z, h1, h2, h3, h4, h5, h6, h7⟩ := h.2.1.2.2.2.2.1 i hi
  have hok : ok (nI i) 6 = true := ok_nI hi (by decide)
  have hs := sort_c h1
  simp only [hok, if_true, nx_nI (show i < 2 ^ 31 by omega), h3, h4, h5, h6]
  by_cases hn : so = -1
  · rw [if_pos hn, if_neg (Int32.not_le.mpr (hs.mp hn))]
    exact sm_ret h _
  rw [if_neg hn, if_pos (Int32.not_lt.mp (fun q => hn (hs.mpr q)))]
  refine sm_ite (fun _ => sm_ret h _) (fun hw => ?_)
  obtain ⟨j, hj, rfl⟩ := place_i h2 hw
  have e2 : 60 * nI i + nI j = nI (60 * i + j) := by rw [show (60 : Int32) = nI 60 by decide, pk_mul, nI_add]
  rw [e2, if_pos (ok_nI (by omega) (by decide)), if_pos (ok_nI (by omega) (by decide)), nx_nI (by omega), nx_nI (by omega), nar_eq h1 hn h3]
  simp only [st]
  refine ⟨1, _, _, rfl, rfl, t, d, CL, CLs, s, h.tape (fun _ _ _ => rfl) (fun _ => rfl) (fun k hk => by rw [vL_sL, if_neg (by omega)]) (fun _ => rfl) (fun _ => rfl) (fun _ _ _ => rfl) (fun k hk => ?_)⟩
  obtain ⟨so', z', g1, g2, g3, g4, g5, g6, g7⟩ := h.2.1.2.2.2.2.1 k hk
  refine ⟨so', z', g1, g2, g3, g4, g5, g6, fun a ha => ?_⟩
  rw [vL_sL, vL_sL, if_pos rfl]
  unfold va_up
  by_cases hki : k = i
  · subst hki
    rw [if_pos (by omega), show 92 + 2 * k + 1 = 93 + 2 * k by omega]
    by_cases haj : a = j
    · rw [if_pos haj, if_pos (by omega)]
    · rw [if_neg haj, if_neg (by omega)]; exact g7 a ha
  · rw [if_neg (by omega), if_neg (by omega)]; exact g7 a ha
