/-! ===== PURE: calls: judge ===== -/
theorem judge_l {N t d s i z : Nat} {σ τ : St} {CL : List Cl} {CLs : List (List Cl)} {so w : Int32} (h : RR N σ τ t d CL CLs s) (hi : i < 6) (h1 : so = -1 ∧ z = 0 ∨ so = 2) (h2 : z ≤ 60) (h4 : vJ τ 37 i = so) (h5 : vI σ (92 + 2 * i) 1 = nI z) (h6 : vJ τ 38 i = nI z) (h7 : ∀ a, a < 60 → vL σ (93 + 2 * i) a = vL τ 39 (60 * i + a)) : ∀ (k p f : Nat), p + k = t → k < f → ∃ r, f_X_judge_l38 f 0 w (92 + 2 * i) (nI p) σ = some r ∧ f_M_judge_l34 f 0 (nI i) w (nI p) τ = some r := by
  have ht := h.1.1.1.1
  have hok : ok (nI i) 6 = true := ok_nI hi (by decide)
  intro k
  induction k with
  | zero =>
    intro p f hp hf
    obtain ⟨f, rfl⟩ : ∃ z, f = z + 1 := ⟨f - 1, by omega⟩
    refine ⟨Sum.inl (), ?_, ?_⟩
    · rw [f_X_judge_l38, h.1.1.1.2.2.1, if_pos (nI_le (by omega) (by omega))]
    · rw [f_M_judge_l34, h.1.1.1.2.2.2.1, if_pos (nI_le (by omega) (by omega))]
  | succ k ih =>
    intro p f hp hf
    obtain ⟨f, rfl⟩ : ∃ z, f = z + 1 := ⟨f - 1, by omega⟩
    rw [f_X_judge_l38, h.1.1.1.2.2.1, if_neg (nI_ge (by omega) (by omega)), f_M_judge_l34, h.1.1.1.2.2.2.1, if_neg (nI_ge (by omega) (by omega))]
    simp only [hok, if_true, nx_nI (show i < 2 ^ 31 by omega), h4, h5, h6, nI_1]
    by_cases w0 : w < 0
    · rw [if_pos w0]
      by_cases s0 : so < 0
      · rw [if_pos s0]; exact ⟨_, rfl, rfl⟩
      · rw [if_neg s0, if_pos w0]; exact ⟨_, rfl, rfl⟩
    rw [if_neg w0]
    have hw0 : 0 ≤ w := Int32.not_lt.mp w0
    by_cases hz : p < z
    · rcases h1 with ⟨-, hz0⟩ | rfl
      · omega
      rw [if_neg (show ¬ (2 : Int32) < 0 by decide), if_neg w0, pk_sub (by omega)]
      have e1 : nI (z - p) - 1 = nI (z - p - 1) := by
        obtain ⟨u, hu⟩ : ∃ u, z - p = u + 1 := ⟨z - p - 1, by omega⟩
        rw [hu, nI_pred]; rfl
      rw [e1]
      by_cases hc : w < nI (z - p)
      · have hin : f_M_in 0 w 0 (nI (z - p - 1)) = true := by
          unfold f_M_in
          rw [if_neg w0, if_neg (fun q => ?_)]
          have a1 := Int32.lt_iff_toInt_lt.mp hc
          have a2 := Int32.lt_iff_toInt_lt.mp q
          rw [nI_toInt (by omega)] at a1 a2
          omega
        obtain ⟨q, -, hq, rfl⟩ := in_t hin (a := 0) (b := z - p - 1) (by decide) rfl (by decide) (by omega)
        have e2 : nI q + nI p = nI (q + p) := nI_add _ _
        have e3 : 60 * nI i + nI q + nI p = nI (60 * i + (q + p)) := by rw [show (60 : Int32) = nI 60 by decide, pk_mul, nI_add, nI_add, Nat.add_assoc]
        rw [if_pos hc, e2, e3, if_pos (ok_nI (by omega) (by decide)), if_pos (ok_nI (by omega) (by decide)), if_pos (show nI q ≤ nI (z - p - 1) by rw [nIle (by omega) (by omega)]; exact hq), if_pos (ok_nI (by omega) (by decide)), if_pos (ok_nI (by omega) (by decide)), nx_nI (by omega), nx_nI (by omega), nx_nI (by omega), show 92 + 2 * i + 1 = 93 + 2 * i by omega, h7 (q + p) (by omega), show vJ σ (49 + 5) p = vJ τ 5 p from (h.1.1.2.2.1 p (by omega)).2.2.2.2.1]
        by_cases hl : lg_cmp (vL τ 39 (60 * i + (q + p))) (vJ τ 5 p).toInt64 = 0
        · rw [if_pos hl, if_pos hl]
          exact ih (p + 1) f (by omega) (by omega)
        · rw [if_neg hl, if_neg hl]; exact ⟨_, rfl, rfl⟩
      · rw [if_neg hc, if_neg (fun q => hc ?_)]
        · exact ⟨_, rfl, rfl⟩
        · have a2 := Int32.le_iff_toInt_le.mp q
          rw [nI_toInt (by omega)] at a2
          apply Int32.lt_iff_toInt_lt.mpr
          rw [nI_toInt (by omega)]
          omega
    · have c1 : ¬ w < nI z - nI p := by
        intro q
        by_cases e : p = z
        · rw [e, Int32.sub_self] at q; exact w0 q
        · exact w0 (Int32.lt_trans q (pk_sneg (by omega) (by omega)))
      rw [if_neg c1]
      by_cases s0 : so < 0
      · rw [if_pos s0]; exact ⟨_, rfl, rfl⟩
      rw [if_neg s0, if_neg w0, if_neg (fun q => ?_)]
      · exact ⟨_, rfl, rfl⟩
      · have : nI z - nI p - 1 < 0 := by
          have : ∀ p, p < 6 → ∀ z, z ≤ p → nI z - nI p - 1 < 0 := by decide
          exact this p (by omega) z (by omega)
        exact absurd (Int32.le_trans hw0 q) (Int32.not_le.mpr this)
theorem op_judge {N : Nat} {σ τ : St} {t d s : Nat} {CL : List Cl} {CLs : List (List Cl)} (h : RR N σ τ t d CL CLs s) (p w : Int32) : ∃ r, f_X_judge 0 p w σ = some r ∧ f_M_judge 0 p w τ = some r := by
  unfold f_X_judge f_M_judge
  rw [xT, mT]
  refine ex_ite (fun _ => ⟨_, rfl, rfl⟩) (fun hp => ?_)
  obtain ⟨i, hi, rfl⟩ := tape_i hp
  obtain ⟨so, z, h1, h2, h3, h4, h5, h6, h7⟩ := h.2.1.2.2.2.2.1 i hi
  have ht := h.1.1.1.1
  have hok : ok (nI i) 6 = true := ok_nI hi (by decide)
  have hs := sort_c h1
  have L : (so = -1 ∧ z = 0 ∨ so = 2) → ∃ r, ((f_X_judge_l38 FU 0 w (92 + 2 * i) 0 σ).bind fun x_11 => Sum.elim (fun y13 => some (-5)) (fun z => some z) x_11) = some r ∧ ((f_M_judge_l34 FU 0 (nI i) w 0 τ).bind fun x_14 => Sum.elim (fun y16 => some (-5)) (fun z => some z) x_14) = some r := by
    intro hq
    obtain ⟨r, r1, r2⟩ := judge_l (w := w) h hi hq h2 h4 h5 h6 h7 t 0 FU (by omega) (by unfold FU; omega)
    rw [nI_0] at r1 r2
    rw [r1, r2]
    cases r with
    | inl _ => exact ⟨_, rfl, rfl⟩
    | inr _ => exact ⟨_, rfl, rfl⟩
  simp only [hok, if_true, nx_nI (show i < 2 ^ 31 by omega), h3, h4, ← hs]
  refine ex_ite (fun e => L ?_) (fun _ => ex_ite (fun e => L (Or.inr e)) (fun _ => ⟨_, rfl, rfl⟩))
  rcases h1 with h1 | h1 | h1 | h1 | h1 | h1
  · exact Or.inl h1
  all_goals (rw [h1] at e; exact absurd e (by decide))
