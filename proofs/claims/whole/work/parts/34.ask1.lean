/-! ===== PURE: askings: on, would, pitied, mean, looked ===== -/
theorem x_more {σ : St} {i : Nat} (hi : i < 6) : f_X_fetchesMore 0 (nI i) σ = some (vJ σ 72 i - vJ σ 54 i) ∧ f_X_cupsMore 0 (nI i) σ = some (vJ σ 71 i - vJ σ 53 i) := by
  unfold f_X_fetchesMore f_X_cupsMore
  simp only [ok_nI hi (show 6 < 2 ^ 31 by decide), if_true, nx_nI (show i < 2 ^ 31 by omega)]
  exact ⟨trivial, trivial⟩
/-- what is more than before, in both -/
theorem AK.more {N : Nat} {σ0 τ0 σ τ : St} {t d s d' : Nat} {CL CL' : List Cl} {CLs : List (List Cl)} (h : AK σ0 τ0 σ τ) (hR : RR N σ0 τ0 t d CL CLs s) (hK : KR σ 67 τ t d' CL') {i : Nat} (hi : i < 6) : vJ σ 72 i - vJ σ 54 i = vJ τ 5 i - vJ τ 19 i ∧ vJ σ 71 i - vJ σ 53 i = vJ τ 4 i - vJ τ 18 i := by
  obtain ⟨-, hn, -, -, -, hk⟩ := h
  obtain ⟨k1, k2, -⟩ := hk i hi
  obtain ⟨-, -, -, g4, g5, -⟩ := hK.2.2.1 i hi
  obtain ⟨-, -, -, w4, w5, -⟩ := hR.1.1.2.2.1 i hi
  rw [show vJ σ 72 i = vJ τ 5 i from g5, show vJ σ 71 i = vJ τ 4 i from g4, hn.2.1, hn.2.2.1, k1, k2, show vJ σ0 54 i = vJ τ0 5 i from w5, show vJ σ0 53 i = vJ τ0 4 i from w4]
  exact ⟨rfl, rfl⟩
theorem op_would {N : Nat} {σ τ : St} {t d s : Nat} {CL : List Cl} {CLs : List (List Cl)} (h : RR N σ τ t d CL CLs s) (p w : Int32) : Sm N (f_X_would 0 p w σ) (f_M_would 0 p w τ) := by
  unfold f_X_would f_M_would
  rw [h.tk, in_X]
  refine sm_ite (fun _ => sm_ret h _) (fun hp => sm_ite (fun _ => sm_ret h _) (fun _ => ?_))
  obtain ⟨i, hi, hi6, rfl⟩ := h.tt hp
  obtain ⟨σ1, τ1, e1, e2, hA, -, hK, hl⟩ := ask0 h
  obtain ⟨v, k, σ2, τ2, e3, e4, K2, A2, M2, -, -, -, -⟩ := tak hK (by decide) hi
  have hA2 := hA.d A2.d M2.d
  obtain ⟨τ3, e5, -, hR⟩ := hA2.back0 h (M2.d.lk hl)
  obtain ⟨m1, -⟩ := hA2.more h K2 hi6
  obtain ⟨g, -, g1, g2⟩ := K2.2.1
  have hok : ok (nI i) 6 = true := ok_nI hi6 (by decide)
  simp only [e1, e2, e3, e4, e5, Option.bind_some, (x_more hi6).1, hok, if_true, nx_nI (show i < 2 ^ 31 by omega), m1]
  by_cases w0 : w = 0
  · rw [if_pos w0, if_pos w0, Option.bind_some]; exact sm_ret hR _
  · rw [if_neg w0, if_neg w0]
    by_cases w1 : w = 1
    · rw [if_pos w1, if_pos w1, Option.bind_some, g1, g2]; exact sm_ret hR _
    · rw [if_neg w1, if_neg w1, Option.bind_some]; exact sm_ret hR _
theorem op_pitied {N : Nat} {σ τ : St} {t d s : Nat} {CL : List Cl} {CLs : List (List Cl)} (h : RR N σ τ t d CL CLs s) (p : Int32) : Sm N (f_X_pitied 0 p σ) (f_M_pitied 0 p τ) := by
  unfold f_X_pitied f_M_pitied
  rw [in_X]
  refine sm_ite (fun _ => sm_ret h _) (fun hp => ?_)
  obtain ⟨n, n1, hn, rfl⟩ := in_t (neg_f hp) (a := 1) (b := 60) (by decide) (by decide) (by decide) (by decide)
  obtain ⟨σ1, τ1, e1, e2, hA, -, hK, hl⟩ := ask0 h
  have hd := h.1.2.1
  have ht := h.1.1.1.1
  obtain ⟨m, σ2, τ2, q1, q2, q3, q4, q5, q6, q7, q8⟩ := go2 (by decide) hK (N := n) (x2 := -1) (x3 := -1) (Or.inl ⟨rfl, hl.2.2.2⟩) (Or.inl ⟨rfl, hl.2.2.1⟩) hn (by omega)
  have hA2 := hA.d q6 q7
  obtain ⟨τ3, e5, -, hR⟩ := hA2.back0 h (q7.lk hl)
  have L : ∀ (k i j f f' : Nat), i + k = t → j < t → k < f → k < f' → ∃ r, f_X_pitied_l52 f 0 (nI j) (nI i) σ2 = some r ∧ f_M_pitied_l34 f' 0 (nI j) (vJ τ2 5 j - vJ τ2 19 j) (vJ τ2 4 j - vJ τ2 18 j + 1) (nI i) τ2 = some r := by
    have hx0 : vI σ2 49 0 = nI t := by rw [hA2.2.1.1 0 (by decide)]; exact h.1.1.1.2.2.1
    intro k
    induction k with
    | zero =>
      intro i j f f' hi hj hf hf'
      obtain ⟨f, rfl⟩ : ∃ z, f = z + 1 := ⟨f - 1, by omega⟩
      obtain ⟨f', rfl⟩ : ∃ z, f' = z + 1 := ⟨f' - 1, by omega⟩
      refine ⟨nI j, ?_, ?_⟩
      · rw [f_X_pitied_l52, hx0, if_pos (nI_le (by omega) (by omega))]
      · rw [f_M_pitied_l34, q5.1.2.2.2.1, if_pos (nI_le (by omega) (by omega))]
    | succ k ih =>
      intro i j f f' hi hj hf hf'
      obtain ⟨f, rfl⟩ : ∃ z, f = z + 1 := ⟨f - 1, by omega⟩
      obtain ⟨f', rfl⟩ : ∃ z, f' = z + 1 := ⟨f' - 1, by omega⟩
      obtain ⟨a1, a2⟩ := hA2.more h q5 (i := i) (by omega)
      obtain ⟨b1, b2⟩ := hA2.more h q5 (i := j) (by omega)
      have hok : ok (nI i) 6 = true := ok_nI (by omega) (by decide)
      rw [f_X_pitied_l52, hx0, if_neg (nI_ge (by omega) (by omega)), f_M_pitied_l34, q5.1.2.2.2.1, if_neg (nI_ge (by omega) (by omega)), if_neg (nI_pos (show j < 2 ^ 31 by omega)), (x_more (show i < 6 by omega)).1, (x_more (show i < 6 by omega)).2, (x_more (show j < 6 by omega)).1, (x_more (show j < 6 by omega)).2]
      simp only [hok, if_true, nx_nI (show i < 2 ^ 31 by omega), Option.bind_some, a1, a2, b1, b2, nI_1]
      by_cases hc : (vJ τ2 5 i - vJ τ2 19 i) * (vJ τ2 4 j - vJ τ2 18 j + 1) ≤ (vJ τ2 5 j - vJ τ2 19 j) * (vJ τ2 4 i - vJ τ2 18 i + 1)
      · rw [if_pos hc, if_neg (Int32.not_lt.mpr hc)]
        exact ih (i + 1) j f f' (by omega) hj (by omega) (by omega)
      · rw [if_neg hc, if_pos (Int32.not_le.mp hc)]
        exact ih (i + 1) i f f' (by omega) (by omega) (by omega) (by omega)
  rw [h.1.1.1.2.2.1, e1, e2, Option.bind_some, Option.bind_some, q1, q2, Option.bind_some, Option.bind_some]
  by_cases h0 : t = 0
  · subst h0
    have hA3 : AK σ τ σ τ2 := ⟨PX.rf, NX.rf, hA2.2.2⟩
    obtain ⟨τ4, e6, -, hR4⟩ := hA3.back0 h (q7.lk hl)
    rw [if_pos (by decide), show FU = 999 + 1 by rfl, f_M_pitied_l34, q5.1.2.2.2.1, if_pos (by decide), Option.bind_some, e6]
    exact sm_ret hR4 _
  · rw [if_neg (by rw [show (0 : Int32) = nI 0 by decide, nIeq (by omega) (by decide)]; exact h0)]
    obtain ⟨r, r1, r2⟩ := L (t - 1) 1 0 FU 999 (by omega) (by omega) (by unfold FU; omega) (by omega)
    have hok : ok 0 6 = true := by decide
    rw [show nI 0 = (0 : Int32) by decide, show nI 1 = (1 : Int32) by decide] at r1 r2
    rw [r1, Option.bind_some, show FU = 999 + 1 by rfl, f_M_pitied_l34, q5.1.2.2.2.1, if_neg (by rw [show (0 : Int32) = nI 0 by decide]; exact nI_ge (by omega) (by omega))]
    simp only [hok, if_true, show ((-5 : Int32) < 0) = True by decide, show nx 0 = 0 by decide, show (0 : Int32) + 1 = 1 by decide]
    rw [r2, Option.bind_some, e5]
    exact sm_ret hR _
theorem op_mean_l {N : Nat} {σ0 τ0 : St} {t d0 s n : Nat} {CL : List Cl} {CLs : List (List Cl)} {w : Int32} (h : RR N σ0 τ0 t d0 CL CLs s) (hn : n ≤ 60) : ∀ (k i a f d : Nat) (σ τ : St), AK σ0 τ0 σ τ → KR σ 67 τ t d CL → LK τ → i + k = n → k < f → a ≤ 990 * i → d ≤ 9999 + i → ∃ a' σ' τ' d', f_X_mean_l39 f 0 (nI n) w (nI a) (nI i) σ = some (nI a', σ') ∧ f_M_mean_l34 f 0 (nI n) w (nI a) (nI i) τ = some (nI a', τ') ∧ AK σ0 τ0 σ' τ' ∧ KR σ' 67 τ' t d' CL ∧ LK τ' ∧ a' ≤ 990 * n := by
  intro k
  induction k with
  | zero =>
    intro i a f d σ τ hA hK hl hi hf ha hd
    obtain ⟨f, rfl⟩ : ∃ z, f = z + 1 := ⟨f - 1, by omega⟩
    refine ⟨a, σ, τ, d, ?_, ?_, hA, hK, hl, by rw [show n = i by omega]; exact ha⟩
    · rw [f_X_mean_l39, if_pos (nI_le (by omega) (by omega))]
    · rw [f_M_mean_l34, if_pos (nI_le (by omega) (by omega))]
  | succ k ih =>
    intro i a f d σ τ hA hK hl hi hf ha hd
    obtain ⟨f, rfl⟩ : ∃ z, f = z + 1 := ⟨f - 1, by omega⟩
    obtain ⟨m, σ2, τ2, q1, q2, q3, q4, q5, q6, q7, q8⟩ := go2 (by decide) hK (N := 1) (x2 := -1) (x3 := -1) (Or.inl ⟨rfl, hl.2.2.2⟩) (Or.inl ⟨rfl, hl.2.2.1⟩) (by decide) (by omega)
    rw [show nI 1 = (1 : Int32) by decide] at q1 q2
    rw [goDays_1] at q2
    obtain ⟨g, g0, g1, g2⟩ := q5.2.1
    rw [f_X_mean_l39, if_neg (nI_ge (by omega) (by omega)), f_M_mean_l34, if_neg (nI_ge (by omega) (by omega)), q1, q2, Option.bind_some, Option.bind_some]
    simp only [g1, g2, nI_add, nI_1]
    exact ih (i + 1) (a + g) f (d + 1) σ2 τ2 (hA.d q6 q7) q5 (q7.lk hl) (by omega) (by omega) (by omega) (by omega)
theorem op_looked {N : Nat} {σ τ : St} {t d s : Nat} {CL : List Cl} {CLs : List (List Cl)} (h : RR N σ τ t d CL CLs s) : Sm N (f_X_looked 0 σ) (f_M_looked 0 τ) := by
  obtain ⟨a, b, a6, b12, x1, m1, x2, m2, j1, j2, g1⟩ := h.2.1.2.2.1
  have hd := h.1.2.1
  have L : ∀ (k i f f' d' : Nat) (σ' τ' : St), AK σ τ σ' τ' → KR σ' 67 τ' t d' CL → LK τ' → i + k = b → k < f → k + 1 < f' → d' ≤ 9999 + i → ∃ r σ'' τ'', ((f_X_looked_l13 f 0 (nI i) σ').bind fun x_9 => Sum.elim (fun y11 => some ((-5), y11)) (fun z => some z) x_9) = some (r, σ'') ∧ f_M_looked_l9 f' 0 (-5) (nI i) τ' = some (r, τ'') ∧ AK σ τ σ'' τ'' ∧ LK τ'' := by
    intro k
    induction k with
    | zero =>
      intro i f f' d' σ' τ' hA hK hl hi hf hf' hd'
      obtain ⟨f, rfl⟩ : ∃ z, f = z + 1 := ⟨f - 1, by omega⟩
      obtain ⟨f', rfl⟩ : ∃ z, f' = z + 1 := ⟨f' - 1, by omega⟩
      refine ⟨-5, σ', τ', ?_, ?_, hA, hl⟩
      · rw [f_X_looked_l13, hA.1.1 76 3 (by decide) (by decide), x2, if_pos (nI_le (by omega) (by omega))]; rfl
      · rw [f_M_looked_l9, hA.2.2.1.1 43 (by decide), m2, if_pos (nI_le (by omega) (by omega))]
    | succ k ih =>
      intro i f f' d' σ' τ' hA hK hl hi hf hf' hd'
      obtain ⟨f, rfl⟩ : ∃ z, f = z + 1 := ⟨f - 1, by omega⟩
      obtain ⟨f', rfl⟩ : ∃ z, f' = z + 1 := ⟨f' - 1, by omega⟩
      obtain ⟨m, σ2, τ2, q1, q2, q3, q4, q5, q6, q7, q8⟩ := go2 (by decide) hK (N := 1) (x2 := -1) (x3 := -1) (Or.inl ⟨rfl, hl.2.2.2⟩) (Or.inl ⟨rfl, hl.2.2.1⟩) (by decide) (by omega)
      rw [show nI 1 = (1 : Int32) by decide] at q1 q2
      rw [goDays_1] at q2
      obtain ⟨g, g0, g1, g2⟩ := q5.2.1
      have hA2 := hA.d q6 q7
      have hok : ok (nI i) 12 = true := ok_nI (by omega) (by decide)
      have ej : vJ σ2 (76 + 3) i = vJ τ2 25 i := by
        rw [hA2.1.2.1 79 (by decide) (by decide) (by decide), hA2.2.2.1.2.1 25 (by decide)]; exact j2 i (by omega)
      rw [f_X_looked_l13, hA.1.1 76 3 (by decide) (by decide), x2, if_neg (nI_ge (by omega) (by omega)), f_M_looked_l9, hA.2.2.1.1 43 (by decide), m2, if_neg (nI_ge (by omega) (by omega)), if_neg (by decide), q1, q2, Option.bind_some, Option.bind_some]
      simp only [hok, if_true, nx_nI (show i < 2 ^ 31 by omega), g1, g2, ej, nI_1]
      by_cases hc : nI g = vJ τ2 25 i
      · rw [if_pos hc, if_pos hc]
        exact ih (i + 1) f f' (d' + 1) σ2 τ2 hA2 q5 (q7.lk hl) (by omega) (by omega) (by omega) (by omega)
      · rw [if_neg hc, if_neg hc]
        obtain ⟨f', rfl⟩ : ∃ z, f' = z + 1 := ⟨f' - 1, by omega⟩
        refine ⟨nI i, σ2, τ2, rfl, ?_, hA2, q7.lk hl⟩
        rw [f_M_looked_l9, hA2.2.2.1.1 43 (by decide), m2]
        by_cases hb : nI b ≤ nI (i + 1)
        · rw [if_pos hb]
        · rw [if_neg hb, if_pos (nI_pos' (by omega))]
  obtain ⟨σ1, τ1, e1, e2, hA, -, hK, hl⟩ := ask0 h
  obtain ⟨r, σ2, τ2, q1, q2, hA2, hl2⟩ := L b 0 FU FU d σ1 τ1 hA hK hl (by omega) (by unfold FU; omega) (by unfold FU; omega) (by omega)
  obtain ⟨τ3, e5, -, hR⟩ := hA2.back0 h hl2
  rw [nI_0] at q1 q2
  unfold f_X_looked f_M_looked
  rw [e1, e2, Option.bind_some, Option.bind_some, q1, q2, Option.bind_some, e5]
  exact sm_ret hR _
