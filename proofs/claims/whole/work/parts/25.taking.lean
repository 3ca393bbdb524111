/-! ===== PURE: fetching, taking ===== -/
def FXk (c : Nat) (σ σ' : St) : Prop := (∀ k f, (k ≠ c ∨ (f ≠ 8 ∧ f ≠ 13)) → vI σ' k f = vI σ k f) ∧ (∀ k, k ≠ c + 4 → k ≠ c + 5 → k ≠ c + 6 → k ≠ c + 8 → vJ σ' k = vJ σ k) ∧ (∀ k, vL σ' k = vL σ k) ∧ (∀ k, vH σ' k = vH σ k)
def FMk (τ τ' : St) : Prop := (∀ f, f ≠ 1 → f ≠ 30 → vI τ' 0 f = vI τ 0 f) ∧ (∀ k, k ≠ 4 → k ≠ 5 → k ≠ 6 → k ≠ 17 → vJ τ' k = vJ τ k) ∧ (∀ k, vL τ' k = vL τ k)
theorem FXk.tr {c : Nat} {a b d : St} (h1 : FXk c a b) (h2 : FXk c b d) : FXk c a d :=
  ⟨fun k f h => (h2.1 k f h).trans (h1.1 k f h), fun k q1 q2 q3 q4 => (h2.2.1 k q1 q2 q3 q4).trans (h1.2.1 k q1 q2 q3 q4), fun k => (h2.2.2.1 k).trans (h1.2.2.1 k), fun k => (h2.2.2.2 k).trans (h1.2.2.2 k)⟩
theorem FMk.tr {a b d : St} (h1 : FMk a b) (h2 : FMk b d) : FMk a d :=
  ⟨fun f q1 q2 => (h2.1 f q1 q2).trans (h1.1 f q1 q2), fun k q1 q2 q3 q4 => (h2.2.1 k q1 q2 q3 q4).trans (h1.2.1 k q1 q2 q3 q4), fun k => (h2.2.2 k).trans (h1.2.2 k)⟩
theorem FXk.rf {c : Nat} {a : St} : FXk c a a := ⟨fun _ _ _ => rfl, fun _ _ _ _ _ => rfl, fun _ => rfl, fun _ => rfl⟩
theorem FMk.rf {a : St} : FMk a a := ⟨fun _ _ _ => rfl, fun _ _ _ _ _ => rfl, fun _ => rfl⟩
theorem XR_congr {σ σ' : St} {r : Nat} {CL : List Cl} (hI : ∀ f, vI σ' r f = vI σ r f) (hJ : ∀ k, 1 ≤ k → k ≤ 5 → vJ σ' (r + k) = vJ σ (r + k)) (h : XR σ r CL) : XR σ' r CL := by
  obtain ⟨h1, h2, h3, h4, h5⟩ := h
  refine ⟨h1, by rw [hI]; exact h2, by rw [hI]; exact h3, by rw [hI]; exact h4, fun i q hq => ?_⟩
  obtain ⟨g1, g2, g3, g4, g5⟩ := h5 i q hq
  refine ⟨by rw [hJ 1 (by decide) (by decide)]; exact g1, by rw [hJ 2 (by decide) (by decide)]; exact g2, g3, g4, fun hw => ?_⟩
  obtain ⟨a, q1, q2, q3, q4, q5⟩ := g5 hw
  exact ⟨a, by rw [hJ 3 (by decide) (by decide)]; exact q1, by rw [hJ 4 (by decide) (by decide)]; exact q2, q3, q4, fun k t hk => by rw [hJ 5 (by decide) (by decide)]; exact q5 k t hk⟩
theorem MR_congr {τ τ' : St} {j : Nat} {CL : List Cl} (hJ : ∀ k, 9 ≤ k → k ≤ 14 → vJ τ' k = vJ τ k) (h : MR τ j CL) : MR τ' j CL := by
  obtain ⟨h1, h2, h3⟩ := h
  refine ⟨h1, by rw [hJ 9 (by decide) (by decide)]; exact h2, fun i q hq => ?_⟩
  obtain ⟨g1, g2, g3, g4, g5⟩ := h3 i q hq
  refine ⟨by rw [hJ 10 (by decide) (by decide)]; exact g1, by rw [hJ 11 (by decide) (by decide)]; exact g2, g3, g4, fun hw => ?_⟩
  obtain ⟨a, q1, q2, q3, q35, q4, q5⟩ := g5 hw
  exact ⟨a, by rw [hJ 12 (by decide) (by decide)]; exact q1, by rw [hJ 13 (by decide) (by decide)]; exact q2, q3, q35, q4, fun k t hk => by rw [hJ 14 (by decide) (by decide)]; exact q5 k t hk⟩
theorem MH_congr {τ τ' : St} {CL : List Cl} (hI : vI τ' 0 11 = vI τ 0 11) (hJ : ∀ k, 9 ≤ k → k ≤ 14 → vJ τ' k = vJ τ k) (h : MH τ CL) : MH τ' CL := by
  rcases h with ⟨h1, h2⟩ | ⟨j, h1, h2, h3⟩
  · exact Or.inl ⟨h1, hI.trans h2⟩
  · exact Or.inr ⟨j, h1, hI.trans h2, MR_congr hJ h3⟩
theorem KR_keep {σ σ' τ τ' : St} {c t d : Nat} {CL : List Cl} (h : KR σ c τ t d CL) (hc : 49 ≤ c) (fx : FXk c σ σ') (fm : FMk τ τ') (hg : ∃ g, g ≤ 990 ∧ vI σ' c 8 = nI g ∧ vI τ' 0 1 = nI g) (hJ : ∀ i, i < 6 → vJ σ' (c + 4) i = vJ τ' 4 i ∧ vJ σ' (c + 5) i = vJ τ' 5 i ∧ vJ σ' (c + 6) i = vJ τ' 6 i) : KR σ' c τ' t d CL := by
  obtain ⟨⟨a1, a2, a3, a4, a5, a6⟩, -, b1, b2, b3, c1, c2, c3, c4, c5⟩ := h
  obtain ⟨x1, x2, x3, x4⟩ := fx
  obtain ⟨m1, m2, m3⟩ := fm
  have hr := tg_1 c4
  refine ⟨⟨a1, a2, ?_, ?_, ?_, ?_⟩, hg, fun i hi => ?_, fun i hi => ?_, fun i hi => ?_, ?_, ?_, c3, ?_, ?_⟩
  · rw [x1 c 0 (Or.inr (by decide))]; exact a3
  · rw [m1 0 (by decide) (by decide)]; exact a4
  · rw [x1 c 9 (Or.inr (by decide))]; exact a5
  · rw [m1 2 (by decide) (by decide)]; exact a6
  · obtain ⟨g1, g2, g3, -⟩ := b1 i hi
    refine ⟨?_, ?_, ?_, hJ i hi⟩
    · rw [x2 (c + 1) (by omega) (by omega) (by omega) (by omega), m2 1 (by decide) (by decide) (by decide) (by decide)]; exact g1
    · rw [x2 (c + 2) (by omega) (by omega) (by omega) (by omega), m2 2 (by decide) (by decide) (by decide) (by decide)]; exact g2
    · rw [x2 (c + 3) (by omega) (by omega) (by omega) (by omega), m2 3 (by decide) (by decide) (by decide) (by decide)]; exact g3
  · rw [x2 (c + 7) (by omega) (by omega) (by omega) (by omega), m2 7 (by decide) (by decide) (by decide) (by decide)]; exact b2 i hi
  · rw [m2 3 (by decide) (by decide) (by decide) (by decide)]; exact b3 i hi
  · unfold LF
    rw [m1 27 (by decide) (by decide), m1 28 (by decide) (by decide), x1 c 11 (Or.inr (by decide)), x1 c 12 (Or.inr (by decide))]
    exact c1
  · exact MH_congr (m1 11 (by decide) (by decide)) (fun k h1 h2 => m2 k (by omega) (by omega) (by omega) (by omega)) c2
  · rw [x4]; exact c4
  · rw [x4]; exact XR_congr (fun f => x1 _ f (Or.inl (by omega))) (fun k h1 h2 => x2 _ (by omega) (by omega) (by omega) (by omega)) c5
/-- how many fetches more: k of p's -/
def FI (τ τ' : St) (p k : Nat) : Prop := ∀ i, i < 6 → vJ τ' 5 i = if i = p then vJ τ 5 i + nI k else vJ τ 5 i
theorem fetch2 {σ τ : St} {c t d p : Nat} {CL : List Cl} (h : KR σ c τ t d CL) (hc : 49 ≤ c) (hp : p < 6) : ∃ σ' τ', f_K_fetch c (nI p) σ = some σ' ∧ f_M_fetches 0 (nI p) τ = some τ' ∧ KR σ' c τ' t d CL ∧ FXk c σ σ' ∧ FMk τ τ' ∧ vI σ' c 13 = vI σ c 13 ∧ vI τ' 0 30 = vI τ 0 30 ∧ FI τ τ' p 1 := by
  obtain ⟨fx, ex⟩ := x_pay h hc hp
  obtain ⟨fm, em⟩ := m_sumOf (KR_MF h hp) h.2.2.2.2.2.2.1 (w := 3) (Or.inr rfl)
  obtain ⟨f, hf, f1, f2⟩ := KR_full h
  obtain ⟨j1, j2, j3, j4, j5, j6⟩ := h.2.2.1 p hp
  have hok : ok (nI p) 6 = true := ok_nI hp (by decide)
  have hnx : nx (nI p) = p := nx_nI (by omega)
  have f3 : f_M_fullNow 0 (sJ (sJ τ 17 fm) 6 (upd (vJ (sJ τ 17 fm) 6) p (vJ τ 6 p + suA 3 (Fc σ c p) CL))) = some (nI f) := by
    have hL := h.2.2.2.2.2.1.2
    have hM := h.2.2.2.2.2.2.1
    rcases hL with ⟨e1, e2⟩ | ⟨l, h2, e1, e2⟩
    · have e3 := m_full (τ := sJ (sJ τ 17 fm) 6 (upd (vJ (sJ τ 17 fm) 6) p (vJ τ 6 p + suA 3 (Fc σ c p) CL))) hM e1
      rw [e3, ← e2, f1]
    · unfold f_M_fullNow
      rw [show vI (sJ (sJ τ 17 fm) 6 (upd (vJ (sJ τ 17 fm) 6) p (vJ τ 6 p + suA 3 (Fc σ c p) CL))) 0 28 = nI l from e1, if_pos (nI_pos' (by omega)), ← e2, f1]
  refine ⟨_, _, by unfold f_K_fetch; simp only [hok, if_true, ex, Option.bind_some, st, hnx]; rfl, by unfold f_M_fetches; simp only [hok, if_true, show (3 : Int32) = nI 3 by decide, em, Option.bind_some, st, hnx, f3]; rfl, ?_⟩
  have A : FXk c σ (sJ (sI (sJ (sJ σ (c + 8) fx) (c + 6) (upd (vJ (sJ σ (c + 8) fx) (c + 6)) p (vJ σ (c + 6) p + suA 3 (Fc σ c p) CL))) c 8 (vI (sJ (sJ σ (c + 8) fx) (c + 6) (upd (vJ (sJ σ (c + 8) fx) (c + 6)) p (vJ σ (c + 6) p + suA 3 (Fc σ c p) CL))) c 12)) (c + 5) (upd (vJ (sI (sJ (sJ σ (c + 8) fx) (c + 6) (upd (vJ (sJ σ (c + 8) fx) (c + 6)) p (vJ σ (c + 6) p + suA 3 (Fc σ c p) CL))) c 8 (vI (sJ (sJ σ (c + 8) fx) (c + 6) (upd (vJ (sJ σ (c + 8) fx) (c + 6)) p (vJ σ (c + 6) p + suA 3 (Fc σ c p) CL))) c 12)) (c + 5)) p (vJ (sI (sJ (sJ σ (c + 8) fx) (c + 6) (upd (vJ (sJ σ (c + 8) fx) (c + 6)) p (vJ σ (c + 6) p + suA 3 (Fc σ c p) CL))) c 8 (vI (sJ (sJ σ (c + 8) fx) (c + 6) (upd (vJ (sJ σ (c + 8) fx) (c + 6)) p (vJ σ (c + 6) p + suA 3 (Fc σ c p) CL))) c 12)) (c + 5) p + 1))) := by
    refine ⟨fun k g hk => ?_, fun k q1 q2 q3 q4 => ?_, fun k => rfl, fun k => rfl⟩
    · simp only [vI_sI, vI_sJ]
      rcases hk with hk | ⟨hk, -⟩
      · rw [if_neg hk]
      · simp [hk]
    · simp only [vJ_sI, vJ_sJ, q1, q2, q3, q4, if_false]
  have M : FMk τ (sJ (sI (sJ (sJ τ 17 fm) 6 (upd (vJ (sJ τ 17 fm) 6) p (vJ τ 6 p + suA 3 (Fc σ c p) CL))) 0 1 (nI f)) 5 (upd (vJ (sI (sJ (sJ τ 17 fm) 6 (upd (vJ (sJ τ 17 fm) 6) p (vJ τ 6 p + suA 3 (Fc σ c p) CL))) 0 1 (nI f)) 5) p (vJ (sI (sJ (sJ τ 17 fm) 6 (upd (vJ (sJ τ 17 fm) 6) p (vJ τ 6 p + suA 3 (Fc σ c p) CL))) 0 1 (nI f)) 5 p + 1))) := by
    refine ⟨fun g q1 q2 => ?_, fun k q1 q2 q3 q4 => ?_, fun k => rfl⟩
    · simp only [vI_sI, vI_sJ, if_true, q1, if_false]
    · simp only [vJ_sI, vJ_sJ, q1, q2, q3, q4, if_false]
  have hI : FI τ (sJ (sI (sJ (sJ τ 17 fm) 6 (upd (vJ (sJ τ 17 fm) 6) p (vJ τ 6 p + suA 3 (Fc σ c p) CL))) 0 1 (nI f)) 5 (upd (vJ (sI (sJ (sJ τ 17 fm) 6 (upd (vJ (sJ τ 17 fm) 6) p (vJ τ 6 p + suA 3 (Fc σ c p) CL))) 0 1 (nI f)) 5) p (vJ (sI (sJ (sJ τ 17 fm) 6 (upd (vJ (sJ τ 17 fm) 6) p (vJ τ 6 p + suA 3 (Fc σ c p) CL))) 0 1 (nI f)) 5 p + 1))) p 1 := by
    intro i hi
    show upd (vJ τ 5) p (vJ τ 5 p + 1) i = _
    unfold upd
    split
    · rename_i e; rw [e]; rfl
    · rfl
  refine ⟨KR_keep h hc A M ⟨f, hf, ?_, ?_⟩ (fun i hi => ?_), A, M, ?_, ?_, hI⟩
  · simp [vI_sI, vI_sJ]; exact f1
  · simp [vI_sI, vI_sJ]
  · obtain ⟨-, -, -, g4, g5, g6⟩ := h.2.2.1 i hi
    refine ⟨?_, ?_, ?_⟩
    · simp [vJ_sI, vJ_sJ]; exact g4
    · simp only [vJ_sI, vJ_sJ, if_true, Nat.add_left_cancel_iff, show ¬ (5 = 6) by decide, show ¬ (5 = 8) by decide, show ¬ (5 = 17) by decide, if_false]
      unfold upd
      rw [j5, g5]
    · simp only [vJ_sI, vJ_sJ, if_true, Nat.add_left_cancel_iff, show ¬ (6 = 5) by decide, show ¬ (6 = 8) by decide, show ¬ (6 = 17) by decide, if_false]
      unfold upd
      rw [j6, g6]
  · simp [vI_sI, vI_sJ]
  · simp [vI_sI, vI_sJ]

theorem lesser_mn (x y : Int32) : f_M_lesser 0 x y = mnI x y := by
  unfold f_M_lesser mnI
  by_cases h : y ≤ x
  · rw [if_pos h]
    by_cases h2 : y < x
    · rw [if_pos h2]
    · rw [if_neg h2]; exact Int32.le_antisymm h (Int32.not_lt.mp h2)
  · rw [if_neg h, if_neg (fun q => h (Int32.le_of_lt q))]
theorem mn_n {a b : Nat} (ha : a < 2 ^ 31) (hb : b < 2 ^ 31) : mnI (nI a) (nI b) = nI (min a b) := by
  unfold mnI
  simp only [nIlt hb ha]
  by_cases h : b < a
  · rw [if_pos h, Nat.min_eq_right (by omega)]
  · rw [if_neg h, Nat.min_eq_left (by omega)]
/-- down to least: as far as the grains above it go -/
theorem down_n {g l w : Nat} (hg : g ≤ 990) (hl : l ≤ 99) (hw : w < 2 ^ 20) : mnI (nI w) (mxI (nI g - nI l) 0) = nI (min w (g - l)) := by
  unfold mxI
  by_cases h : g < l
  · rw [if_pos (pk_sneg (by omega) h), show (0 : Int32) = nI 0 by decide, mn_n (by omega) (by decide), show g - l = 0 by omega]
  · rw [pk_sub (by omega), if_neg (nI_pos (by omega)), mn_n (by omega) (by omega)]
theorem pol_n {τ : St} {g l w : Nat} (hg : g ≤ 990) (hl : l ≤ 99) (hw : w < 2 ^ 20) (h1 : vI τ 0 1 = nI g) (h2 : f_M_leastNow 0 τ = some (nI l)) : f_M_politely 0 (nI w) τ = some (nI (min w (g - l))) := by
  unfold f_M_politely
  rw [h2, Option.bind_some, h1]
  by_cases h : g < l
  · rw [if_neg (Int32.not_le.mpr (pk_sneg (by omega) h)), show g - l = 0 by omega, Nat.min_zero]; decide
  · rw [pk_sub (by omega), if_pos (nI_pos' (by omega)), lesser_mn, mn_n (by omega) (by omega)]
/-- what is taken: by kind, of the number that is wanted -/
def amt (k : Int32) (g l w : Nat) : Nat := if k = 1 then min (g / 2) w else if k = 2 then min (if 2 * w ≤ g then w else w / 2) (g - l) else if k = 3 then min w (g - l) else if k = 4 then min (g / 2) (2 * w) else if k = 5 then min w g else min w (g - l)
theorem amt_le {k : Int32} {g l w : Nat} : amt k g l w ≤ g := by
  unfold amt
  repeat' split
  all_goals omega
theorem x_amount {σ : St} {c p g l w : Nat} (hp : p < 6) (hg : g ≤ 990) (hl : l ≤ 99) (hw : w < 2 ^ 20) (h1 : vI σ c 8 = nI g) (h2 : vI σ c 11 = nI l) : f_K_amount c (nI p) (nI w) σ = some (nI (amt (vJ σ (c + 1) p) g l w)) := by
  unfold f_K_amount f_K_downToLeast
  have hok : ok (nI p) 6 = true := ok_nI hp (by decide)
  simp only [hok, if_true, nx_nI (show p < 2 ^ 31 by omega), h1, h2]
  rw [show (2 : Int32) = nI 2 by decide, pk_mul, pk_div (by omega) (by decide) (by decide), pk_div (by omega) (by decide) (by decide), mn_n (by omega) (by omega), mn_n (by omega) (by omega), mn_n (by omega) (by omega), down_n hg hl hw]
  unfold amt
  generalize vJ σ (c + 1) p = k
  rw [show nI 2 = (2 : Int32) by decide]
  by_cases k1 : k = 1
  · simp only [k1, if_true]
  by_cases k2 : k = 2
  · subst k2
    simp only [show ¬ (2 : Int32) = 1 by decide, if_true, if_false, nIle (show 2 * w < 2 ^ 31 by omega) (show g < 2 ^ 31 by omega)]
    by_cases h : 2 * w ≤ g
    · rw [if_pos h, if_pos h, Option.bind_some, down_n hg hl hw]
    · rw [if_neg h, if_neg h, Option.bind_some, down_n hg hl (by omega)]
  simp only [k1, k2, if_false]
  by_cases k3 : k = 3
  · simp only [k3, if_true]
  by_cases k4 : k = 4
  · simp only [k4, show ¬ (4 : Int32) = 3 by decide, if_true, if_false]
  by_cases k5 : k = 5
  · simp only [k5, show ¬ (5 : Int32) = 3 by decide, show ¬ (5 : Int32) = 4 by decide, if_true, if_false]
  simp only [k3, k4, k5, if_false]
theorem m_amount {τ : St} {p g l w : Nat} (hp : p < 6) (hg : g ≤ 990) (hl : l ≤ 99) (hw : w < 2 ^ 20) (h1 : vI τ 0 1 = nI g) (h2 : f_M_leastNow 0 τ = some (nI l)) : f_M_amount 0 (nI p) (nI w) τ = some (nI (amt (vJ τ 1 p) g l w)) := by
  unfold f_M_amount
  have hok : ok (nI p) 6 = true := ok_nI hp (by decide)
  simp only [hok, if_true, nx_nI (show p < 2 ^ 31 by omega), lesser_mn]
  rw [pol_n hg hl hw h1 h2, h1]
  rw [show (2 : Int32) = nI 2 by decide, pk_mul, pk_div (by omega) (by decide) (by decide), pk_div (by omega) (by decide) (by decide), mn_n (by omega) (by omega), mn_n (by omega) (by omega), mn_n (by omega) (by omega)]
  unfold amt
  generalize vJ τ 1 p = k
  rw [show nI 2 = (2 : Int32) by decide]
  by_cases k1 : k = 1
  · simp only [k1, if_true]
  by_cases k2 : k = 2
  · subst k2
    simp only [show ¬ (2 : Int32) = 1 by decide, if_true, if_false, nIle (show 2 * w < 2 ^ 31 by omega) (show g < 2 ^ 31 by omega)]
    by_cases h : 2 * w ≤ g
    · rw [if_pos h, if_pos h, Option.bind_some, pol_n hg hl hw h1 h2, Option.bind_some]
    · rw [if_neg h, if_neg h, Option.bind_some, pol_n hg hl (by omega) h1 h2, Option.bind_some]
  simp only [k1, k2, if_false]
  by_cases k3 : k = 3
  · simp only [k3, if_true, Option.bind_some]
  by_cases k4 : k = 4
  · simp only [k4, show ¬ (4 : Int32) = 3 by decide, if_true, if_false]
  by_cases k5 : k = 5
  · simp only [k5, show ¬ (5 : Int32) = 3 by decide, show ¬ (5 : Int32) = 4 by decide, if_true, if_false]
    rw [Nat.min_comm]
  simp only [k3, k4, k5, if_false, Option.bind_some]

theorem FI.rf {τ τ' : St} {p : Nat} (h : vJ τ' 5 = vJ τ 5) : FI τ τ' p 0 := by
  intro i hi
  rw [h, nI_0]
  split
  · exact (Int32.add_zero _).symm
  · rfl
theorem FI.tr {a b d : St} {p k1 k2 : Nat} (h1 : FI a b p k1) (h2 : FI b d p k2) : FI a d p (k1 + k2) := by
  intro i hi
  rw [h2 i hi, h1 i hi]
  split
  · rw [Int32.add_assoc, nI_add]
  · rfl
theorem first2 {σ τ : St} {c t d p : Nat} {w : Int32} {CL : List Cl} (h : KR σ c τ t d CL) (hp : p < 6) : ∃ b, f_K_fetchesFirst c (nI p) w σ = some b ∧ f_M_isFirst 0 (nI p) w τ = some b := by
  obtain ⟨l, hl, l1, l2⟩ := KR_least h
  obtain ⟨⟨-, hd, -, -, d1, d2⟩, ⟨g, hg, g1, g2⟩, hJ, hR, -⟩ := h
  obtain ⟨j1, -⟩ := hJ p hp
  have hok : ok (nI p) 6 = true := ok_nI hp (by decide)
  have e1 : (nI p * 4) + (nI d % 4) = nI (4 * p + d % 4) := by rw [show (4 : Int32) = nI 4 by decide, pk_mul, nI_rem (by omega) (by decide) (by decide), nI_add, Nat.mul_comm]
  have e2 : (4 * nI p) + (nI d % 4) = nI (4 * p + d % 4) := by rw [show (4 : Int32) = nI 4 by decide, pk_mul, nI_rem (by omega) (by decide) (by decide), nI_add]
  have hlt : 4 * p + d % 4 < 24 := by omega
  have hok2 : ok (nI (4 * p + d % 4)) 24 = true := ok_nI hlt (by decide)
  unfold f_K_fetchesFirst f_M_isFirst
  simp only [hok, if_true, nx_nI (show p < 2 ^ 31 by omega), d1, d2, e1, e2, hok2, nx_nI (show 4 * p + d % 4 < 2 ^ 31 by omega), l2, l1, g1, g2, Option.bind_some, j1, hR _ hlt]
  by_cases k3 : vJ τ 1 p = 3
  · simp only [k3, if_true]
    split
    · exact ⟨_, rfl, rfl⟩
    · exact ⟨_, rfl, rfl⟩
  · simp only [k3, if_false]
    by_cases k6 : vJ τ 1 p = 6
    · simp only [k6, if_true]
      split
      · exact ⟨_, rfl, rfl⟩
      · exact ⟨_, rfl, rfl⟩
    · simp only [k6, if_false]
      exact ⟨_, rfl, rfl⟩
theorem tak {σ τ : St} {c t d p : Nat} {CL : List Cl} (h : KR σ c τ t d CL) (hc : 49 ≤ c) (hp : p < t) : ∃ n k σ' τ', f_K_taking c (nI p) σ = some (nI n, σ') ∧ f_M_goes 0 (nI p) τ = some (nI n, τ') ∧ KR σ' c τ' t d CL ∧ FXk c σ σ' ∧ FMk τ τ' ∧ vI σ' c 13 = vI τ' 0 30 ∧ n ≤ 990 ∧ k ≤ 2 ∧ FI τ τ' p k := by
  have ht := h.1.1
  have hp6 : p < 6 := by omega
  have hok : ok (nI p) 6 = true := ok_nI hp6 (by decide)
  have hnx : nx (nI p) = p := nx_nI (by omega)
  obtain ⟨fx, ex⟩ := x_wants h hc hp6
  obtain ⟨fm, em⟩ := m_wants h hp6
  obtain ⟨q, hq1, hq2, hq3⟩ := h.2.2.2.2.1 p hp
  obtain ⟨sm, hs1, hs2⟩ := suA_n (w := 0) (F := Fc σ c p) h.2.2.2.2.2.2.2.1 h.2.2.2.2.2.2.2.2.2.1
  obtain ⟨j1, j2, j3, j4, j5, j6⟩ := h.2.2.1 p hp6
  rw [j3, hq3, hs2, nI_add] at ex
  rw [hq3, hs2, nI_add] at em
  -- behind the wants
  have A1 : FXk c σ (sJ σ (c + 8) fx) := ⟨fun _ _ _ => rfl, fun k q1 q2 q3 q4 => by rw [vJ_sJ, if_neg q4], fun _ => rfl, fun _ => rfl⟩
  have M1 : FMk τ (sJ τ 17 fm) := ⟨fun _ _ _ => rfl, fun k q1 q2 q3 q4 => by rw [vJ_sJ, if_neg q4], fun _ => rfl⟩
  have K1 : KR (sJ σ (c + 8) fx) c (sJ τ 17 fm) t d CL := KR_keep h hc A1 M1 h.2.1 (fun i hi => by
    obtain ⟨-, -, -, g4, g5, g6⟩ := h.2.2.1 i hi
    exact ⟨by rw [A1.2.1 (c + 4) |> fun _ => vJ_sJ, if_neg (by omega)]; exact g4, by rw [vJ_sJ, if_neg (by omega)]; exact g5, by rw [vJ_sJ, if_neg (by omega)]; exact g6⟩)
  generalize sJ σ (c + 8) fx = σ1 at ex A1 K1
  have hI1 : FI τ (sJ τ 17 fm) p 0 := FI.rf rfl
  generalize sJ τ 17 fm = τ1 at em M1 K1 hI1
  obtain ⟨b, b1, b2⟩ := first2 (w := nI (q + sm)) K1 hp6
  -- behind the fetching ahead
  have F2 : ∃ k σ2 τ2, (if b = false then some σ1 else ((f_K_fetch c (nI p) σ1).bind fun q12 => some q12)) = some σ2 ∧ (if b = false then some τ1 else ((f_M_fetches 0 (nI p) τ1).bind fun q10 => some q10)) = some τ2 ∧ KR σ2 c τ2 t d CL ∧ FXk c σ σ2 ∧ FMk τ τ2 ∧ k ≤ 1 ∧ FI τ τ2 p k := by
    cases b with
    | false => exact ⟨0, σ1, τ1, rfl, rfl, K1, A1, M1, by decide, hI1⟩
    | true =>
      obtain ⟨σ2, τ2, e1, e2, K2, A2, M2, -, -, I2⟩ := fetch2 K1 hc hp6
      refine ⟨0 + 1, σ2, τ2, ?_, ?_, K2, A1.tr A2, M1.tr M2, by decide, hI1.tr I2⟩
      · rw [if_neg (by decide), e1]; rfl
      · rw [if_neg (by decide), e2]; rfl
  obtain ⟨k, σ2, τ2, e2x, e2m, K2, A2, M2, hk, I2⟩ := F2
  obtain ⟨l, hl, l1, l2⟩ := KR_least K2
  obtain ⟨g, hg, g1, g2⟩ := K2.2.1
  obtain ⟨i1, -, -, i4, i5, i6⟩ := K2.2.2.1 p hp6
  have ax := x_amount (w := q + sm) hp6 hg hl (by omega) g1 l1
  have am := m_amount (w := q + sm) hp6 hg hl (by omega) g2 l2
  rw [i1] at ax
  have hn := amt_le (k := vJ τ2 1 p) (g := g) (l := l) (w := q + sm)
  generalize amt (vJ τ2 1 p) g l (q + sm) = n at ax am hn
  -- behind the taking
  have C3 : ∃ σ3, (if nI n < 1 then some σ2 else (if ok (nI p) 6 = true then (if ok (nI p) 6 = true then (st (sJ σ2 (c + 4) (upd (vJ σ2 (c + 4)) (nx (nI p)) ((vJ σ2 (c + 4) (nx (nI p))) + 1))) fun s24 => some s24) else none) else none)) = some σ3 ∧ FXk c σ2 σ3 ∧ vI σ3 c 8 = nI g ∧ vI σ3 c 11 = nI l ∧ (∀ i, i < 6 → vJ σ3 (c + 4) i = if i = p then vJ σ2 (c + 4) i + b2i (decide (¬ n ≤ 0)) else vJ σ2 (c + 4) i) ∧ vJ σ3 (c + 5) = vJ σ2 (c + 5) ∧ vJ σ3 (c + 6) = vJ σ2 (c + 6) := by
    by_cases hz : n = 0
    · subst hz
      refine ⟨σ2, by rw [if_pos (by decide)], FXk.rf, g1, l1, fun i hi => ?_, rfl, rfl⟩
      split
      · exact (Int32.add_zero _).symm
      · rfl
    · refine ⟨sJ σ2 (c + 4) (upd (vJ σ2 (c + 4)) p (vJ σ2 (c + 4) p + 1)), ?_, ⟨fun _ _ _ => rfl, fun k q1 q2 q3 q4 => by rw [vJ_sJ, if_neg q1], fun _ => rfl, fun _ => rfl⟩, g1, l1, fun i hi => ?_, by rw [vJ_sJ, if_neg (by omega)], by rw [vJ_sJ, if_neg (by omega)]⟩
      · rw [if_neg (by rw [show (1 : Int32) = nI 1 by decide, nIlt (by omega) (by decide)]; omega), if_pos hok, if_pos hok, hnx]
        rfl
      · rw [vJ_sJ, if_pos rfl]
        unfold upd
        rw [show decide (¬ n ≤ 0) = true by simp; omega]
        split
        · rename_i e; rw [e]; rfl
        · rfl
  obtain ⟨σ3, e3, A3, g3, l3, c4, c5, c6⟩ := C3
  have hsub : nI g - nI n = nI (g - n) := pk_sub hn
  -- the two worlds ahead of the last fetching
  have X4 : ∃ σ4, σ4 = sI (sI σ3 c 8 (nI (g - n))) c 13 (nI (g - n)) := ⟨_, rfl⟩
  obtain ⟨σ4, s4⟩ := X4
  have T4 : ∃ τ4, τ4 = sI (sJ (sI τ2 0 1 (nI (g - n))) 4 (upd (vJ τ2 4) p (vJ τ2 4 p + b2i (decide (¬ n ≤ 0))))) 0 30 (nI (g - n)) := ⟨_, rfl⟩
  obtain ⟨τ4, t4⟩ := T4
  have A4 : FXk c σ σ4 := (A2.tr A3).tr ⟨fun k f hk => by
      rw [s4]
      simp only [vI_sI]
      rcases hk with hk | ⟨h1, h2⟩
      · rw [if_neg hk, if_neg hk]
      · simp [h1, h2], fun _ _ _ _ _ => by rw [s4]; rfl, fun _ => by rw [s4]; rfl, fun _ => by rw [s4]; rfl⟩
  have M4 : FMk τ τ4 := M2.tr ⟨fun f q1 q2 => by rw [t4]; simp only [vI_sI, vI_sJ, if_true, q1, q2, if_false], fun k q1 q2 q3 q4 => by rw [t4]; simp only [vJ_sI, vJ_sJ, q1, if_false], fun _ => by rw [t4]; rfl⟩
  have r1 : vI σ4 c 8 = nI (g - n) := by rw [s4]; simp [vI_sI]
  have r2 : vI τ4 0 1 = nI (g - n) := by rw [t4]; simp [vI_sI, vI_sJ]
  have r3 : vI σ4 c 13 = vI τ4 0 30 := by rw [s4, t4]; simp [vI_sI, vI_sJ]
  have r4 : vI σ4 c 11 = nI l := by rw [s4]; simp [vI_sI]; exact l3
  have K4 : KR σ4 c τ4 t d CL := KR_keep h hc A4 M4 ⟨g - n, by omega, r1, r2⟩ (fun i hi => by
    obtain ⟨-, -, -, g4, g5, g6⟩ := K2.2.2.1 i hi
    refine ⟨?_, ?_, ?_⟩
    · rw [s4, t4]
      show vJ σ3 (c + 4) i = upd (vJ τ2 4) p _ i
      rw [c4 i hi, g4]
      unfold upd
      split
      · rename_i e; rw [e]
      · rfl
    · rw [s4, t4]
      show vJ σ3 (c + 5) i = vJ τ2 5 i
      rw [c5]; exact g5
    · rw [s4, t4]
      show vJ σ3 (c + 6) i = vJ τ2 6 i
      rw [c6]; exact g6)
  have I4 : FI τ τ4 p k := by
    intro i hi
    rw [show vJ τ4 5 = vJ τ2 5 by rw [t4]; rfl]
    exact I2 i hi
  have Lm : f_M_leastNow 0 τ4 = some (nI l) := by
    obtain ⟨l', hl', q1, q2⟩ := KR_least K4
    rw [q2, ← q1, r4]
  -- the class's way
  have EX : f_K_taking c (nI p) σ = (if nI l ≤ nI (g - n) then some (nI n, σ4) else ((f_K_fetch c (nI p) σ4).bind fun q32 => some (nI n, q32))) := by
    unfold f_K_taking
    rw [if_neg (nI_pos (by omega)), if_pos (by rw [h.1.2.2.1, nIlt (by omega) (by omega)]; exact hp), ex, Option.bind_some, b1, Option.bind_some, e2x, Option.bind_some, ax, Option.bind_some, e3, Option.bind_some]
    simp only [st, g3, hsub]
    rw [show vI (sI σ3 c 8 (nI (g - n))) c 8 = nI (g - n) by simp [vI_sI], ← s4, r4, r1]
  have EM : f_M_goes 0 (nI p) τ = (if nI l ≤ nI (g - n) then some (nI n, τ4) else ((f_M_fetches 0 (nI p) τ4).bind fun q31 => some (nI n, q31))) := by
    unfold f_M_goes
    rw [em, Option.bind_some, b2, Option.bind_some, e2m, Option.bind_some, am, Option.bind_some]
    have eb : (if nI n ≤ 0 then some false else some true) = some (decide (¬ n ≤ 0)) := by
      rw [show (0 : Int32) = nI 0 by decide]
      simp only [nIle (show n < 2 ^ 31 by omega) (show 0 < 2 ^ 31 by decide)]
      by_cases hz : n ≤ 0
      · rw [if_pos hz]; simp [hz]
      · rw [if_neg hz]; simp [hz]
    simp only [st, hok, if_true, hnx, g2, hsub, eb, Option.bind_some, vJ_sI, vI_sJ]
    rw [show vI (sI τ2 0 1 (nI (g - n))) 0 1 = nI (g - n) by simp [vI_sI], ← t4, Lm, Option.bind_some, r2]
  rw [EX, EM]
  by_cases hf : l ≤ g - n
  · rw [if_pos (nI_le hf (by omega)), if_pos (nI_le hf (by omega))]
    exact ⟨n, k, σ4, τ4, rfl, rfl, K4, A4, M4, r3, by omega, by omega, I4⟩
  · rw [if_neg (nI_ge (by omega) (by omega)), if_neg (nI_ge (by omega) (by omega))]
    obtain ⟨σ5, τ5, e5, e6, K5, A5, M5, q1, q2, I5⟩ := fetch2 K4 hc hp6
    rw [e5, e6]
    exact ⟨n, k + 1, σ5, τ5, rfl, rfl, K5, A4.tr A5, M4.tr M5, by rw [q1, q2]; exact r3, by omega, by omega, I4.tr I5⟩
