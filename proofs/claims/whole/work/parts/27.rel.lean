/-! ===== PURE: class and reference alike, between the calls ===== -/
/-- which rule holds: none, or the j-th that was read -/
def HL (CLs : List (List Cl)) (hx : Nat) (the : Int32) (CL : List Cl) : Prop := (hx = 1 ∧ the = -1 ∧ CL = []) ∨ ∃ j, j < 6 ∧ hx = 7 + 6 * j ∧ the = nI j ∧ CLs[j]? = some CL
def R1 (σ τ : St) (t d : Nat) (CL : List Cl) (CLs : List (List Cl)) : Prop := KR σ 49 τ t d CL ∧ d ≤ 9999 ∧ (∀ i, i < t → ∃ k, k ≤ 6 ∧ vJ τ 1 i = nI k) ∧ (vI τ 0 27 = -1 ∧ vI τ 0 28 = -1 ∧ vI τ 0 31 = -1 ∧ vI τ 0 32 = -1) ∧ HL CLs (vH σ 49) (vI τ 0 11) CL
def R2 (σ τ : St) (CLs : List (List Cl)) : Prop := CLs.length ≤ 6 ∧ vI σ 0 9 = nI CLs.length ∧ vI τ 0 10 = nI CLs.length ∧ XR σ 1 [] ∧ ∀ j CL, CLs[j]? = some CL → XR σ (7 + 6 * j) CL ∧ MR τ j CL ∧ CLok CL
def R3 (σ τ : St) (s : Nat) : Prop := s ≤ 100 ∧ vI σ 84 1 = nI s ∧ vI τ 0 12 = nI s ∧ ∀ i, i < s → ∃ b, b < 128 ∧ vJ σ 85 i = nI b ∧ vJ τ 8 i = nI b
/-- notes: the class's at the cell c, the reference's numbers and rows -/
def NR (σ : St) (c : Nat) (sn bk : Int32) (fo le bo : Nat → Int32) : Prop := ∃ a b, a ≤ 6 ∧ b ≤ 12 ∧ vI σ c 0 = nI a ∧ sn = nI a ∧ vI σ c 3 = nI b ∧ bk = nI b ∧ (∀ i, i < 6 → vJ σ (c + 1) i = fo i ∧ vJ σ (c + 2) i = le i) ∧ (∀ i, i < 12 → vJ σ (c + 3) i = bo i) ∧ ∀ i, i < a → ∃ g, g ≤ 990 ∧ fo i = nI g
def R4 (σ τ : St) : Prop := NR σ 76 (vI τ 0 40) (vI τ 0 43) (vJ τ 23) (vJ τ 24) (vJ τ 25)
def IR (σ τ : St) (CLs : List (List Cl)) : Prop := ∃ t d CL, (t ≤ 6 ∧ d ≤ 9999 ∧ vI σ 58 0 = nI t ∧ vI τ 0 47 = nI t ∧ vI σ 58 9 = nI d ∧ vI τ 0 49 = nI d) ∧ (∃ g, g ≤ 990 ∧ vI σ 58 8 = nI g ∧ vI τ 0 48 = nI g) ∧
  (∀ i, i < 6 → vJ σ 59 i = vJ τ 26 i ∧ vJ σ 60 i = vJ τ 27 i ∧ vJ σ 61 i = vJ τ 28 i ∧ vJ σ 62 i = vJ τ 29 i ∧ vJ σ 63 i = vJ τ 30 i ∧ vJ σ 64 i = vJ τ 31 i) ∧ (∀ i, i < 24 → vJ σ 65 i = vJ τ 32 i) ∧ (∀ i, i < t → ∃ q, 1 ≤ q ∧ q ≤ 60 ∧ vJ τ 28 i = nI q) ∧ (∀ i, i < t → ∃ k, k ≤ 6 ∧ vJ τ 26 i = nI k) ∧
  vI σ 58 11 = nI (leA CL) ∧ vI σ 58 12 = nI (fuA CL) ∧ HL CLs (vH σ 58) (vI τ 0 46) CL ∧ NR σ 80 (vI τ 0 50) (vI τ 0 51) (vJ τ 33) (vJ τ 34) (vJ τ 35)
def R5 (σ τ : St) (CLs : List (List Cl)) : Prop := (vI σ 0 6 = 0 ∧ vI τ 0 45 = 0) ∨ (vI σ 0 6 = 1 ∧ vI τ 0 45 = 1 ∧ IR σ τ CLs)
def R6 (σ τ : St) : Prop := ∀ k, k < 6 → ∃ (so : Int32) (z : Nat), (so = -1 ∧ z = 0 ∨ so = 0 ∨ so = 1 ∨ so = 2 ∨ so = 3 ∨ so = 4) ∧ z ≤ 60 ∧ vI σ (92 + 2 * k) 0 = so ∧ vJ τ 37 k = so ∧ vI σ (92 + 2 * k) 1 = nI z ∧ vJ τ 38 k = nI z ∧ ∀ i, i < 60 → vL σ (93 + 2 * k) i = vL τ 39 (60 * k + i)
def R7 (σ τ : St) : Prop := ∃ r, r ≤ 60 ∧ vI σ 89 1 = nI r ∧ vI τ 0 62 = nI r ∧ ∀ i, i < r → i < 20 → vJ σ 90 i = vJ τ 36 i
def letA : List Int32 := [119, 97, 110, 116, 108, 101, 97, 115, 116, 102, 117, 108, 108, 112, 97, 121]
def R8 (τ : St) : Prop := ∀ i, i < 16 → vJ τ 16 i = letA.getD i 0
def Rel (σ τ : St) : Prop := ∃ t d CL CLs s, R1 σ τ t d CL CLs ∧ R2 σ τ CLs ∧ R3 σ τ s ∧ R4 σ τ ∧ R5 σ τ CLs ∧ R6 σ τ ∧ R7 σ τ ∧ R8 τ
/-! what stays where only the trial, the scratch and what a day moves have changed -/
/-- the class: what no asking touches, but for what a day moves -/
def PX (σ σ' : St) : Prop := (∀ k f, (k < 49 ∨ (49 < k ∧ k < 67) ∨ 76 ≤ k) → (k, f) ∉ [(84, 2), (89, 2), (89, 3), (89, 4)] → vI σ' k f = vI σ k f) ∧ (∀ k, (k < 53 ∨ (57 < k ∧ k < 66) ∨ 76 ≤ k) → k ≠ 87 → k ≠ 88 → vJ σ' k = vJ σ k) ∧ (∀ k, vL σ' k = vL σ k) ∧ (∀ k, k ≠ 67 → k ≠ 84 → vH σ' k = vH σ k)
def PM (τ τ' : St) : Prop := (∀ f, f ∉ [1, 2, 13, 14, 23, 24, 25, 27, 28, 30, 31, 32, 33, 34] → vI τ' 0 f = vI τ 0 f) ∧ (∀ k, k ∉ [4, 5, 6, 15, 17, 18, 19, 20, 21, 22] → vJ τ' k = vJ τ k) ∧ (∀ k, k ≠ 40 → vL τ' k = vL τ k)
theorem PX.rf {a : St} : PX a a := ⟨fun _ _ _ _ => rfl, fun _ _ _ _ => rfl, fun _ => rfl, fun _ _ _ => rfl⟩
theorem PM.rf {a : St} : PM a a := ⟨fun _ _ => rfl, fun _ _ => rfl, fun _ _ => rfl⟩
theorem PX.tr {a b c : St} (h1 : PX a b) (h2 : PX b c) : PX a c := ⟨fun k f q1 q2 => (h2.1 k f q1 q2).trans (h1.1 k f q1 q2), fun k q1 q2 q3 => (h2.2.1 k q1 q2 q3).trans (h1.2.1 k q1 q2 q3), fun k => (h2.2.2.1 k).trans (h1.2.2.1 k), fun k q1 q2 => (h2.2.2.2 k q1 q2).trans (h1.2.2.2 k q1 q2)⟩
theorem PM.tr {a b c : St} (h1 : PM a b) (h2 : PM b c) : PM a c := ⟨fun f q => (h2.1 f q).trans (h1.1 f q), fun k q => (h2.2.1 k q).trans (h1.2.1 k q), fun k q => (h2.2.2 k q).trans (h1.2.2 k q)⟩
theorem FXd.p67 {σ σ' : St} (h : FXd 67 σ σ') : PX σ σ' := ⟨fun k f q _ => h.1 k f (Or.inl (by omega)), fun k q q2 q3 => h.2.1 k (by omega) (by omega) (by omega) (by omega), h.2.2.1, fun k _ _ => h.2.2.2 k⟩
theorem FXd.p49 {σ σ' : St} (h : FXd 49 σ σ') : PX σ σ' := ⟨fun k f q _ => h.1 k f (Or.inl (by omega)), fun k q q2 q3 => h.2.1 k (by omega) (by omega) (by omega) (by omega), h.2.2.1, fun k _ _ => h.2.2.2 k⟩
theorem FMd.p {τ τ' : St} (h : FMd τ τ') : PM τ τ' := ⟨fun f q => by simp at q; exact h.1 f (by omega) (by omega) (by omega), fun k q => by simp at q; exact h.2.1 k (by omega) (by omega) (by omega) (by omega), fun k _ => h.2.2 k⟩
theorem R2.keep {σ σ' τ τ' : St} {CLs : List (List Cl)} (hx : PX σ σ') (hm : PM τ τ') (h : R2 σ τ CLs) : R2 σ' τ' CLs := by
  obtain ⟨h1, h2, h3, h4, h5⟩ := h
  have xr : ∀ {r : Nat} {CL : List Cl}, r + 5 < 49 → XR σ r CL → XR σ' r CL := fun hr q => XR_congr (fun f => hx.1 _ f (Or.inl (by omega)) (by simp; omega)) (fun k g1 g2 => hx.2.1 _ (Or.inl (by omega)) (by omega) (by omega)) q
  refine ⟨h1, by rw [hx.1 0 9 (Or.inl (by decide)) (by decide)]; exact h2, by rw [hm.1 10 (by decide)]; exact h3, xr (by decide) h4, fun j CL hj => ?_⟩
  obtain ⟨g1, g2, g3⟩ := h5 j CL hj
  have hlt := (List.getElem?_eq_some_iff.mp hj).1
  exact ⟨xr (by omega) g1, MR_congr (fun k q1 q2 => hm.2.1 k (by simp; omega)) g2, g3⟩
theorem R3.keep {σ σ' τ τ' : St} {s : Nat} (hx : PX σ σ') (hm : PM τ τ') (h : R3 σ τ s) : R3 σ' τ' s := by
  obtain ⟨h1, h2, h3, h4⟩ := h
  refine ⟨h1, by rw [hx.1 84 1 (Or.inr (Or.inr (by decide))) (by decide)]; exact h2, by rw [hm.1 12 (by decide)]; exact h3, fun i hi => ?_⟩
  rw [hx.2.1 85 (Or.inr (Or.inr (by decide))) (by decide) (by decide), hm.2.1 8 (by decide)]
  exact h4 i hi
theorem NR.congr {σ σ' : St} {c : Nat} {sn bk : Int32} {fo le bo : Nat → Int32} (hI : ∀ f, vI σ' c f = vI σ c f) (hJ : ∀ k, 1 ≤ k → k ≤ 3 → vJ σ' (c + k) = vJ σ (c + k)) (h : NR σ c sn bk fo le bo) : NR σ' c sn bk fo le bo := by
  obtain ⟨a, b, h1, h2, h3, h4, h5, h6, h7, h8, h9⟩ := h
  refine ⟨a, b, h1, h2, by rw [hI]; exact h3, h4, by rw [hI]; exact h5, h6, fun i hi => ?_, fun i hi => ?_, h9⟩
  · rw [hJ 1 (by decide) (by decide), hJ 2 (by decide) (by decide)]; exact h7 i hi
  · rw [hJ 3 (by decide) (by decide)]; exact h8 i hi
theorem R4.keep {σ σ' τ τ' : St} (hx : PX σ σ') (hm : PM τ τ') (h : R4 σ τ) : R4 σ' τ' := by
  unfold R4 at h ⊢
  rw [hm.1 40 (by decide), hm.1 43 (by decide), hm.2.1 23 (by decide), hm.2.1 24 (by decide), hm.2.1 25 (by decide)]
  exact NR.congr (fun f => hx.1 76 f (Or.inr (Or.inr (by decide))) (by simp)) (fun k q1 q2 => hx.2.1 _ (Or.inr (Or.inr (by omega))) (by omega) (by omega)) h
theorem R5.keep {σ σ' τ τ' : St} {CLs : List (List Cl)} (hx : PX σ σ') (hm : PM τ τ') (h : R5 σ τ CLs) : R5 σ' τ' CLs := by
  unfold R5 at h ⊢
  rw [hx.1 0 6 (Or.inl (by decide)) (by decide), hm.1 45 (by decide)]
  rcases h with h | ⟨h1, h2, h3⟩
  · exact Or.inl h
  · refine Or.inr ⟨h1, h2, ?_⟩
    unfold IR at h3 ⊢
    have e58 : ∀ f, vI σ' 58 f = vI σ 58 f := fun f => hx.1 58 f (Or.inr (Or.inl (by decide))) (by simp)
    have j5 : ∀ k, 57 < k → k < 66 → vJ σ' k = vJ σ k := fun k q1 q2 => hx.2.1 k (Or.inr (Or.inl ⟨q1, q2⟩)) (by omega) (by omega)
    rw [e58, e58, e58, e58, e58, hm.1 47 (by decide), hm.1 49 (by decide), hm.1 48 (by decide), hm.1 46 (by decide), hm.1 50 (by decide), hm.1 51 (by decide), hx.2.2.2 58 (by decide) (by decide)]
    rw [j5 59 (by decide) (by decide), j5 60 (by decide) (by decide), j5 61 (by decide) (by decide), j5 62 (by decide) (by decide), j5 63 (by decide) (by decide), j5 64 (by decide) (by decide), j5 65 (by decide) (by decide)]
    rw [hm.2.1 26 (by decide), hm.2.1 27 (by decide), hm.2.1 28 (by decide), hm.2.1 29 (by decide), hm.2.1 30 (by decide), hm.2.1 31 (by decide), hm.2.1 32 (by decide), hm.2.1 33 (by decide), hm.2.1 34 (by decide), hm.2.1 35 (by decide)]
    obtain ⟨t, d, CL, g1, g2, g3, g4, g5, g6, g7, g8, g9, g10⟩ := h3
    exact ⟨t, d, CL, g1, g2, g3, g4, g5, g6, g7, g8, g9, NR.congr (fun f => hx.1 80 f (Or.inr (Or.inr (by decide))) (by simp)) (fun k q1 q2 => hx.2.1 _ (Or.inr (Or.inr (by omega))) (by omega) (by omega)) g10⟩
theorem R6.keep {σ σ' τ τ' : St} (hx : PX σ σ') (hm : PM τ τ') (h : R6 σ τ) : R6 σ' τ' := by
  intro k hk
  obtain ⟨so, z, h1, h2, h3, h4, h5, h6, h7⟩ := h k hk
  refine ⟨so, z, h1, h2, ?_, ?_, ?_, ?_, fun i hi => ?_⟩
  · rw [hx.1 _ 0 (Or.inr (Or.inr (by omega))) (by simp)]; exact h3
  · rw [hm.2.1 37 (by decide)]; exact h4
  · rw [hx.1 _ 1 (Or.inr (Or.inr (by omega))) (by simp)]; exact h5
  · rw [hm.2.1 38 (by decide)]; exact h6
  · rw [hx.2.2.1, hm.2.2 39 (by decide)]; exact h7 i hi
theorem R7.keep {σ σ' τ τ' : St} (hx : PX σ σ') (hm : PM τ τ') (h : R7 σ τ) : R7 σ' τ' := by
  obtain ⟨r, h1, h2, h3, h4⟩ := h
  refine ⟨r, h1, by rw [hx.1 89 1 (Or.inr (Or.inr (by decide))) (by decide)]; exact h2, by rw [hm.1 62 (by decide)]; exact h3, fun i hi hi2 => ?_⟩
  rw [hx.2.1 90 (Or.inr (Or.inr (by decide))) (by decide) (by decide), hm.2.1 36 (by decide)]
  exact h4 i hi hi2
theorem R8.keep {τ τ' : St} (hm : PM τ τ') (h : R8 τ) : R8 τ' := by
  intro i hi
  rw [hm.2.1 16 (by decide)]
  exact h i hi
/-- all but the kitchen -/
def Rst (σ τ : St) (CLs : List (List Cl)) (s : Nat) : Prop := R2 σ τ CLs ∧ R3 σ τ s ∧ R4 σ τ ∧ R5 σ τ CLs ∧ R6 σ τ ∧ R7 σ τ ∧ R8 τ
theorem Rst.keep {σ σ' τ τ' : St} {CLs : List (List Cl)} {s : Nat} (hx : PX σ σ') (hm : PM τ τ') (h : Rst σ τ CLs s) : Rst σ' τ' CLs s :=
  ⟨h.1.keep hx hm, h.2.1.keep hx hm, h.2.2.1.keep hx hm, h.2.2.2.1.keep hx hm, h.2.2.2.2.1.keep hx hm, h.2.2.2.2.2.1.keep hx hm, h.2.2.2.2.2.2.keep hm⟩
theorem Rel.of {σ τ : St} {t d s : Nat} {CL : List Cl} {CLs : List (List Cl)} (h1 : R1 σ τ t d CL CLs) (h2 : Rst σ τ CLs s) : Rel σ τ := ⟨t, d, CL, CLs, s, h1, h2⟩
/-- the kitchen stays: what a day moves is as it was -/
theorem R1.keep {σ σ' τ τ' : St} {t d : Nat} {CL : List Cl} {CLs : List (List Cl)} (hx : PX σ σ') (hx1 : (∀ f, f ≠ 13 → vI σ' 49 f = vI σ 49 f) ∧ vJ σ' 53 = vJ σ 53 ∧ vJ σ' 54 = vJ σ 54 ∧ vJ σ' 55 = vJ σ 55 ∧ vJ σ' 56 = vJ σ 56) (hm : PM τ τ') (hm1 : vI τ' 0 1 = vI τ 0 1 ∧ vI τ' 0 2 = vI τ 0 2 ∧ (vI τ' 0 27 = -1 ∧ vI τ' 0 28 = -1 ∧ vI τ' 0 31 = -1 ∧ vI τ' 0 32 = -1) ∧ ∀ i, i < 6 → vJ τ' 4 i = vJ τ 4 i ∧ vJ τ' 5 i = vJ τ 5 i ∧ vJ τ' 6 i = vJ τ 6 i) (h : R1 σ τ t d CL CLs) : R1 σ' τ' t d CL CLs := by
  obtain ⟨⟨⟨a1, a2, a3, a4, a5, a6⟩, ⟨g, g0, g1, g2⟩, b1, b2, b3, c1, c2, c3, c4, c5⟩, h2, h3, ⟨h4, h5, h6, h7⟩, h8⟩ := h
  obtain ⟨x1, x2, x3, x4, x5⟩ := hx1
  obtain ⟨m1, m2, m3, m4⟩ := hm1
  have hr := tg_1 c4
  have eH : vH σ' 49 = vH σ 49 := hx.2.2.2 49 (by decide) (by decide)
  have jx : ∀ k, k < 53 → vJ σ' k = vJ σ k := fun k q => hx.2.1 k (Or.inl q) (by omega) (by omega)
  have jm : ∀ k, k ∉ [4, 5, 6, 15, 17, 18, 19, 20, 21, 22] → vJ τ' k = vJ τ k := hm.2.1
  refine ⟨⟨⟨a1, a2, ?_, ?_, ?_, ?_⟩, ⟨g, g0, ?_, ?_⟩, fun i hi => ?_, fun i hi => ?_, fun i hi => ?_, ?_, ?_, c3, ?_, ?_⟩, h2, fun i hi => ?_, m3, ?_⟩
  · rw [x1 0 (by decide)]; exact a3
  · rw [hm.1 0 (by decide)]; exact a4
  · rw [x1 9 (by decide)]; exact a5
  · rw [m2]; exact a6
  · rw [x1 8 (by decide)]; exact g1
  · rw [m1]; exact g2
  · obtain ⟨q1, q2, q3, q4, q5, q6⟩ := b1 i hi
    obtain ⟨w4, w5, w6⟩ := m4 i hi
    show vJ σ' 50 i = _ ∧ vJ σ' 51 i = _ ∧ vJ σ' 52 i = _ ∧ vJ σ' 53 i = _ ∧ vJ σ' 54 i = _ ∧ vJ σ' 55 i = _
    rw [jx 50 (by decide), jx 51 (by decide), jx 52 (by decide), x2, x3, x4, jm 1 (by decide), jm 2 (by decide), jm 3 (by decide), w4, w5, w6]
    exact ⟨q1, q2, q3, q4, q5, q6⟩
  · show vJ σ' 56 i = _
    rw [x5, jm 7 (by decide)]; exact b2 i hi
  · rw [jm 3 (by decide)]; exact b3 i hi
  · unfold LF at c1 ⊢
    rw [m3.1, m3.2.1, x1 11 (by decide), x1 12 (by decide)]
    rw [h4, h5] at c1
    exact c1
  · exact MH_congr (hm.1 11 (by decide)) (fun k q1 q2 => jm k (by simp; omega)) c2
  · rw [eH]; exact c4
  · rw [eH]; exact XR_congr (fun f => hx.1 _ f (Or.inl (by omega)) (by simp; omega)) (fun k q1 q2 => jx _ (by omega)) c5
  · rw [jm 1 (by decide)]; exact h3 i hi
  · rw [eH, hm.1 11 (by decide)]; exact h8
