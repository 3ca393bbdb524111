/-! ===== PURE: what each part of the likeness reads ===== -/
def SX (a b : Nat) (σ σ' : St) : Prop := ∀ k, a ≤ k → k < b → (∀ f, vI σ' k f = vI σ k f) ∧ vJ σ' k = vJ σ k ∧ vL σ' k = vL σ k ∧ vH σ' k = vH σ k
theorem SX.rf {a b : Nat} {σ : St} : SX a b σ σ := fun _ _ _ => ⟨fun _ => rfl, rfl, rfl, rfl⟩
theorem SX.tr {a b : Nat} {σ σ' σ'' : St} (h1 : SX a b σ σ') (h2 : SX a b σ' σ'') : SX a b σ σ'' := fun k q1 q2 => ⟨fun f => ((h2 k q1 q2).1 f).trans ((h1 k q1 q2).1 f), (h2 k q1 q2).2.1.trans (h1 k q1 q2).2.1, (h2 k q1 q2).2.2.1.trans (h1 k q1 q2).2.2.1, (h2 k q1 q2).2.2.2.trans (h1 k q1 q2).2.2.2⟩
theorem SX.i {a b c f : Nat} {x : Int32} {σ σ' : St} (h : SX a b σ σ') (hc : c < a ∨ b ≤ c) : SX a b σ (sI σ' c f x) := h.tr (fun k q1 q2 => ⟨fun g => by rw [vI_sI, if_neg (by omega)], rfl, rfl, rfl⟩)
theorem SX.j {a b c : Nat} {x : Nat → Int32} {σ σ' : St} (h : SX a b σ σ') (hc : c < a ∨ b ≤ c) : SX a b σ (sJ σ' c x) := h.tr (fun k q1 q2 => ⟨fun g => rfl, by rw [vJ_sJ, if_neg (by omega)], rfl, rfl⟩)
theorem SX.l {a b c : Nat} {x : Nat → Int64} {σ σ' : St} (h : SX a b σ σ') (hc : c < a ∨ b ≤ c) : SX a b σ (sL σ' c x) := h.tr (fun k q1 q2 => ⟨fun g => rfl, rfl, by rw [vL_sL, if_neg (by omega)], rfl⟩)
theorem SX.h {a b c x : Nat} {σ σ' : St} (h : SX a b σ σ') (hc : c < a ∨ b ≤ c) : SX a b σ (sH σ' c x) := h.tr (fun k q1 q2 => ⟨fun g => rfl, rfl, rfl, by rw [vH_sH, if_neg (by omega)]⟩)
theorem R2.c {σ σ' τ τ' : St} {CLs : List (List Cl)} (h : R2 σ τ CLs) (h9 : vI σ' 0 9 = vI σ 0 9) (hx : SX 1 49 σ σ') (h10 : vI τ' 0 10 = vI τ 0 10) (hm : ∀ k, 9 ≤ k → k ≤ 14 → vJ τ' k = vJ τ k) : R2 σ' τ' CLs := by
  obtain ⟨h1, h2, h3, h4, h5⟩ := h
  have xr : ∀ {r : Nat} {CL : List Cl}, 1 ≤ r → r + 5 < 49 → XR σ r CL → XR σ' r CL := fun hr1 hr q => XR_congr (fun f => (hx _ hr1 (by omega)).1 f) (fun k g1 g2 => (hx _ (by omega) (by omega)).2.1) q
  refine ⟨h1, by rw [h9]; exact h2, by rw [h10]; exact h3, xr (by decide) (by decide) h4, fun j CL hj => ?_⟩
  obtain ⟨g1, g2, g3⟩ := h5 j CL hj
  have hlt := (List.getElem?_eq_some_iff.mp hj).1
  exact ⟨xr (by omega) (by omega) g1, MR_congr hm g2, g3⟩
theorem R3.c {σ σ' τ τ' : St} {s : Nat} (h : R3 σ τ s) (h1 : vI σ' 84 1 = vI σ 84 1) (h2 : vJ σ' 85 = vJ σ 85) (h3 : vI τ' 0 12 = vI τ 0 12) (h4 : vJ τ' 8 = vJ τ 8) : R3 σ' τ' s := by
  unfold R3 at h ⊢
  rw [h1, h2, h3, h4]
  exact h
theorem R4.c {σ σ' τ τ' : St} (h : R4 σ τ) (hx : SX 76 80 σ σ') (h1 : vI τ' 0 40 = vI τ 0 40) (h2 : vI τ' 0 43 = vI τ 0 43) (h3 : vJ τ' 23 = vJ τ 23) (h4 : vJ τ' 24 = vJ τ 24) (h5 : vJ τ' 25 = vJ τ 25) : R4 σ' τ' := by
  unfold R4 at h ⊢
  rw [h1, h2, h3, h4, h5]
  exact NR.congr (fun f => (hx 76 (by decide) (by decide)).1 f) (fun k q1 q2 => (hx _ (by omega) (by omega)).2.1) h
theorem R5.c {σ σ' τ τ' : St} {CLs : List (List Cl)} (h : R5 σ τ CLs) (h6 : vI σ' 0 6 = vI σ 0 6) (hx : SX 58 67 σ σ') (hy : SX 80 84 σ σ') (hm : ∀ f, 45 ≤ f → f ≤ 51 → vI τ' 0 f = vI τ 0 f) (hJ : ∀ k, 26 ≤ k → k ≤ 35 → vJ τ' k = vJ τ k) : R5 σ' τ' CLs := by
  unfold R5 at h ⊢
  rw [h6, hm 45 (by decide) (by decide)]
  rcases h with h | ⟨h1, h2, h3⟩
  · exact Or.inl h
  · refine Or.inr ⟨h1, h2, ?_⟩
    unfold IR at h3 ⊢
    have e58 : ∀ f, vI σ' 58 f = vI σ 58 f := (hx 58 (by decide) (by decide)).1
    have j5 : ∀ k, 58 ≤ k → k < 67 → vJ σ' k = vJ σ k := fun k q1 q2 => (hx k q1 q2).2.1
    rw [e58, e58, e58, e58, e58, hm 47 (by decide) (by decide), hm 49 (by decide) (by decide), hm 48 (by decide) (by decide), hm 46 (by decide) (by decide), hm 50 (by decide) (by decide), hm 51 (by decide) (by decide), (hx 58 (by decide) (by decide)).2.2.2]
    rw [j5 59 (by decide) (by decide), j5 60 (by decide) (by decide), j5 61 (by decide) (by decide), j5 62 (by decide) (by decide), j5 63 (by decide) (by decide), j5 64 (by decide) (by decide), j5 65 (by decide) (by decide)]
    rw [hJ 26 (by decide) (by decide), hJ 27 (by decide) (by decide), hJ 28 (by decide) (by decide), hJ 29 (by decide) (by decide), hJ 30 (by decide) (by decide), hJ 31 (by decide) (by decide), hJ 32 (by decide) (by decide), hJ 33 (by decide) (by decide), hJ 34 (by decide) (by decide), hJ 35 (by decide) (by decide)]
    obtain ⟨t, d, CL, g1, g2, g3, g4, g5, g6, g7, g8, g9, g10⟩ := h3
    exact ⟨t, d, CL, g1, g2, g3, g4, g5, g6, g7, g8, g9, NR.congr (fun f => (hy 80 (by decide) (by decide)).1 f) (fun k q1 q2 => (hy _ (by omega) (by omega)).2.1) g10⟩
theorem R6.c {σ σ' τ τ' : St} (h : R6 σ τ) (hx : SX 92 104 σ σ') (h1 : vJ τ' 37 = vJ τ 37) (h2 : vJ τ' 38 = vJ τ 38) (h3 : vL τ' 39 = vL τ 39) : R6 σ' τ' := by
  intro k hk
  obtain ⟨so, z, g1, g2, g3, g4, g5, g6, g7⟩ := h k hk
  refine ⟨so, z, g1, g2, ?_, ?_, ?_, ?_, fun i hi => ?_⟩
  · rw [(hx _ (by omega) (by omega)).1]; exact g3
  · rw [h1]; exact g4
  · rw [(hx _ (by omega) (by omega)).1]; exact g5
  · rw [h2]; exact g6
  · rw [(hx _ (by omega) (by omega)).2.2.1, h3]; exact g7 i hi
theorem R7.c {σ σ' τ τ' : St} (h : R7 σ τ) (h1 : vI σ' 89 1 = vI σ 89 1) (h2 : vJ σ' 90 = vJ σ 90) (h3 : vI τ' 0 62 = vI τ 0 62) (h4 : vJ τ' 36 = vJ τ 36) : R7 σ' τ' := by
  unfold R7 at h ⊢
  rw [h1, h2, h3, h4]
  exact h
theorem R8.c {τ τ' : St} (h : R8 τ) (h1 : vJ τ' 16 = vJ τ 16) : R8 τ' := by
  unfold R8 at h ⊢
  rw [h1]
  exact h
theorem tg_1' {r : Nat} (h : tg BX r 1) : 1 ≤ r ∧ r + 5 < 49 := by
  have h0 : ∀ c, c < 104 → tagsX.getD c 50 = 1 → 1 ≤ c ∧ c + 5 < 49 := by decide
  exact h0 r h.1 h.2
theorem KR.re {σ σ' τ τ' : St} {c t d t' d' : Nat} {CL : List Cl} (h : KR σ c τ t d CL) (hx : SX 1 49 σ σ') (h11 : vI σ' c 11 = vI σ c 11) (h12 : vI σ' c 12 = vI σ c 12) (hH : vH σ' c = vH σ c) (m27 : vI τ' 0 27 = vI τ 0 27) (m28 : vI τ' 0 28 = vI τ 0 28) (m11 : vI τ' 0 11 = vI τ 0 11) (mJ : ∀ k, 9 ≤ k → k ≤ 14 → vJ τ' k = vJ τ k)
    (n1 : t' ≤ 6 ∧ d' < 2 ^ 20 ∧ vI σ' c 0 = nI t' ∧ vI τ' 0 0 = nI t' ∧ vI σ' c 9 = nI d' ∧ vI τ' 0 2 = nI d') (n2 : ∃ g, g ≤ 990 ∧ vI σ' c 8 = nI g ∧ vI τ' 0 1 = nI g)
    (n3 : ∀ i, i < 6 → vJ σ' (c + 1) i = vJ τ' 1 i ∧ vJ σ' (c + 2) i = vJ τ' 2 i ∧ vJ σ' (c + 3) i = vJ τ' 3 i ∧ vJ σ' (c + 4) i = vJ τ' 4 i ∧ vJ σ' (c + 5) i = vJ τ' 5 i ∧ vJ σ' (c + 6) i = vJ τ' 6 i) (n4 : ∀ i, i < 24 → vJ σ' (c + 7) i = vJ τ' 7 i) (n5 : ∀ i, i < t' → ∃ q, 1 ≤ q ∧ q ≤ 60 ∧ vJ τ' 3 i = nI q) : KR σ' c τ' t' d' CL := by
  obtain ⟨-, -, -, -, -, c1, c2, c3, c4, c5⟩ := h
  obtain ⟨r1, r2⟩ := tg_1' c4
  refine ⟨n1, n2, n3, n4, n5, ?_, MH_congr m11 mJ c2, c3, by rw [hH]; exact c4, ?_⟩
  · unfold LF at c1 ⊢
    rw [m27, m28, h11, h12]
    exact c1
  · rw [hH]
    exact XR_congr (fun f => (hx _ r1 (by omega)).1 f) (fun k q1 q2 => (hx _ (by omega) (by omega)).2.1) c5
theorem RR.keep {N : Nat} {σ σ' τ τ' : St} {t d s : Nat} {CL : List Cl} {CLs : List (List Cl)} (h : RR N σ τ t d CL CLs s) (hx : PX σ σ') (hn : NX σ σ') (hm : PM τ τ') (m1 : vI τ' 0 1 = vI τ 0 1) (m2 : vI τ' 0 2 = vI τ 0 2) (hl : vI τ' 0 27 = vI τ 0 27 ∧ vI τ' 0 28 = vI τ 0 28 ∧ vI τ' 0 31 = vI τ 0 31 ∧ vI τ' 0 32 = vI τ 0 32) (m3 : ∀ i, i < 6 → vJ τ' 4 i = vJ τ 4 i ∧ vJ τ' 5 i = vJ τ 5 i ∧ vJ τ' 6 i = vJ τ 6 i) : RR N σ' τ' t d CL CLs s := by
  obtain ⟨h1, h2, h3⟩ := h
  obtain ⟨l1, l2, l3, l4⟩ := hl
  refine ⟨h1.keep hx hn hm ⟨m1, m2, ?_, m3⟩, h2.keep hx hm, fun i hi => ?_, fun i hi => ?_⟩
  · rw [l1, l2, l3, l4]; exact h1.2.2.2.1
  · rw [(m3 i hi).2.1]; exact h3.1 i hi
  · rw [hm.2.1 30 (by decide)]; exact h3.2 i hi
theorem RR.le {N M : Nat} {σ τ : St} {t d s : Nat} {CL : List Cl} {CLs : List (List Cl)} (h : RR N σ τ t d CL CLs s) (hN : N ≤ M) : RR M σ τ t d CL CLs s :=
  ⟨h.1, h.2.1, fun i hi => let ⟨k, q1, q2⟩ := h.2.2.1 i hi; ⟨k, by omega, q2⟩, fun i hi => let ⟨k, q1, q2⟩ := h.2.2.2 i hi; ⟨k, by omega, q2⟩⟩
theorem sm_ret {α : Type} {N : Nat} {σ τ : St} {t d s : Nat} {CL : List Cl} {CLs : List (List Cl)} (h : RR N σ τ t d CL CLs s) (r : α) : Sm N (some (r, σ)) (some (r, τ)) := ⟨r, σ, τ, rfl, rfl, t, d, CL, CLs, s, h⟩
theorem Sm.le {α : Type} {N M : Nat} {x y : Option (α × St)} (h : Sm N x y) (hN : N ≤ M) : Sm M x y := by
  obtain ⟨r, σ, τ, e1, e2, t, d, CL, CLs, s, h⟩ := h
  exact ⟨r, σ, τ, e1, e2, t, d, CL, CLs, s, h.le hN⟩
theorem sm_ite {α : Type} {N : Nat} {c : Prop} [Decidable c] {x1 x2 y1 y2 : Option (α × St)} (h1 : c → Sm N x1 y1) (h2 : ¬ c → Sm N x2 y2) : Sm N (if c then x1 else x2) (if c then y1 else y2) := by
  by_cases h : c
  · rw [if_pos h, if_pos h]; exact h1 h
  · rw [if_neg h, if_neg h]; exact h2 h
theorem ex_ite {α : Type} {c : Prop} [Decidable c] {x1 x2 y1 y2 : Option α} (h1 : c → ∃ r, x1 = some r ∧ y1 = some r) (h2 : ¬ c → ∃ r, x2 = some r ∧ y2 = some r) : ∃ r, (if c then x1 else x2) = some r ∧ (if c then y1 else y2) = some r := by
  by_cases h : c
  · rw [if_pos h, if_pos h]; exact h1 h
  · rw [if_neg h, if_neg h]; exact h2 h
theorem goDays_1 {τ : St} : f_M_goDays 0 1 τ = f_M_goDay 0 τ := by
  unfold f_M_goDays
  rw [show FU = 998 + 1 + 1 by rfl, f_M_goDays_l2, if_neg (by decide)]
  cases f_M_goDay 0 τ with
  | none => rfl
  | some a => rw [Option.bind_some, f_M_goDays_l2, if_pos (by decide)]; rfl
