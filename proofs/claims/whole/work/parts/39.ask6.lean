/-! ===== PURE: askings: who ===== -/
theorem KR.fill {σ τ : St} {c t d g : Nat} {CL : List Cl} (h : KR σ c τ t d CL) (hc : 49 ≤ c) (hg : g ≤ 990) : KR (sI σ c 8 (nI g)) c (sI τ 0 1 (nI g)) t d CL := by
  have h' := h
  obtain ⟨⟨a1, a2, a3, a4, a5, a6⟩, n2, n3, n4, n5, -⟩ := h'
  exact h.re (SX.rf.i (by omega)) (by simp [vI_sI]) (by simp [vI_sI]) rfl rfl rfl rfl (fun _ _ _ => rfl) ⟨a1, a2, by simp [vI_sI]; exact a3, a4, by simp [vI_sI]; exact a5, a6⟩ ⟨g, hg, by simp [vI_sI], rfl⟩ n3 n4 n5
theorem AK.fill {σ0 τ0 σ τ : St} {x y : Int32} (h : AK σ0 τ0 σ τ) : AK σ0 τ0 (sI σ 67 8 x) (sI τ 0 1 y) :=
  h.d ⟨fun k f q => by
    rw [vI_sI]
    rcases q with q | ⟨q, -, -⟩
    · rw [if_neg q]
    · rw [if_neg q]; split <;> rfl, fun _ _ _ _ _ => rfl, fun _ => rfl, fun _ => rfl⟩ ⟨fun f q1 q2 q3 => by rw [vI_sI, if_pos rfl, if_neg q1], fun _ _ _ _ _ => rfl, fun _ => rfl⟩
/-- one sight of one taker -/
theorem seen1 {N : Nat} {σ τ : St} {t d s p a i : Nat} {CL : List Cl} {CLs : List (List Cl)} (h : RR N σ τ t d CL CLs s) (hp : p < t) (hx : vI σ 76 0 = nI a) (ha : a ≤ 6) (hi : i < a) : ∃ b σ1 σ2 g σ3 τ3, f_K_becomes 67 49 σ = some σ1 ∧ σ2 = sI σ1 67 8 (vJ σ1 77 i) ∧ f_K_taking 67 (nI p) σ2 = some (g, σ3) ∧ (decide (vI σ3 67 8 = vJ σ3 78 i)) = b ∧ f_M_isSeen 0 (nI p) (nI i) τ = some (b, τ3) ∧ RR N σ3 τ3 t d CL CLs s ∧ vI σ3 76 0 = vI σ 76 0 ∧ vI τ3 0 40 = vI τ 0 40 := by
  obtain ⟨a', b', a6, b12, x1, m1, x2, m2, j1, j2, g1⟩ := h.2.1.2.2.1
  have haa : a' = a := by
    have := x1.symm.trans hx
    rw [nIeq (by omega) (by omega)] at this
    exact this
  subst haa
  obtain ⟨g, hg, eg⟩ := g1 i hi
  obtain ⟨σ1, τ1, e1, e2, hA, hk, hK, hl⟩ := ask0 h
  have v77 : vJ σ1 77 i = nI g := by rw [hA.1.2.1 77 (by decide) (by decide) (by decide), ← eg]; exact (j1 i (by omega)).1
  have v23 : vJ τ1 23 i = nI g := by rw [hk.2 23 (by decide) (by decide) (by decide)]; exact eg
  obtain ⟨v, k, σ3, τ2, e3, e4, K1, A1, M1, -, -, hkk, I1⟩ := tak (hK.fill (by decide) hg) (by decide) hp
  have hA1 := hA.fill.d A1.d M1.d
  have hl0 : LK (sI τ1 0 1 (nI g)) := hl
  obtain ⟨τ3, e5, hb, hR⟩ := hA1.back0 h (M1.d.lk hl0)
  obtain ⟨q, -, q1, q2⟩ := K1.2.1
  have ej : vJ σ3 78 i = vJ τ2 24 i := by
    rw [hA1.1.2.1 78 (by decide) (by decide) (by decide), hA1.2.2.1.2.1 24 (by decide)]; exact (j1 i (by omega)).2
  have hok : ok (nI i) 6 = true := ok_nI (by omega) (by decide)
  refine ⟨decide (nI q = vJ τ2 24 i), σ1, _, nI v, σ3, τ3, e1, rfl, by rw [v77]; exact e3, by rw [q1, ej], ?_, hR, hA1.1.1 76 0 (by decide) (by decide), (hb.1 40 (by decide) (by decide)).trans (hA1.2.2.1.1 40 (by decide))⟩
  unfold f_M_isSeen
  simp only [e2, Option.bind_some, hok, if_true, nx_nI (show i < 2 ^ 31 by omega), v23, st, e4, q2]
  by_cases hc : nI q = vJ τ2 24 i
  · rw [if_pos hc, Option.bind_some, e5, Option.bind_some, decide_eq_true hc]
  · rw [if_neg hc, Option.bind_some, e5, Option.bind_some, decide_eq_false hc]
theorem seen_l {N t d s p a : Nat} {CL : List Cl} {CLs : List (List Cl)} {x1 : Int32} (hp : p < t) (ha : a ≤ 6) : ∀ (k i f f' : Nat) (σ τ : St), RR N σ τ t d CL CLs s → vI σ 76 0 = nI a → vI τ 0 40 = nI a → i + k = a → k < f → k + 1 < f' → ∃ b σ' τ', ((f_X_leavesWhatIsSeen_l2 f 0 (nI p) (nI i) σ).bind fun x_13 => Sum.elim (fun y15 => some (true, y15)) (fun z => some z) x_13) = some (b, σ') ∧ f_M_who_l17 f' 0 x1 (nI p) 1 (nI i) τ = some (b2i b, τ') ∧ RR N σ' τ' t d CL CLs s ∧ vI σ' 76 0 = nI a ∧ vI τ' 0 40 = nI a := by
  intro k
  induction k with
  | zero =>
    intro i f f' σ τ hR hx hm hi hf hf'
    obtain ⟨f, rfl⟩ : ∃ z, f = z + 1 := ⟨f - 1, by omega⟩
    obtain ⟨f', rfl⟩ : ∃ z, f' = z + 1 := ⟨f' - 1, by omega⟩
    refine ⟨true, σ, τ, ?_, ?_, hR, hx, hm⟩
    · rw [f_X_leavesWhatIsSeen_l2, hx, if_pos (nI_le (by omega) (by omega))]; rfl
    · rw [f_M_who_l17, hm, if_pos (nI_le (by omega) (by omega))]; rfl
  | succ k ih =>
    intro i f f' σ τ hR hx hm hi hf hf'
    obtain ⟨f, rfl⟩ : ∃ z, f = z + 1 := ⟨f - 1, by omega⟩
    obtain ⟨f', rfl⟩ : ∃ z, f' = z + 1 := ⟨f' - 1, by omega⟩
    obtain ⟨b, σ1, σ2, g, σ3, τ3, e1, e2, e3, e4, e5, hR', x', m'⟩ := seen1 hR hp hx ha (i := i) (by omega)
    subst e2
    have hok : ok (nI i) 6 = true := ok_nI (by omega) (by decide)
    rw [f_X_leavesWhatIsSeen_l2, hx, if_neg (nI_ge (by omega) (by omega)), f_M_who_l17, hm, if_neg (nI_ge (by omega) (by omega)), if_neg (by decide), e5, e1]
    simp only [Option.bind_some, hok, if_true, nx_nI (show i < 2 ^ 31 by omega), st, show (76 : Nat) + 1 = 77 by rfl, e3, nI_1, show (76 : Nat) + 2 = 78 by rfl]
    cases hb : b with
    | true =>
      rw [hb] at e4
      rw [if_pos (of_decide_eq_true e4), show b2i true = 1 by decide]
      exact ih (i + 1) f f' σ3 τ3 hR' (x'.trans hx) (m'.trans hm) (by omega) (by omega) (by omega)
    | false =>
      rw [hb] at e4
      rw [if_neg (of_decide_eq_false e4), show b2i false = 0 by decide]
      obtain ⟨f', rfl⟩ : ∃ z, f' = z + 1 := ⟨f' - 1, by omega⟩
      refine ⟨false, σ3, τ3, rfl, ?_, hR', x'.trans hx, m'.trans hm⟩
      rw [f_M_who_l17]
      by_cases hc : vI τ3 0 40 ≤ nI (i + 1)
      · rw [if_pos hc]; rfl
      · rw [if_neg hc, if_pos rfl]; rfl
theorem who_l {N t d s a : Nat} {CL : List Cl} {CLs : List (List Cl)} (ha : a ≤ 6) : ∀ (k i f f' : Nat) (x : Int32) (σ τ : St), RR N σ τ t d CL CLs s → vI σ 76 0 = nI a → vI τ 0 40 = nI a → i + k = t → k < f → k < f' → ∃ r σ' τ', f_X_who_l4 f 0 x (nI i) σ = some (r, σ') ∧ f_M_who_l4 f' 0 x (nI i) τ = some (r, τ') ∧ RR N σ' τ' t d CL CLs s := by
  intro k
  induction k with
  | zero =>
    intro i f f' x σ τ hR hx hm hi hf hf'
    obtain ⟨f, rfl⟩ : ∃ z, f = z + 1 := ⟨f - 1, by omega⟩
    obtain ⟨f', rfl⟩ : ∃ z, f' = z + 1 := ⟨f' - 1, by omega⟩
    have ht := hR.1.1.1.1
    refine ⟨x, σ, τ, ?_, ?_, hR⟩
    · rw [f_X_who_l4, hR.1.1.1.2.2.1, if_pos (nI_le (by omega) (by omega))]
    · rw [f_M_who_l4, hR.1.1.1.2.2.2.1, if_pos (nI_le (by omega) (by omega))]
  | succ k ih =>
    intro i f f' x σ τ hR hx hm hi hf hf'
    obtain ⟨f, rfl⟩ : ∃ z, f = z + 1 := ⟨f - 1, by omega⟩
    obtain ⟨f', rfl⟩ : ∃ z, f' = z + 1 := ⟨f' - 1, by omega⟩
    have ht := hR.1.1.1.1
    obtain ⟨b, σ1, τ1, e1, e2, hR1, x', m'⟩ := seen_l (x1 := x) (p := i) (by omega) ha a 0 FU FU σ τ hR hx hm (by omega) (by unfold FU; omega) (by unfold FU; omega)
    rw [nI_0] at e1 e2
    rw [f_X_who_l4, hR.1.1.1.2.2.1, if_neg (nI_ge (by omega) (by omega)), f_M_who_l4, hR.1.1.1.2.2.2.1, if_neg (nI_ge (by omega) (by omega)), e2]
    unfold f_X_leavesWhatIsSeen
    rw [e1]
    simp only [Option.bind_some, nI_1]
    cases b with
    | true =>
      rw [if_neg (by decide), if_neg (by decide)]
      exact ih (i + 1) f f' _ σ1 τ1 hR1 x' m' (by omega) (by omega) (by omega)
    | false =>
      rw [if_pos rfl, if_pos (by decide), show x ||| 0 = x from Int32.or_zero]
      exact ih (i + 1) f f' _ σ1 τ1 hR1 x' m' (by omega) (by omega) (by omega)
theorem op_who {N : Nat} {σ τ : St} {t d s : Nat} {CL : List Cl} {CLs : List (List Cl)} (h : RR N σ τ t d CL CLs s) : Sm N (f_X_who 0 σ) (f_M_who 0 τ) := by
  obtain ⟨a, b, a6, b12, x1, m1, -⟩ := h.2.1.2.2.1
  have ht := h.1.1.1.1
  obtain ⟨r, σ1, τ1, e1, e2, hR⟩ := who_l a6 t 0 FU FU 0 σ τ h x1 m1 (by omega) (by unfold FU; omega) (by unfold FU; omega)
  rw [nI_0] at e1 e2
  unfold f_X_who f_M_who
  rw [e1, e2]
  exact sm_ret hR _
