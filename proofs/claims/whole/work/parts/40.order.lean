/-! ===== PURE: orders, as lists ===== -/
def fct : Nat → Nat
  | 0 => 1
  | n + 1 => fct n * (n + 1)
def pX : Nat → Int32 → Int32 → Int32 → Int32 → Int32 → Option (List Int32)
  | 0, _, _, _, _, _ => none
  | n + 1, x3, x4, x5, x6, x7 => if x3 ≤ x7 then some [] else if 5 ≤ x7 then none else if (x3 - x7) = 0 then none else if 1 ≤ (x6 / (x3 - x7)) then (if (x6 / (x3 - x7)) = 0 then none else (f_X_unused x4 (x5 / (x6 / (x3 - x7))) x3).bind fun q => (pX n x3 (x4 ||| (1 <<< (q &&& (31 : Int32)))) (x5 % (x6 / (x3 - x7))) (x6 / (x3 - x7)) (x7 + 1)).map (fun L => q :: L)) else none
def h78 : Nat → Int32 → Int32 → Int32 → Option Int32
  | 0, _, _, _ => none
  | n + 1, x3, x6, x7 => (if (f_M_has 0 x3 x7) = false then (if (f_M_has 0 x3 x7) = false then (h78 n x3 (x6 - 0) (x7 + 1)) else (h78 n x3 (x6 - 1) (x7 + 1))) else (if x6 ≤ 0 then some x7 else (if (f_M_has 0 x3 x7) = false then (h78 n x3 (x6 - 0) (x7 + 1)) else (h78 n x3 (x6 - 1) (x7 + 1)))))
theorem h78_eq {x2 x3 x4 x5 : Int32} {σ : St} : ∀ (n : Nat) (x6 x7 : Int32), f_M_layOrder_l78 n 0 x2 x3 x4 x5 x6 x7 σ = h78 n x3 x6 x7 := by
  intro n
  induction n with
  | zero => intro _ _; rfl
  | succ n ih => intro x6 x7; rw [f_M_layOrder_l78, h78, ih, ih]
def pM : Nat → Int32 → Int32 → Int32 → Int32 → Int32 → Option (List Int32)
  | 0, _, _, _, _, _ => none
  | n + 1, t, x2, x3, x4, x5 => if t ≤ x5 then some [] else if 5 ≤ x5 then none else if (t - x5) = 0 then none else if (x2 / (t - x5)) = 0 then none else (h78 FU x3 (x4 / (x2 / (t - x5))) 0).bind fun q => (pM n t (x2 / (t - x5)) (x3 &&& ((1 <<< (q &&& (31 : Int32))) ^^^ (-1))) (x4 % (x2 / (t - x5))) (x5 + 1)).map (fun L => q :: L)
def okL (t : Nat) : Option (List Int32) → Bool
  | none => false
  | some L => decide (L.length = t) && L.all (fun q => (List.range t).any (fun v => decide (q = nI v)))
theorem orders_ok : ∀ t, t < 6 → ∀ r, r < 120 → r < fct t → okL t (pX FU (nI t) 0 (nI r) (nI (fct t)) 0) = true ∧ pX FU (nI t) 0 (nI r) (nI (fct t)) 0 = pM FU (nI t) (nI (fct t)) ((1 <<< ((nI t) &&& (31 : Int32))) - 1) (nI r) 0 := by decide +kernel
theorem orders2 {t r : Nat} (ht : t ≤ 5) (hr : r < fct t) : ∃ P : Nat → Nat, (∀ i, i < t → P i < t) ∧ pX FU (nI t) 0 (nI r) (nI (fct t)) 0 = some ((List.range t).map (fun i => nI (P i))) ∧ pM FU (nI t) (nI (fct t)) ((1 <<< ((nI t) &&& (31 : Int32))) - 1) (nI r) 0 = some ((List.range t).map (fun i => nI (P i))) := by
  have hb : fct t ≤ 120 := by
    have : ∀ t, t < 6 → fct t ≤ 120 := by decide
    exact this t (by omega)
  obtain ⟨h1, h2⟩ := orders_ok t (by omega) r (by omega) hr
  rw [← h2]
  cases hp : pX FU (nI t) 0 (nI r) (nI (fct t)) 0 with
  | none => rw [hp] at h1; cases h1
  | some L =>
    rw [hp] at h1
    simp only [okL, Bool.and_eq_true, decide_eq_true_eq, List.all_eq_true, List.any_eq_true, List.mem_range] at h1
    obtain ⟨hl, ha⟩ := h1
    have hP : ∀ i, ∃ v, i < t → v < t ∧ L[i]? = some (nI v) := by
      intro i
      by_cases hi : i < t
      · obtain ⟨v, hv, e⟩ := ha L[i] (List.getElem_mem (by omega))
        exact ⟨v, fun _ => ⟨hv, by rw [List.getElem?_eq_getElem (by omega), e]⟩⟩
      · exact ⟨0, fun h => absurd h hi⟩
    refine ⟨fun i => (hP i).choose, fun i hi => ((hP i).choose_spec hi).1, ?_, ?_⟩
    all_goals
      congr 1
      apply List.ext_getElem?
      intro i
      by_cases hi : i < t
      · rw [((hP i).choose_spec hi).2, List.getElem?_map, List.getElem?_range hi]; rfl
      · rw [List.getElem?_eq_none (by omega), List.getElem?_eq_none (by simp; omega)]
theorem sJ_self (σ : St) (c : Nat) : sJ σ c (vJ σ c) = σ := by
  unfold sJ
  refine Prod.ext rfl (Prod.ext ?_ rfl)
  funext z
  show up1 σ.2.1 c (vJ σ c) z = σ.2.1 z
  unfold up1
  split
  · rename_i h; rw [h]; rfl
  · rfl
theorem pX_eq {x3 : Int32} : ∀ (n j : Nat) (x4 x5 x6 : Int32) (L : List Int32) (σ : St), j ≤ 5 → pX n x3 x4 x5 x6 (nI j) = some L → ∃ h, f_X_putOrder_l12 n 0 x3 x4 x5 x6 (nI j) σ = some (Sum.inl (sJ σ 87 h)) ∧ (∀ i, i < j → h i = vJ σ 87 i) ∧ ∀ i q, L[i]? = some q → h (j + i) = q := by
  intro n
  induction n with
  | zero => intro _ _ _ _ _ _ _ h; cases h
  | succ n ih =>
    intro j x4 x5 x6 L σ hj h
    rw [pX] at h
    rw [f_X_putOrder_l12]
    by_cases c1 : x3 ≤ nI j
    · rw [if_pos c1] at h ⊢
      cases h
      exact ⟨vJ σ 87, by rw [sJ_self], fun _ _ => rfl, fun i q e => by cases e⟩
    rw [if_neg c1] at h ⊢
    by_cases c2 : 5 ≤ nI j
    · rw [if_pos c2] at h; cases h
    rw [if_neg c2] at h ⊢
    have hj5 : j < 5 := by rw [show (5 : Int32) = nI 5 by decide, nIle (by decide) (by omega)] at c2; omega
    by_cases c3 : (x3 - nI j) = 0
    · rw [if_pos c3] at h; cases h
    rw [if_neg c3] at h ⊢
    by_cases c4 : 1 ≤ (x6 / (x3 - nI j))
    · rw [if_pos c4] at h ⊢
      by_cases c5 : (x6 / (x3 - nI j)) = 0
      · rw [if_pos c5] at h; cases h
      simp only [c5, if_false] at h ⊢
      cases hu : f_X_unused x4 (x5 / (x6 / (x3 - nI j))) x3 with
      | none => rw [hu] at h; cases h
      | some q =>
        rw [hu, Option.bind_some] at h
        simp only [Option.bind_some, ok_nI (show j < 5 by omega) (show 5 < 2 ^ 31 by decide), if_true, nx_nI (show j < 2 ^ 31 by omega), st, nI_1] at h ⊢
        cases hp : pX n x3 (x4 ||| (1 <<< (q &&& (31 : Int32)))) (x5 % (x6 / (x3 - nI j))) (x6 / (x3 - nI j)) (nI (j + 1)) with
        | none => rw [hp] at h; cases h
        | some L' =>
          rw [hp] at h
          cases h
          obtain ⟨h', e, w1, w2⟩ := ih (j + 1) _ _ _ L' (sJ σ 87 (upd (vJ σ 87) j q)) (by omega) hp
          have vq : vJ (sJ σ 87 (upd (vJ σ 87) j q)) 87 j = q := by rw [vJ_sJ, if_pos rfl, upd_s]
          rw [vq, e, sJ_sJ]
          refine ⟨h', rfl, fun i hi => ?_, fun i q' hq => ?_⟩
          · rw [w1 i (by omega), vJ_sJ, if_pos rfl, upd_n (by omega)]
          · cases i with
            | zero =>
              cases hq
              rw [Nat.add_zero, w1 j (by omega)]
              exact vq
            | succ i => rw [show j + (i + 1) = j + 1 + i by omega]; exact w2 i q' (by simpa using hq)
    · rw [if_neg c4] at h; cases h
theorem pM_eq {t : Int32} : ∀ (n j : Nat) (x2 x3 x4 : Int32) (L : List Int32) (τ : St), vI τ 0 0 = t → j ≤ 5 → pM n t x2 x3 x4 (nI j) = some L → ∃ h, f_M_layOrder_l44 n 0 x2 x3 x4 (nI j) τ = some (sJ τ 21 h) ∧ (∀ i, i < j → h i = vJ τ 21 i) ∧ ∀ i q, L[i]? = some q → h (j + i) = q := by
  intro n
  induction n with
  | zero => intro _ _ _ _ _ _ _ _ h; cases h
  | succ n ih =>
    intro j x2 x3 x4 L τ hT hj h
    rw [pM] at h
    rw [f_M_layOrder_l44, hT]
    by_cases c1 : t ≤ nI j
    · rw [if_pos c1] at h ⊢
      cases h
      exact ⟨vJ τ 21, by rw [sJ_self], fun _ _ => rfl, fun i q e => by cases e⟩
    rw [if_neg c1] at h ⊢
    by_cases c2 : 5 ≤ nI j
    · rw [if_pos c2] at h; cases h
    rw [if_neg c2] at h
    have hj5 : j < 5 := by rw [show (5 : Int32) = nI 5 by decide, nIle (by decide) (by omega)] at c2; omega
    by_cases c3 : (t - nI j) = 0
    · rw [if_pos c3] at h; cases h
    rw [if_neg c3] at h ⊢
    by_cases c5 : (x2 / (t - nI j)) = 0
    · rw [if_pos c5] at h; cases h
    rw [if_neg c5] at h
    rw [if_neg c5, if_neg c5, h78_eq]
    cases hu : h78 FU x3 (x4 / (x2 / (t - nI j))) 0 with
    | none => rw [hu] at h; cases h
    | some q =>
      rw [hu, Option.bind_some] at h
      simp only [Option.bind_some, ok_nI (show j < 5 by omega) (show 5 < 2 ^ 31 by decide), if_true, nx_nI (show j < 2 ^ 31 by omega), st, nI_1] at h ⊢
      cases hp : pM n t (x2 / (t - nI j)) (x3 &&& ((1 <<< (q &&& (31 : Int32))) ^^^ (-1))) (x4 % (x2 / (t - nI j))) (nI (j + 1)) with
      | none => rw [hp] at h; cases h
      | some L' =>
        rw [hp] at h
        cases h
        obtain ⟨h', e, w1, w2⟩ := ih (j + 1) _ _ _ L' (sJ τ 21 (upd (vJ τ 21) j q)) hT (by omega) hp
        rw [e, sJ_sJ]
        refine ⟨h', rfl, fun i hi => ?_, fun i q' hq => ?_⟩
        · rw [w1 i (by omega), vJ_sJ, if_pos rfl, upd_n (by omega)]
        · cases i with
          | zero =>
            cases hq
            rw [Nat.add_zero, w1 j (by omega), vJ_sJ, if_pos rfl, upd_s]
          | succ i => rw [show j + (i + 1) = j + 1 + i by omega]; exact w2 i q' (by simpa using hq)
