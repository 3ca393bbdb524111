/-! ===== PURE: steps of the class, tokens and waiting signs of the reference ===== -/
def XL (r : Nat) (L : List Nat) (σ : St) : Prop := tg BX r 1 ∧ vH σ 84 = r ∧ vI σ r 6 = nI L.length ∧ ∀ k t, L[k]? = some t → vJ σ (r + 5) k = xe t
def opn : List Nat → Nat
  | [] => 0
  | x :: W => (if x = 33 ∨ x = 40 then 1 else 0) + opn W
def SK (h : Nat → Int32) : List Nat → Prop
  | [] => True
  | x :: W => h W.length = nI x ∧ x < 128 ∧ SK h W
def ML (j a : Nat) (L W : List Nat) (τ : St) : Prop := (j < 6 ∧ a ≤ 100 ∧ L.length + W.length + 6 ≤ a) ∧ vI τ 0 23 = nI (100 * j + L.length) ∧ (vI τ 0 24 = nI W.length ∧ vI τ 0 25 = nI (opn W) ∧ SK (vJ τ 15) W) ∧ ∀ k t, L[k]? = some t → vJ τ 14 (100 * j + k) = me t
def FSt (r : Nat) (σ σ' : St) : Prop := (∀ k f, ¬ (k = r ∧ f = 6) → vI σ' k f = vI σ k f) ∧ (∀ k, k ≠ r + 5 → vJ σ' k = vJ σ k) ∧ (∀ k, vL σ' k = vL σ k) ∧ (∀ k, vH σ' k = vH σ k)
def FE (r : Nat) (σ σ' : St) : Prop := (∀ k f, ¬ (k = 84 ∧ f = 2) → ¬ (k = r ∧ f = 6) → vI σ' k f = vI σ k f) ∧ (∀ k, k ≠ r + 5 → vJ σ' k = vJ σ k) ∧ (∀ k, vL σ' k = vL σ k) ∧ (∀ k, vH σ' k = vH σ k)
theorem FSt.fe {r : Nat} {σ σ' : St} (h : FSt r σ σ') : FE r σ σ' := ⟨fun k f _ q => h.1 k f q, h.2⟩
theorem FE.rf {r : Nat} {σ : St} : FE r σ σ := ⟨fun _ _ _ _ => rfl, fun _ _ => rfl, fun _ => rfl, fun _ => rfl⟩
theorem FE.tr {r : Nat} {a b c : St} (h1 : FE r a b) (h2 : FE r b c) : FE r a c := ⟨fun k f q1 q2 => (h2.1 k f q1 q2).trans (h1.1 k f q1 q2), fun k q => (h2.2.1 k q).trans (h1.2.1 k q), fun k => (h2.2.2.1 k).trans (h1.2.2.1 k), fun k => (h2.2.2.2 k).trans (h1.2.2.2 k)⟩
theorem FE.at {r : Nat} {σ : St} {v : Int32} : FE r σ (sI σ 84 2 v) := ⟨fun k f q1 _ => by
  rw [vI_sI]
  by_cases hk : k = 84
  · rw [if_pos hk, if_neg (fun hf => q1 ⟨hk, hf⟩)]
  · rw [if_neg hk], fun _ _ => rfl, fun _ => rfl, fun _ => rfl⟩
theorem XL.r {r : Nat} {L : List Nat} {σ : St} (h : XL r L σ) : 1 ≤ r ∧ r + 5 < 49 := tg_1' h.1
theorem XL.at {r : Nat} {L : List Nat} {σ : St} {v : Int32} (h : XL r L σ) : XL r L (sI σ 84 2 v) := by
  have := h.r
  obtain ⟨h1, h2, h3, h4⟩ := h
  exact ⟨h1, h2, by rw [vI_sI, if_neg (by omega)]; exact h3, h4⟩
theorem FSt.xt {T : Nat → Nat} {s a r : Nat} {σ σ' : St} (h : FSt r σ σ') (hr : 1 ≤ r ∧ r + 5 < 49) (hx : XT T s a σ) : XT T s a σ' := by
  obtain ⟨h1, h2, h3, h4⟩ := hx
  refine ⟨h1, by rw [h.1 84 1 (by omega)]; exact h2, by rw [h.1 84 2 (by omega)]; exact h3, fun i hi => ?_⟩
  rw [h.2.1 85 (by omega)]; exact h4 i hi
theorem x_step {r : Nat} {L : List Nat} {σ : St} (t : Nat) (h : XL r L σ) (hL : L.length < 100) : ∃ σ', f_R_step r (xe t) σ = some σ' ∧ XL r (L ++ [t]) σ' ∧ FSt r σ σ' := by
  have hr := h.r
  obtain ⟨h1, h2, h3, h4⟩ := h
  unfold f_R_step
  rw [h3, if_neg (by rw [show (100 : Int32) = nI 100 by decide, nIle (by decide) (by omega)]; omega), if_pos (ok_nI hL (by decide)), nx_nI (by omega)]
  simp only [st]
  refine ⟨_, rfl, ⟨h1, h2, ?_, fun k q hk => ?_⟩, fun k f hk => ?_, fun k hk => ?_, fun k => rfl, fun k => rfl⟩
  · rw [vI_sI, if_pos rfl, if_pos rfl, vI_sJ, h3, nI_1, List.length_append]; rfl
  · rw [vJ_sI, vJ_sJ, if_pos rfl]
    by_cases e : k = L.length
    · subst e
      rw [List.getElem?_append_right (Nat.le_refl _), Nat.sub_self] at hk
      simp at hk
      rw [upd_s, hk]
    · rw [upd_n e]
      by_cases e2 : k < L.length
      · rw [List.getElem?_append_left e2] at hk; exact h4 k q hk
      · rw [List.getElem?_eq_none (by simp; omega)] at hk; cases hk
  · rw [vI_sI, vI_sJ]
    by_cases e : k = r
    · rw [if_pos e, if_neg (fun e2 => hk ⟨e, e2⟩), e]
      rfl
    · rw [if_neg e, vI_sJ]
  · rw [vJ_sI, vJ_sJ, if_neg hk]
/-- the reference, but for the position -/
def G0 (j : Nat) (τ τ' : St) : Prop := (∀ f, f ≠ 23 → f ≠ 24 → f ≠ 25 → vI τ' 0 f = vI τ 0 f) ∧ (∀ k, k ≠ 14 → k ≠ 15 → vJ τ' k = vJ τ k) ∧ (∀ i, i < 100 * j → vJ τ' 14 i = vJ τ 14 i) ∧ (∀ k, vL τ' k = vL τ k)
def GM (j x : Nat) (τ τ' : St) : Prop := (∀ f, f ≠ 13 → f ≠ 14 → f ≠ 23 → f ≠ 24 → f ≠ 25 → vI τ' 0 f = vI τ 0 f) ∧ (∀ k, k ≠ 13 → k ≠ 14 → k ≠ 15 → vJ τ' k = vJ τ k) ∧ (∀ i, i ≠ x → vJ τ' 13 i = vJ τ 13 i) ∧ (∀ i, i < 100 * j → vJ τ' 14 i = vJ τ 14 i) ∧ (∀ k, vL τ' k = vL τ k)
theorem G0.rf {j : Nat} {τ : St} : G0 j τ τ := ⟨fun _ _ _ _ => rfl, fun _ _ _ => rfl, fun _ _ => rfl, fun _ => rfl⟩
theorem G0.tr {j : Nat} {a b c : St} (h1 : G0 j a b) (h2 : G0 j b c) : G0 j a c := ⟨fun f q1 q2 q3 => (h2.1 f q1 q2 q3).trans (h1.1 f q1 q2 q3), fun k q1 q2 => (h2.2.1 k q1 q2).trans (h1.2.1 k q1 q2), fun i q => (h2.2.2.1 i q).trans (h1.2.2.1 i q), fun k => (h2.2.2.2 k).trans (h1.2.2.2 k)⟩
theorem GM.rf {j x : Nat} {τ : St} : GM j x τ τ := ⟨fun _ _ _ _ _ _ => rfl, fun _ _ _ _ => rfl, fun _ _ => rfl, fun _ _ => rfl, fun _ => rfl⟩
theorem GM.tr {j x : Nat} {a b c : St} (h1 : GM j x a b) (h2 : GM j x b c) : GM j x a c := ⟨fun f q1 q2 q3 q4 q5 => (h2.1 f q1 q2 q3 q4 q5).trans (h1.1 f q1 q2 q3 q4 q5), fun k q1 q2 q3 => (h2.2.1 k q1 q2 q3).trans (h1.2.1 k q1 q2 q3), fun i q => (h2.2.2.1 i q).trans (h1.2.2.1 i q), fun i q => (h2.2.2.2.1 i q).trans (h1.2.2.2.1 i q), fun k => (h2.2.2.2.2 k).trans (h1.2.2.2.2 k)⟩
theorem G0.gm {j x : Nat} {τ τ' : St} (h : G0 j τ τ') : GM j x τ τ' := ⟨fun f _ _ q3 q4 q5 => h.1 f q3 q4 q5, fun k _ q2 q3 => h.2.1 k q2 q3, fun i _ => by rw [h.2.1 13 (by decide) (by decide)], h.2.2.1, h.2.2.2⟩
theorem GM.at {j x : Nat} {τ : St} {v : Int32} : GM j x τ (sI τ 0 13 v) := ⟨fun f q1 _ _ _ _ => by rw [vI_sI, if_pos rfl, if_neg q1], fun _ _ _ _ => rfl, fun _ _ => rfl, fun _ _ => rfl, fun _ => rfl⟩
theorem GM.nr {j x : Nat} {τ : St} {v : Int32} : GM j x τ (sI τ 0 14 v) := ⟨fun f _ q1 _ _ _ => by rw [vI_sI, if_pos rfl, if_neg q1], fun _ _ _ _ => rfl, fun _ _ => rfl, fun _ _ => rfl, fun _ => rfl⟩
theorem G0.mt {j s a : Nat} {T : Nat → Nat} {τ τ' : St} (h : G0 j τ τ') (hm : MT T s a τ) : MT T s a τ' := by
  obtain ⟨h1, h2, h3, h4⟩ := hm
  refine ⟨h1, by rw [h.1 12 (by decide) (by decide) (by decide)]; exact h2, by rw [h.1 13 (by decide) (by decide) (by decide)]; exact h3, fun i hi => ?_⟩
  rw [h.2.1 8 (by decide) (by decide)]; exact h4 i hi
theorem ML.at {j a a' : Nat} {L W : List Nat} {τ : St} {v : Int32} (h : ML j a L W τ) (h1 : a ≤ a') (h2 : a' ≤ 100) : ML j a' L W (sI τ 0 13 v) := by
  obtain ⟨⟨m1, m2, m3⟩, m4, m5, m6⟩ := h
  exact ⟨⟨m1, h2, by omega⟩, m4, m5, m6⟩
theorem ML.nr {j a : Nat} {L W : List Nat} {τ : St} {v : Int32} (h : ML j a L W τ) : ML j a L W (sI τ 0 14 v) := h
theorem SK_n {h h' : Nat → Int32} : ∀ {W : List Nat}, (∀ k, k < W.length → h' k = h k) → SK h W → SK h' W := by
  intro W
  induction W with
  | nil => intro _ _; trivial
  | cons x W ih =>
    intro hk q
    exact ⟨by rw [hk _ (by simp)]; exact q.1, q.2.1, ih (fun k hk2 => hk k (by simp; omega)) q.2.2⟩
theorem m_emits {j n : Nat} {τ : St} {v : Int32} (h : vI τ 0 23 = nI n) (hn : n < 600) : f_M_emits 0 v τ = some (sI (sJ τ 14 (upd (vJ τ 14) n v)) 0 23 (nI (n + 1))) := by
  unfold f_M_emits
  rw [h, if_pos (ok_nI hn (by decide)), nx_nI (by omega)]
  simp only [st, vI_sJ, h, nI_1]
/-- a token more -/
theorem me_app {j : Nat} {L : List Nat} {h : Nat → Int32} {t : Nat} (hL : ∀ k q, L[k]? = some q → h (100 * j + k) = me q) : ∀ k q, (L ++ [t])[k]? = some q → upd h (100 * j + L.length) (me t) (100 * j + k) = me q := by
  intro k q hk
  by_cases e : k = L.length
  · subst e
    rw [List.getElem?_append_right (Nat.le_refl _), Nat.sub_self] at hk
    simp at hk
    rw [upd_s, hk]
  · rw [upd_n (by omega)]
    by_cases e2 : k < L.length
    · rw [List.getElem?_append_left e2] at hk; exact hL k q hk
    · rw [List.getElem?_eq_none (by simp; omega)] at hk; cases hk
/-- a test's token -/
theorem ML.test {j a a' : Nat} {L W : List Nat} {τ : St} {t : Nat} {n : Int32} (h : ML j a L W τ) (h1 : a + 3 ≤ a') (h2 : a' ≤ 100) : ∃ τ', f_M_emits 0 (me t) (sI (sI τ 0 14 n) 0 13 (nI a')) = some τ' ∧ ML j a' (L ++ [t]) W τ' ∧ G0 j (sI (sI τ 0 14 n) 0 13 (nI a')) τ' := by
  obtain ⟨⟨m1, m2, m3⟩, m4, ⟨m5, m6, m7⟩, m8⟩ := h
  have e : vI (sI (sI τ 0 14 n) 0 13 (nI a')) 0 23 = nI (100 * j + L.length) := m4
  refine ⟨_, m_emits (j := j) e (by omega), ⟨⟨m1, h2, by simp; omega⟩, ?_, ⟨m5, m6, m7⟩, me_app m8⟩, fun f q1 q2 q3 => ?_, fun k q1 q2 => ?_, fun i hi => ?_, fun k => rfl⟩
  · show nI (100 * j + L.length + 1) = _
    congr 1; simp; omega
  · rw [vI_sI, if_pos rfl, if_neg q1, vI_sJ]
  · rw [vJ_sI, vJ_sJ, if_neg q1]
  · show upd (vJ τ 14) (100 * j + L.length) (me t) i = vJ τ 14 i
    rw [upd_n (by omega)]
/-- one that waits becomes a token -/
theorem ML.pop {j a : Nat} {L W : List Nat} {τ : St} {t w : Nat} {e : Int32} (h : ML j a L (w :: W) τ) (he : e = nI (opn W)) : ∃ τ', τ' = sI (sI (sI (sJ τ 14 (upd (vJ τ 14) (100 * j + L.length) (me t))) 0 23 (nI (100 * j + L.length + 1))) 0 24 (nI W.length)) 0 25 e ∧ ML j a (L ++ [t]) W τ' ∧ G0 j τ τ' := by
  obtain ⟨⟨m1, m2, m3⟩, m4, ⟨m5, m6, m7⟩, m8⟩ := h
  simp only [List.length_cons] at m3
  refine ⟨_, rfl, ⟨⟨m1, m2, by simp; omega⟩, ?_, ⟨rfl, he, m7.2.2⟩, me_app m8⟩, fun f q1 q2 q3 => ?_, fun k q1 q2 => ?_, fun i hi => ?_, fun k => rfl⟩
  · show nI (100 * j + L.length + 1) = _
    congr 1; simp; omega
  · rw [vI_sI, if_pos rfl, if_neg q3, vI_sI, if_pos rfl, if_neg q2, vI_sI, if_pos rfl, if_neg q1, vI_sJ]
  · simp only [vJ_sI, vJ_sJ]; rw [if_neg q1]
  · show upd (vJ τ 14) (100 * j + L.length) (me t) i = vJ τ 14 i
    rw [upd_n (by omega)]
theorem st4 {τ : St} {h : Nat → Int32} {u v : Int32} : sI (sJ (sI τ 0 24 u) 14 h) 0 23 v = sI (sI (sI (sJ τ 14 h) 0 23 v) 0 24 u) 0 25 (vI τ 0 25) := by
  have e : sI (sJ (sI τ 0 24 u) 14 h) 0 23 v = sI (sI (sJ τ 14 h) 0 23 v) 0 24 u := by
    show sI (sI (sJ τ 14 h) 0 24 u) 0 23 v = _
    rw [sI_cm _ 0 24 23 _ _ (by decide)]
  rw [e]
  have e2 : vI (sI (sI (sJ τ 14 h) 0 23 v) 0 24 u) 0 25 = vI τ 0 25 := rfl
  rw [← e2, sI_self]
def nb : List Nat → Nat
  | [] => 0
  | x :: W => if x = 33 then nb W + 1 else 0
def strip : List Nat → List Nat
  | [] => []
  | x :: W => if x = 33 then strip W else x :: W
theorem m_whole_l {j a : Nat} : ∀ (W L : List Nat) (n : Nat) (τ : St), ML j a L W τ → W.length < n → ∃ τ', f_M_whole_l0 n 0 τ = some τ' ∧ ML j a (L ++ List.replicate (nb W) 0) (strip W) τ' ∧ G0 j τ τ' := by
  intro W
  induction W with
  | nil =>
    intro L n τ h hn
    obtain ⟨n, rfl⟩ : ∃ z, n = z + 1 := ⟨n - 1, by simp at hn; omega⟩
    refine ⟨τ, ?_, by simpa [nb, strip] using h, G0.rf⟩
    rw [f_M_whole_l0, h.2.2.1.1, if_pos (by decide)]
  | cons w W ih =>
    intro L n τ h hn
    obtain ⟨n, rfl⟩ : ∃ z, n = z + 1 := ⟨n - 1, by simp at hn; omega⟩
    have h' := h
    obtain ⟨⟨m1, m2, m3⟩, m4, ⟨m5, m6, m7⟩, m8⟩ := h'
    simp only [List.length_cons] at m3 m5 hn
    have e1 : nI (W.length + 1) - 1 = nI W.length := nI_pred _
    rw [f_M_whole_l0, m5, if_neg (by rw [← nI_0, nIle (by omega) (by decide)]; omega), e1, if_pos (ok_nI (by omega) (by decide)), nx_nI (by omega), m7.1]
    by_cases hw : w = 33
    · subst hw
      rw [if_pos (by decide), m_emits (j := j) m4 (by omega), Option.bind_some]
      obtain ⟨τ1, e2, h1, g1⟩ := h.pop (t := 0) rfl
      have e3 : nI (opn (33 :: W)) - 1 = nI (opn W) := by
        rw [show opn (33 :: W) = opn W + 1 by simp [opn]; omega]; exact nI_pred _
      have e4 : (st (sI (sI (sJ τ 14 (upd (vJ τ 14) (100 * j + L.length) (-33))) 0 23 (nI (100 * j + L.length + 1))) 0 24 (vI (sI (sJ τ 14 (upd (vJ τ 14) (100 * j + L.length) (-33))) 0 23 (nI (100 * j + L.length + 1))) 0 24 - 1)) fun s8 => (st (sI s8 0 25 ((vI s8 0 25) - 1)) fun s10 => (f_M_whole_l0 n 0 s10))) = f_M_whole_l0 n 0 τ1 := by
        have a1 : vI (sI (sJ τ 14 (upd (vJ τ 14) (100 * j + L.length) (-33))) 0 23 (nI (100 * j + L.length + 1))) 0 24 - 1 = nI W.length := by
          rw [show vI (sI (sJ τ 14 (upd (vJ τ 14) (100 * j + L.length) (-33))) 0 23 (nI (100 * j + L.length + 1))) 0 24 = vI τ 0 24 from rfl, m5]; exact e1
        rw [a1]
        show f_M_whole_l0 n 0 (sI (sI (sI (sJ τ 14 (upd (vJ τ 14) (100 * j + L.length) (-33))) 0 23 (nI (100 * j + L.length + 1))) 0 24 (nI W.length)) 0 25 (vI τ 0 25 - 1)) = _
        rw [m6, e3, e2]
        rfl
      rw [e4]
      obtain ⟨τ2, e5, h2, g2⟩ := ih (L ++ [0]) n τ1 h1 (by omega)
      refine ⟨τ2, e5, ?_, g1.tr g2⟩
      have n1 : nb (33 :: W) = nb W + 1 := by simp [nb]
      have n2 : strip (33 :: W) = strip W := by simp [strip]
      rw [n1, n2, List.replicate_succ]
      simpa [List.append_assoc] using h2
    · rw [if_neg (by rw [show (33 : Int32) = nI 33 by decide, nIeq (by have := m7.2.1; omega) (by decide)]; exact hw)]
      refine ⟨τ, rfl, ?_, G0.rf⟩
      have n1 : nb (w :: W) = 0 := by simp [nb, hw]
      have n2 : strip (w :: W) = w :: W := by simp [strip, hw]
      rw [n1, n2, List.replicate_zero, List.append_nil]
      exact h
theorem m_whole {j a : Nat} {L W : List Nat} {τ : St} (h : ML j a L W τ) : ∃ τ', f_M_whole 0 τ = some τ' ∧ ML j a (L ++ List.replicate (nb W) 0) (strip W) τ' ∧ G0 j τ τ' := by
  obtain ⟨τ', e, h1, h2⟩ := m_whole_l W L FU τ h (by have := h.1; unfold FU; omega)
  refine ⟨τ', ?_, h1, h2⟩
  unfold f_M_whole
  rw [e]; rfl
def wt (x : Nat) : Nat := if x = 38 then 1 else 2
theorem m_settle_l {j a : Nat} {y : Int32} {B : List Nat} (hB : B = [] ∨ (∃ B', B = 40 :: B') ∨ ((∃ B', B = 124 :: B') ∧ y = 38)) : ∀ (U L : List Nat) (n : Nat) (τ : St), (∀ u, u ∈ U → u = 38 ∨ (u = 124 ∧ y ≠ 38)) → ML j a L (U ++ B) τ → U.length < n → ∃ τ', f_M_settle_l0 n 0 y τ = some τ' ∧ ML j a (L ++ U.map wt) B τ' ∧ G0 j τ τ' := by
  intro U
  induction U with
  | nil =>
    intro L n τ hU h hn
    obtain ⟨n, rfl⟩ : ∃ z, n = z + 1 := ⟨n - 1, by simp at hn; omega⟩
    simp only [List.nil_append] at h
    refine ⟨τ, ?_, by simpa using h, G0.rf⟩
    have h' := h
    obtain ⟨⟨m1, m2, m3⟩, m4, ⟨m5, m6, m7⟩, m8⟩ := h'
    rcases hB with rfl | ⟨B', rfl⟩ | ⟨⟨B', rfl⟩, hy⟩
    · rw [f_M_settle_l0, m5, if_pos (by decide)]
    · simp only [List.length_cons] at m3 m5
      have e1 : nI (B'.length + 1) - 1 = nI B'.length := nI_pred _
      rw [f_M_settle_l0, m5, if_neg (by rw [← nI_0, nIle (by omega) (by decide)]; omega), e1, if_pos (ok_nI (by omega) (by decide)), nx_nI (by omega), m7.1, if_neg (by decide), if_pos (ok_nI (by omega) (by decide)), if_neg (by decide)]
    · simp only [List.length_cons] at m3 m5
      have e1 : nI (B'.length + 1) - 1 = nI B'.length := nI_pred _
      rw [f_M_settle_l0, m5, if_neg (by rw [← nI_0, nIle (by omega) (by decide)]; omega), e1, if_pos (ok_nI (by omega) (by decide)), nx_nI (by omega), m7.1, if_neg (by decide), if_pos (ok_nI (by omega) (by decide)), if_pos (by decide), if_pos hy]
  | cons u U ih =>
    intro L n τ hU h hn
    obtain ⟨n, rfl⟩ : ∃ z, n = z + 1 := ⟨n - 1, by simp at hn; omega⟩
    simp only [List.cons_append] at h
    have hu := hU u List.mem_cons_self
    obtain ⟨W, hW⟩ : ∃ W, W = U ++ B := ⟨_, rfl⟩
    rw [← hW] at h
    have h' := h
    obtain ⟨⟨m1, m2, m3⟩, m4, ⟨m5, m6, m7⟩, m8⟩ := h'
    simp only [List.length_cons] at m3 m5 hn
    have e1 : nI (W.length + 1) - 1 = nI W.length := nI_pred _
    have ho : opn (u :: W) = opn W := by
      rcases hu with rfl | ⟨rfl, -⟩ <;> simp [opn]
    have hv : -(nI u) = me (wt u) := by
      rcases hu with rfl | ⟨rfl, -⟩ <;> decide
    obtain ⟨τ1, e2, h1, g1⟩ := h.pop (t := wt u) (e := vI τ 0 25) (by rw [m6, ho])
    have e4 : (st (sI τ 0 24 (nI W.length)) fun s6 => (if ok (vI s6 0 24) 101 = true then ((f_M_emits 0 (-(vJ s6 15 (nx (vI s6 0 24)))) s6).bind fun q8 => (f_M_settle_l0 n 0 y q8)) else none)) = f_M_settle_l0 n 0 y τ1 := by
      simp only [st]
      have a1 : vI (sI τ 0 24 (nI W.length)) 0 24 = nI W.length := rfl
      have a2 : vJ (sI τ 0 24 (nI W.length)) 15 W.length = nI u := m7.1
      rw [a1, if_pos (ok_nI (by omega) (by decide)), nx_nI (by omega), a2, hv, m_emits (τ := sI τ 0 24 (nI W.length)) (j := j) m4 (by omega), Option.bind_some, st4, e2]
      rfl
    obtain ⟨τ2, e5, h2, g2⟩ := ih (L ++ [wt u]) n τ1 (fun q hq => hU q (List.mem_cons_of_mem _ hq)) (by rw [← hW]; exact h1) (by omega)
    refine ⟨τ2, ?_, by simpa [List.append_assoc] using h2, g1.tr g2⟩
    rw [f_M_settle_l0, m5, if_neg (by rw [← nI_0, nIle (by omega) (by decide)]; omega), e1, if_pos (ok_nI (by omega) (by decide)), nx_nI (by omega), m7.1]
    rcases hu with rfl | ⟨rfl, hy⟩
    · rw [if_pos (by decide), e4, e5]
    · rw [if_neg (by decide), if_pos (ok_nI (by omega) (by decide)), if_pos (by decide), if_neg hy, e4, e5]
theorem m_settle {j a : Nat} {y : Int32} {L U B : List Nat} {τ : St} (hB : B = [] ∨ (∃ B', B = 40 :: B') ∨ ((∃ B', B = 124 :: B') ∧ y = 38)) (hU : ∀ u, u ∈ U → u = 38 ∨ (u = 124 ∧ y ≠ 38)) (h : ML j a L (U ++ B) τ) : ∃ τ', f_M_settle 0 y τ = some τ' ∧ ML j a (L ++ U.map wt) B τ' ∧ G0 j τ τ' := by
  obtain ⟨τ', e, h1, h2⟩ := m_settle_l hB U L FU τ hU h (by have := h.1; simp at this; unfold FU; omega)
  refine ⟨τ', ?_, h1, h2⟩
  unfold f_M_settle
  rw [e]; rfl
def psh (τ : St) (n a v : Nat) : St := sI (sI (sJ τ 15 (upd (vJ τ 15) n (nI v))) 0 24 (nI (n + 1))) 0 13 (nI (a + 1))
theorem psh_eq {α : Type} {τ : St} {n a v : Nat} (h24 : vI τ 0 24 = nI n) (h13 : vI τ 0 13 = nI a) (hn : n ≤ 100) (G : St → Option α) : (if ok (vI τ 0 24) 101 = true then (st (sJ τ 15 (upd (vJ τ 15) (nx (vI τ 0 24)) (nI v))) fun s15 => (st (sI s15 0 24 ((vI s15 0 24) + 1)) fun s17 => (st (sI s17 0 13 ((vI s17 0 13) + 1)) fun s19 => G s19))) else none) = G (psh τ n a v) := by
  simp only [st, vI_sJ, h24]
  rw [if_pos (ok_nI (by omega) (by decide)), nx_nI (by omega), nI_1]
  have e : vI (sI (sJ τ 15 (upd (vJ τ 15) n (nI v))) 0 24 (nI (n + 1))) 0 13 = nI a := h13
  rw [e, nI_1]
  rfl
theorem psh_mt {T : Nat → Nat} {s a n v : Nat} {τ : St} (h : MT T s a τ) (ha : a < s) : MT T s (a + 1) (psh τ n a v) := ⟨⟨h.1.1, ha⟩, h.2.1, rfl, h.2.2.2⟩
theorem psh_ml {j a v : Nat} {L W : List Nat} {τ : St} (h : ML j a L W τ) (hv : v < 128) (ho : opn (v :: W) = opn W) (ha : a < 100) : ML j (a + 1) L (v :: W) (psh τ W.length a v) := by
  obtain ⟨⟨m1, m2, m3⟩, m4, ⟨m5, m6, m7⟩, m8⟩ := h
  refine ⟨⟨m1, ha, by simp; omega⟩, m4, ⟨rfl, by rw [ho]; exact m6, ?_⟩, m8⟩
  show upd (vJ τ 15) W.length (nI v) W.length = nI v ∧ v < 128 ∧ SK (upd (vJ τ 15) W.length (nI v)) W
  exact ⟨upd_s, hv, SK_n (fun k hk => upd_n (by omega)) m7⟩
theorem psh_ml1 {j a v : Nat} {L W : List Nat} {τ : St} (h : ML j a L W τ) (hv : v < 128) (ho : opn (v :: W) = opn W + 1) (ha : a < 100) : ML j (a + 1) L (v :: W) (psh (sI τ 0 25 (nI (opn W + 1))) W.length a v) := by
  obtain ⟨⟨m1, m2, m3⟩, m4, ⟨m5, m6, m7⟩, m8⟩ := h
  refine ⟨⟨m1, ha, by simp; omega⟩, m4, ⟨rfl, by rw [ho]; rfl, ?_⟩, m8⟩
  show upd (vJ τ 15) W.length (nI v) W.length = nI v ∧ v < 128 ∧ SK (upd (vJ τ 15) W.length (nI v)) W
  exact ⟨upd_s, hv, SK_n (fun k hk => upd_n (by omega)) m7⟩
theorem psh_gm {j x n a v : Nat} {τ : St} : GM j x τ (psh τ n a v) := ⟨fun f q1 q2 q3 q4 q5 => by
  unfold psh
  rw [vI_sI, if_pos rfl, if_neg q1, vI_sI, if_pos rfl, if_neg q4, vI_sJ], fun k q1 q2 q3 => by
  unfold psh
  simp only [vJ_sI, vJ_sJ]; rw [if_neg q3], fun _ _ => rfl, fun _ _ => rfl, fun _ => rfl⟩
theorem psh_gm1 {j x n a v : Nat} {τ : St} {w : Int32} : GM j x τ (psh (sI τ 0 25 w) n a v) := GM.tr (show GM j x τ (sI τ 0 25 w) from ⟨fun f q1 q2 q3 q4 q5 => by rw [vI_sI, if_pos rfl, if_neg q5], fun _ _ _ _ => rfl, fun _ _ => rfl, fun _ _ => rfl, fun _ => rfl⟩) psh_gm
theorem dep_app {A : List Nat} : ∀ {B : List Nat} {d : Nat}, dep (A ++ B) d = (dep A d).bind (dep B) := by
  induction A with
  | nil => intro B d; rfl
  | cons t A ih =>
    intro B d
    rw [List.cons_append]
    simp only [dep]
    cases dep1 t d with
    | none => rfl
    | some e => rw [Option.bind_some, Option.bind_some, ih]
