/-! ===== PURE: calls: rule ===== -/
theorem BD.j9 {T : Nat → Nat} {s r j a : Nat} {L : List Nat} {CL : List Cl} {σ τ : St} {q : Nat → Int32} (h : BD T s r j a L CL σ τ) : BD T s r j a L CL σ (sJ τ 9 q) := by
  obtain ⟨hX, hXL, hM, hj, h23, h0, hC, hR8⟩ := h
  exact ⟨hX, hXL, hM, hj, h23, h0, hC, hR8⟩
theorem BD.at {T : Nat → Nat} {s r j a a' : Nat} {L : List Nat} {CL : List Cl} {σ τ : St} (h : BD T s r j a L CL σ τ) (h1 : a ≤ a') (h2 : a' ≤ s) : BD T s r j a' L CL (sI σ 84 2 (nI a')) (sI τ 0 13 (nI a')) := by
  obtain ⟨hX, hXL, hM, hj, h23, ⟨h0, h7, h8⟩, hC, hR8⟩ := h
  have hr := hXL.r
  have e : ∀ f, vI (sI σ 84 2 (nI a')) r f = vI σ r f := fun f => by rw [vI_sI, if_neg (by omega)]
  exact ⟨hX.to h2, hXL.at, hM.to h2, ⟨hj.1, by omega⟩, h23, ⟨(e 0).trans h0, (e 7).trans h7, (e 8).trans h8⟩, hC, hR8⟩
theorem texts {T : Nat → Nat} {s r j : Nat} : ∀ (k n n' a : Nat) (L : List Nat) (CL : List Cl) (σ τ : St), CL.length + k = 10 → 0 < k → k < n → k < n' → BD T s r j a L CL σ τ →
    (∃ σ' τ' L' CL', f_E_understands_l19 n 84 (nI (CL.length + 1)) σ = some (Sum.inr (true, σ')) ∧ f_M_goesText_l15 n' 0 (nI j) (nI CL.length) τ = some (Sum.inr (true, τ')) ∧ BD T s r j s L' CL' σ' τ' ∧ CL'.length ≤ 10 ∧ vJ τ' 9 j = nI CL'.length ∧ FR r σ σ' ∧ HM j τ τ') ∨
    (∃ σ' τ' a', f_E_understands_l19 n 84 (nI (CL.length + 1)) σ = some (Sum.inr (false, σ')) ∧ (f_M_goesText_l15 n' 0 (nI j) (nI CL.length) τ = some (Sum.inr (false, τ')) ∨ f_M_goesText_l15 n' 0 (nI j) (nI CL.length) τ = some (Sum.inl τ')) ∧ XT T s a' σ' ∧ MT T s a' τ' ∧ FR r σ σ' ∧ HM j τ τ') := by
  intro k
  induction k with
  | zero => intro n n' a L CL σ τ _ h0; exact absurd h0 (by decide)
  | succ k ih =>
    intro n n' a L CL σ τ hk _ hn hn' h
    obtain ⟨n, rfl⟩ : ∃ z, n = z + 1 := ⟨n - 1, by omega⟩
    obtain ⟨n', rfl⟩ : ∃ z, n' = z + 1 := ⟨n' - 1, by omega⟩
    have hj : j < 6 := h.2.2.2.1.1
    rw [f_E_understands_l19, f_M_goesText_l15, if_neg (show ¬ (10 : Int32) < nI (CL.length + 1) by rw [show (10 : Int32) = nI 10 by decide, nIlt (by decide) (by omega)]; omega), show 10 * nI j + nI CL.length = nI (10 * j + CL.length) by rw [show (10 : Int32) = nI 10 by decide, pk_mul, nI_add]]
    rcases clause2 h (by omega) with ⟨σ1, τ1, a1, L1, c, e1, e2, l1, B1, g1, g2⟩ | ⟨σ1, τ1, a1, e1, e2, x1, x2, g1, g2⟩
    · rw [e1, e2, Option.bind_some, Option.bind_some, if_neg n_tf, if_neg n_tf, if_pos (ok_nI hj (by decide)), nx_nI (by omega), show nI CL.length + 1 = nI (CL.length + 1) from nI_1 _]
      simp only [st]
      have B2 : BD T s r j a1 L1 (CL ++ [c]) σ1 (sJ τ1 9 (upd (vJ τ1 9) j (nI (CL.length + 1)))) := B1.j9
      have g3 : HM j τ (sJ τ1 9 (upd (vJ τ1 9) j (nI (CL.length + 1)))) := g2.tr ⟨fun _ _ _ _ _ _ => rfl, fun k q => by rw [vJ_sJ, if_neg (by omega)], fun i hi => upd_n (by omega), fun k q1 q2 i _ => by rw [vJ_sJ, if_neg (by omega)], fun _ _ => rfl, fun _ => rfl⟩
      have t9 : vJ (sJ τ1 9 (upd (vJ τ1 9) j (nI (CL.length + 1)))) 9 j = nI (CL ++ [c]).length := by
        rw [List.length_append]; exact upd_s
      obtain ⟨hX, -, hM, -⟩ := id B2
      generalize sJ τ1 9 (upd (vJ τ1 9) j (nI (CL.length + 1))) = τ2 at *
      have hs := hX.1
      rw [hX.2.2.1, hX.2.1, hM.2.2.1, hM.2.1]
      by_cases ca : a1 = s
      · subst ca
        rw [if_pos rfl, if_pos rfl]
        exact Or.inl ⟨σ1, τ2, L1, CL ++ [c], rfl, rfl, B2, by simp; omega, t9, g1, g3⟩
      have ca' : ¬ nI a1 = nI s := by rw [nIeq (by omega) (by omega)]; exact ca
      have c10 : (nI (CL.length + 1) = 10) = (CL.length + 1 = 10) := by rw [show (10 : Int32) = nI 10 by decide]; exact nIeq (by omega) (by decide)
      rw [if_neg ca', if_neg ca']
      by_cases c1 : CL.length + 1 = 10
      · rw [if_pos (by rw [c10]; exact c1), if_pos (by rw [c10]; exact c1)]
        exact Or.inr ⟨σ1, τ2, a1, rfl, Or.inr rfl, hX, hM, g1, g3⟩
      rw [if_neg (show ¬ nI (CL.length + 1) = 10 by rw [c10]; exact c1), if_neg (show ¬ nI (CL.length + 1) = 10 by rw [c10]; exact c1), x_skips hX, m_reads hM]
      by_cases c59 : sg T s a1 = 59
      · have has := sg_lt c59 (by decide)
        rw [if_pos c59, if_pos c59, Option.bind_some, Option.bind_some, if_neg n_tf, if_neg n_tf, nI_1]
        have gm : HM j τ2 (sI τ2 0 13 (nI (a1 + 1))) := ⟨fun f q1 _ _ _ _ => by rw [vI_sI, if_pos rfl, if_neg q1], fun _ _ => rfl, fun _ _ => rfl, fun _ _ _ _ _ => rfl, fun _ _ => rfl, fun _ => rfl⟩
        have B3 := B2.at (a' := a1 + 1) (by omega) has
        have el : (CL ++ [c]).length = CL.length + 1 := by simp
        have := ih n n' (a1 + 1) L1 (CL ++ [c]) _ _ (by rw [el]; omega) (by omega) (by omega) (by omega) B3
        rw [el] at this
        rcases this with ⟨σ4, τ4, L4, CL4, w1, w2, w3, w4, w5, w6, w7⟩ | ⟨σ4, τ4, a4, w1, w2, w3, w4, w5, w6⟩
        · exact Or.inl ⟨σ4, τ4, L4, CL4, w1, w2, w3, w4, w5, (g1.tr FE.at.fr).tr w6, (g3.tr gm).tr w7⟩
        · exact Or.inr ⟨σ4, τ4, a4, w1, w2, w3, w4, (g1.tr FE.at.fr).tr w5, (g3.tr gm).tr w6⟩
      · rw [if_neg c59, if_neg c59, Option.bind_some, Option.bind_some, if_pos rfl, if_pos rfl]
        exact Or.inr ⟨σ1, τ2, a1, rfl, Or.inr rfl, hX, hM, g1, g3⟩
    · rw [e1, e2, Option.bind_some, Option.bind_some, if_pos rfl, if_pos rfl]
      exact Or.inr ⟨σ1, τ1, a1, rfl, Or.inl rfl, x1, x2, g1, g2⟩
def clT (r : Nat) (σ : St) : St := sI (sI (sI (sI (sH (sI σ 84 2 0) 84 r) r 0 0) r 6 0) r 7 5) r 8 200
/-- the whole text, as the j-th rule -/
theorem und2 {T : Nat → Nat} {s j : Nat} {σ τ : St} (hj : j < 6) (hs : s ≤ 100) (x1 : vI σ 84 1 = nI s) (m1 : vI τ 0 12 = nI s) (hT : ∀ i, i < s → T i < 128 ∧ vJ σ 85 i = nI (T i) ∧ vJ τ 8 i = nI (T i)) (hR8 : R8 τ) :
    (∃ σ' τ' L' CL', f_E_understands 84 (7 + 6 * j) σ = some (true, σ') ∧ f_M_goesText 0 (nI j) τ = some (true, τ') ∧ BD T s (7 + 6 * j) j s L' CL' σ' τ' ∧ CL'.length ≤ 10 ∧ vJ τ' 9 j = nI CL'.length ∧ FR (7 + 6 * j) (clT (7 + 6 * j) σ) σ' ∧ HM j τ τ') ∨
    (∃ σ' τ' a', f_E_understands 84 (7 + 6 * j) σ = some (false, σ') ∧ f_M_goesText 0 (nI j) τ = some (false, τ') ∧ XT T s a' σ' ∧ MT T s a' τ' ∧ FR (7 + 6 * j) (clT (7 + 6 * j) σ) σ' ∧ HM j τ τ') := by
  have htg : tg BX (7 + 6 * j) 1 := by
    have : ∀ j, j < 6 → (7 + 6 * j < 104 ∧ tagsX.getD (7 + 6 * j) 50 = 1) := by decide
    exact this j hj
  obtain ⟨r, hr⟩ : ∃ r, r = 7 + 6 * j := ⟨_, rfl⟩
  rw [← hr] at htg ⊢
  have eX : f_E_understands 84 r σ = ((f_E_understands_l19 FU 84 1 (clT r σ)).bind fun x_18 => Sum.elim (fun y20 => some (false, y20)) (fun z => some z) x_18) := by
    unfold f_E_understands
    simp only [st]
    have e1 : vH (sH (sI σ 84 2 0) 84 r) 84 = r := rfl
    rw [e1, if_pos (tgb_of htg)]
    rfl
  have eM : f_M_goesText 0 (nI j) τ = ((f_M_goesText_l15 FU 0 (nI j) 0 (sI (sI τ 0 13 0) 0 23 (nI (100 * j)))).bind fun x_17 => Sum.elim (fun y19 => some (false, y19)) (fun z => some z) x_17) := by
    unfold f_M_goesText
    simp only [st]
    rw [show (100 : Int32) * nI j = nI (100 * j) by rw [show (100 : Int32) = nI 100 by decide, pk_mul]]
  have B : BD T s r j 0 [] [] (clT r σ) (sI (sI τ 0 13 0) 0 23 (nI (100 * j))) := by
    have q84 : ∀ f, f ≠ 2 → vI (clT r σ) 84 f = vI σ 84 f := fun f hf => by
      unfold clT
      rw [vI_sI, if_neg (by omega), vI_sI, if_neg (by omega), vI_sI, if_neg (by omega), vI_sI, if_neg (by omega)]
      show vI (sI σ 84 2 0) 84 f = _
      rw [vI_sI, if_pos rfl, if_neg hf]
    have q842 : vI (clT r σ) 84 2 = 0 := by
      unfold clT
      rw [vI_sI, if_neg (by omega), vI_sI, if_neg (by omega), vI_sI, if_neg (by omega), vI_sI, if_neg (by omega)]
      rfl
    have z : (0 : Int32) = nI 0 := by decide
    refine ⟨⟨⟨hs, Nat.zero_le _⟩, by rw [q84 1 (by decide)]; exact x1, by rw [q842, z], fun i hi => ⟨(hT i hi).1, (hT i hi).2.1⟩⟩, ⟨htg, rfl, ?_, fun k t hk => by simp at hk⟩, ⟨⟨hs, Nat.zero_le _⟩, m1, rfl, fun i hi => ⟨(hT i hi).1, (hT i hi).2.2⟩⟩, ⟨hj, Nat.le_refl _⟩, ⟨rfl, fun k t hk => by simp at hk⟩, ⟨?_, ?_, ?_⟩, fun i c hc => by simp at hc, hR8⟩
    · unfold clT
      rw [vI_sI, if_pos rfl, if_neg (by decide), vI_sI, if_pos rfl, if_neg (by decide), vI_sI, if_pos rfl, if_pos rfl]; exact z
    · unfold clT
      rw [vI_sI, if_pos rfl, if_neg (by decide), vI_sI, if_pos rfl, if_neg (by decide), vI_sI, if_pos rfl, if_neg (by decide), vI_sI, if_pos rfl, if_pos rfl]; exact z
    · unfold clT
      rw [vI_sI, if_pos rfl, if_neg (by decide), vI_sI, if_pos rfl, if_pos rfl]; decide
    · unfold clT
      rw [vI_sI, if_pos rfl, if_pos rfl]; decide
  have gm : HM j τ (sI (sI τ 0 13 0) 0 23 (nI (100 * j))) := ⟨fun f q1 _ q3 _ _ => by rw [vI_sI, if_pos rfl, if_neg q3, vI_sI, if_pos rfl, if_neg q1], fun _ _ => rfl, fun _ _ => rfl, fun _ _ _ _ _ => rfl, fun _ _ => rfl, fun _ => rfl⟩
  rw [eX, eM]
  have := texts 10 FU FU 0 [] [] _ _ rfl (by decide) (by decide) (by decide) B
  rw [show nI (([] : List Cl).length + 1) = 1 by decide, show nI (([] : List Cl).length) = 0 by decide] at this
  rcases this with ⟨σ4, τ4, L4, CL4, w1, w2, w3, w4, w5, w6, w7⟩ | ⟨σ4, τ4, a4, w1, w2, w3, w4, w5, w6⟩
  · rw [w1, w2, Option.bind_some, Option.bind_some]
    exact Or.inl ⟨σ4, τ4, L4, CL4, rfl, rfl, w3, w4, w5, w6, gm.tr w7⟩
  · refine Or.inr ⟨σ4, τ4, a4, by rw [w1, Option.bind_some]; rfl, ?_, w3, w4, w5, gm.tr w6⟩
    rcases w2 with w2 | w2
    · rw [w2, Option.bind_some]; rfl
    · rw [w2, Option.bind_some]; rfl
/-- what a text that is read touches -/
def RX (j : Nat) (σ σ' : St) : Prop := (∀ k f, k ≠ 7 + 6 * j → ¬ (k = 84 ∧ (f = 1 ∨ f = 2)) → ¬ (k = 0 ∧ f = 9) → ¬ (k = 49 ∧ (f = 11 ∨ f = 12)) → vI σ' k f = vI σ k f) ∧ (∀ k, ¬ (7 + 6 * j + 1 ≤ k ∧ k ≤ 7 + 6 * j + 5) → vJ σ' k = vJ σ k) ∧ (∀ k, vL σ' k = vL σ k) ∧ (∀ k, k ≠ 84 → k ≠ 49 → vH σ' k = vH σ k)
def RM (j : Nat) (τ τ' : St) : Prop := (∀ f, ¬ (10 ≤ f ∧ f ≤ 14) → f ≠ 23 → f ≠ 24 → f ≠ 25 → vI τ' 0 f = vI τ 0 f) ∧ (∀ k, ¬ (9 ≤ k ∧ k ≤ 15) → vJ τ' k = vJ τ k) ∧ (∀ i, i < j → vJ τ' 9 i = vJ τ 9 i) ∧ (∀ k, 10 ≤ k → k ≤ 13 → ∀ i, i < 10 * j → vJ τ' k i = vJ τ k i) ∧ (∀ i, i < 100 * j → vJ τ' 14 i = vJ τ 14 i) ∧ (∀ k, vL τ' k = vL τ k)
theorem MR_low {τ τ' : St} {j j' : Nat} {C : List Cl} (hm : RM j τ τ') (hj : j' < j) (h : MR τ j' C) : MR τ' j' C := by
  obtain ⟨h1, h2, h3⟩ := h
  refine ⟨h1, by rw [hm.2.2.1 j' hj]; exact h2, fun i c hc => ?_⟩
  have hi := (List.getElem?_eq_some_iff.mp hc).1
  obtain ⟨g1, g2, g3, g4, g5⟩ := h3 i c hc
  have e : ∀ k, 10 ≤ k → k ≤ 13 → vJ τ' k (10 * j' + i) = vJ τ k (10 * j' + i) := fun k k1 k2 => hm.2.2.2.1 k k1 k2 _ (by omega)
  refine ⟨(e 10 (by decide) (by decide)).trans g1, (e 11 (by decide) (by decide)).trans g2, g3, g4, fun hw => ?_⟩
  obtain ⟨a, q1, q2, q3, q35, q4, q5⟩ := g5 hw
  refine ⟨a, (e 12 (by decide) (by decide)).trans q1, (e 13 (by decide) (by decide)).trans q2, q3, q35, q4, fun k t hk => ?_⟩
  have hk2 := (List.getElem?_eq_some_iff.mp hk).1
  rw [hm.2.2.2.2.1 _ (by omega)]; exact q5 k t hk
theorem R2_old {σ σ' τ τ' : St} {CLs : List (List Cl)} (h : R2 σ τ CLs) (hx : RX CLs.length σ σ') (hm : RM CLs.length τ τ') (h6 : CLs.length < 6) : XR σ' 1 [] ∧ ∀ j C, CLs[j]? = some C → XR σ' (7 + 6 * j) C ∧ MR τ' j C ∧ CLok C := by
  obtain ⟨h1, h2, h3, h4, h5⟩ := h
  refine ⟨XR_congr (fun f => hx.1 _ _ (by omega) (by omega) (by omega) (by omega)) (fun k k1 k2 => hx.2.1 _ (by omega)) h4, fun j C hC => ?_⟩
  have hj := (List.getElem?_eq_some_iff.mp hC).1
  obtain ⟨g1, g2, g3⟩ := h5 j C hC
  exact ⟨XR_congr (fun f => hx.1 _ _ (by omega) (by omega) (by omega) (by omega)) (fun k k1 k2 => hx.2.1 _ (by omega)) g1, MR_low hm hj g2, g3⟩
theorem BD.new {T : Nat → Nat} {s j : Nat} {L : List Nat} {CL : List Cl} {σ τ : St} (h : BD T s (7 + 6 * j) j s L CL σ τ) (h10 : CL.length ≤ 10) (h9 : vJ τ 9 j = nI CL.length) : XR σ (7 + 6 * j) CL ∧ MR τ j CL ∧ CLok CL := by
  obtain ⟨hX, hXL, hM, ⟨hj, hla⟩, ⟨h23, htk⟩, ⟨h0, h7, h8⟩, hC, hR8⟩ := h
  have hs := hX.1.1
  refine ⟨⟨h10, h0, h7, h8, fun i c hc => ?_⟩, ⟨h10, h9, fun i c hc => ?_⟩, fun c hc => ?_⟩
  · obtain ⟨⟨q1, q2, q3, q4, q5, q6⟩, q7⟩ := hC i c hc
    refine ⟨q1, q2, q5, q6, fun hw => ?_⟩
    obtain ⟨b, z1, z2, z3, z4, z5, z6, z7⟩ := q7 hw
    exact ⟨b, z1, z2, by omega, z6, fun k t hk => hXL.2.2.2 _ _ (z7 k t hk)⟩
  · obtain ⟨⟨q1, q2, q3, q4, q5, q6⟩, q7⟩ := hC i c hc
    refine ⟨q3, q4, q5, q6, fun hw => ?_⟩
    obtain ⟨b, z1, z2, z3, z4, z5, z6, z7⟩ := q7 hw
    exact ⟨100 * j + b, z3, z4, by omega, by omega, z6, fun k t hk => by rw [Nat.add_assoc]; exact htk _ _ (z7 k t hk)⟩
  · obtain ⟨i, hi⟩ := List.mem_iff_getElem?.mp hc
    exact (hC i c hi).1.2.2.2.2.2
theorem RR.rule {N : Nat} {σ σ' τ τ' : St} {t d s : Nat} {CL CL' : List Cl} {CLs CLs' : List (List Cl)} (h : RR N σ τ t d CL CLs s) (h6 : CLs.length < 6) (hx : RX CLs.length σ σ') (hm : RM CLs.length τ τ') (h2 : R2 σ' τ' CLs') (hHL : HL CLs' (vH σ' 49) (vI τ' 0 11) CL') (h11 : vI σ' 49 11 = nI (leA CL')) (h12 : vI σ' 49 12 = nI (fuA CL')) (hmo : ∀ hx the C, HL CLs hx the C → HL CLs' hx the C) (z1 : vI σ' 84 1 = 0) (z2 : vI τ' 0 12 = 0) : RR N σ' τ' t d CL' CLs' 0 := by
  obtain ⟨⟨k1, k2, k3, ⟨l1, l2, l3, l4⟩, k5⟩, ⟨r2, r3, r4, r5, r6, r7, r8⟩, f1, f2⟩ := h
  obtain ⟨⟨n1, n1b, n1c, n1d, n1e, n1f⟩, ⟨g, g0, g1, g2⟩, n3, n4, n5, -⟩ := k1
  obtain ⟨y1, y2, y3, y4⟩ := hHL.mh h2 rfl
  have x49 : ∀ f, f ≠ 11 → f ≠ 12 → vI σ' 49 f = vI σ 49 f := fun f q1 q2 => hx.1 49 f (by omega) (by omega) (by omega) (by omega)
  have xJ : ∀ k, 49 ≤ k → vJ σ' k = vJ σ k := fun k hk => hx.2.1 k (by omega)
  have mI : ∀ f, ¬ (10 ≤ f ∧ f ≤ 14) → f ≠ 23 → f ≠ 24 → f ≠ 25 → vI τ' 0 f = vI τ 0 f := hm.1
  have mJ : ∀ k, ¬ (9 ≤ k ∧ k ≤ 15) → vJ τ' k = vJ τ k := hm.2.1
  have sx : ∀ {a b : Nat}, (50 ≤ a ∧ b ≤ 84) ∨ 85 ≤ a → SX a b σ σ' := fun hb k q1 q2 => ⟨fun f => hx.1 k f (by omega) (by omega) (by omega) (by omega), xJ k (by omega), hx.2.2.1 k, hx.2.2.2 k (by omega) (by omega)⟩
  have m27 : vI τ' 0 27 = -1 := (mI 27 (by decide) (by decide) (by decide) (by decide)).trans l1
  have m28 : vI τ' 0 28 = -1 := (mI 28 (by decide) (by decide) (by decide) (by decide)).trans l2
  have r5' : R5 σ' τ' CLs := r5.c (hx.1 0 6 (by omega) (by omega) (by omega) (by omega)) (sx (by decide)) (sx (by decide)) (fun f q1 q2 => mI f (by omega) (by omega) (by omega) (by omega)) (fun k q1 q2 => mJ k (by omega))
  refine ⟨⟨⟨⟨n1, n1b, (x49 0 (by decide) (by decide)).trans n1c, (mI 0 (by decide) (by decide) (by decide) (by decide)).trans n1d, (x49 9 (by decide) (by decide)).trans n1e, (mI 2 (by decide) (by decide) (by decide) (by decide)).trans n1f⟩, ⟨g, g0, (x49 8 (by decide) (by decide)).trans g1, (mI 1 (by decide) (by decide) (by decide) (by decide)).trans g2⟩, fun i hi => ?_, fun i hi => ?_, fun i hi => ?_, ⟨Or.inl ⟨m27, h11⟩, Or.inl ⟨m28, h12⟩⟩, y1, y2, y3, y4⟩, k2, fun i hi => ?_, ⟨m27, m28, (mI 31 (by decide) (by decide) (by decide) (by decide)).trans l3, (mI 32 (by decide) (by decide) (by decide) (by decide)).trans l4⟩, hHL⟩, ⟨h2, ⟨by decide, z1.trans (by decide), z2.trans (by decide), fun i hi => absurd hi (Nat.not_lt_zero _)⟩, r4.c (sx (by decide)) (mI _ (by decide) (by decide) (by decide) (by decide)) (mI _ (by decide) (by decide) (by decide) (by decide)) (mJ _ (by decide)) (mJ _ (by decide)) (mJ _ (by decide)), ?_, r6.c (sx (by decide)) (mJ _ (by decide)) (mJ _ (by decide)) (hm.2.2.2.2.2 _), r7.c (hx.1 89 1 (by omega) (by omega) (by omega) (by omega)) (xJ _ (by decide)) (mI _ (by decide) (by decide) (by decide) (by decide)) (mJ _ (by decide)), r8.c (mJ _ (by decide))⟩, fun i hi => ?_, fun i hi => ?_⟩
  · rw [xJ _ (by decide), xJ _ (by decide), xJ _ (by decide), xJ _ (by decide), xJ _ (by decide), xJ _ (by decide), mJ 1 (by decide), mJ 2 (by decide), mJ 3 (by decide), mJ 4 (by decide), mJ 5 (by decide), mJ 6 (by decide)]
    exact n3 i hi
  · rw [xJ _ (by decide), mJ 7 (by decide)]; exact n4 i hi
  · rw [mJ 3 (by decide)]; exact n5 i hi
  · rw [mJ 1 (by decide)]; exact k3 i hi
  · rcases r5' with q | ⟨q1, q2, t', d', C, q3, q4, q5, q6, q7, q8, q9, q10, q11, q12⟩
    · exact Or.inl q
    · exact Or.inr ⟨q1, q2, t', d', C, q3, q4, q5, q6, q7, q8, q9, q10, hmo _ _ _ q11, q12⟩
  · rw [mJ 5 (by decide)]; exact f1 i hi
  · rw [mJ 30 (by decide)]; exact f2 i hi
theorem op_rule {N : Nat} {σ τ : St} {t d s : Nat} {CL : List Cl} {CLs : List (List Cl)} (h : RR N σ τ t d CL CLs s) : Sm N (f_X_rule 0 σ) (f_M_rule 0 τ) := by
  obtain ⟨⟨k1, k2, k3, l0, k5⟩, ⟨r2, r3, r4, r5, r6, r7, r8⟩, f1, f2⟩ := id h
  obtain ⟨c1, c2, c3, c4, c5⟩ := id r2
  obtain ⟨s1, s2, s3, s4⟩ := r3
  unfold f_X_rule f_M_rule
  rw [c2, c3]
  rcases Nat.lt_or_ge 5 CLs.length with h6 | h6'
  · rw [if_neg (by rw [show (6 : Int32) = nI 6 by decide, nIlt (by omega) (by decide)]; omega), if_pos (by rw [show CLs.length = 6 by omega]; decide)]
    exact sm_ret h _
  have h6 : CLs.length < 6 := by omega
  rw [if_pos (by rw [show (6 : Int32) = nI 6 by decide, nIlt (by omega) (by decide)]; exact h6), if_pos (ok_nI h6 (by decide)), nx_nI (by omega), if_neg (by rw [show (6 : Int32) = nI 6 by decide, nIeq (by omega) (by decide)]; omega)]
  have hP : ∀ i, ∃ b, i < s → b < 128 ∧ vJ σ 85 i = nI b ∧ vJ τ 8 i = nI b := fun i => by
    by_cases hi : i < s
    · obtain ⟨b, hb⟩ := s4 i hi; exact ⟨b, fun _ => hb⟩
    · exact ⟨0, fun h => absurd h hi⟩
  have hT : ∃ T : Nat → Nat, ∀ i, i < s → T i < 128 ∧ vJ σ 85 i = nI (T i) ∧ vJ τ 8 i = nI (T i) := ⟨fun i => (hP i).choose, fun i hi => (hP i).choose_spec hi⟩
  obtain ⟨T, hT⟩ := hT
  obtain ⟨j, hj⟩ : ∃ j, j = CLs.length := ⟨_, rfl⟩
  have clx : ∀ k f, k ≠ 7 + 6 * j → ¬ (k = 84 ∧ f = 2) → vI (clT (7 + 6 * j) σ) k f = vI σ k f := fun k f q1 q2 => by
    unfold clT
    rw [vI_sI, if_neg q1, vI_sI, if_neg q1, vI_sI, if_neg q1, vI_sI, if_neg q1]
    show vI (sI σ 84 2 0) k f = _
    rw [vI_sI]
    by_cases e : k = 84
    · rw [if_pos e, if_neg (fun e2 => q2 ⟨e, e2⟩), e]
    · rw [if_neg e]
  have clh : ∀ k, k ≠ 84 → vH (clT (7 + 6 * j) σ) k = vH σ k := fun k hk => by
    show vH (sH (sI σ 84 2 0) 84 (7 + 6 * j)) k = _
    rw [vH_sH, if_neg hk]; rfl
  have k5' : HL CLs (vH σ 49) (vI τ 0 11) CL := k5
  have q1149 := k1.2.2.2.2.2.1.le l0.1
  have q1249 := k1.2.2.2.2.2.1.fu l0.2.1
  rw [← hj] at h6 ⊢
  rcases und2 (T := T) h6 s1 s2 s3 hT r8 with ⟨σ1, τ1, L1, C1, e1, e2, B, l10, t9, g1, g2⟩ | ⟨σ1, τ1, a1, e1, e2, x1, x2, g1, g2⟩
  · rw [e1, e2, Option.bind_some, Option.bind_some]
    simp only [st]
    rw [if_neg n_tf, if_neg n_tf]
    unfold f_K_hold
    simp only [st, Option.bind_some]
    have hne : ¬ (49 : Nat) = 7 + 6 * j := by omega
    obtain ⟨N1, N2, N3⟩ := B.new l10 t9
    obtain ⟨σ2, hσ2⟩ : ∃ z, z = sI (sI (sI (sH (sI σ1 84 1 0) 49 (7 + 6 * j)) 49 11 (vI (sH (sI σ1 84 1 0) 49 (7 + 6 * j)) (7 + 6 * j) 7)) 49 12 (vI (sI (sH (sI σ1 84 1 0) 49 (7 + 6 * j)) 49 11 (vI (sH (sI σ1 84 1 0) 49 (7 + 6 * j)) (7 + 6 * j) 7)) (7 + 6 * j) 8)) 0 9 (nI (j + 1)) := ⟨_, rfl⟩
    obtain ⟨τ2, hτ2⟩ : ∃ z, z = sI (sI (sI τ1 0 12 0) 0 11 (nI j)) 0 10 (nI (j + 1)) := ⟨_, rfl⟩
    have u9 : vI (sI (sI (sH (sI σ1 84 1 0) 49 (7 + 6 * j)) 49 11 (vI (sH (sI σ1 84 1 0) 49 (7 + 6 * j)) (7 + 6 * j) 7)) 49 12 (vI (sI (sH (sI σ1 84 1 0) 49 (7 + 6 * j)) 49 11 (vI (sH (sI σ1 84 1 0) 49 (7 + 6 * j)) (7 + 6 * j) 7)) (7 + 6 * j) 8)) 0 9 = nI j := by
      show vI σ1 0 9 = nI j
      rw [g1.1 0 9 (by decide) (by omega), clx 0 9 (by omega) (by decide), hj]; exact c2
    have w10 : vI (sI τ1 0 12 0) 0 10 = nI j := by
      show vI τ1 0 10 = nI j
      rw [g2.1 10 (by decide) (by decide) (by decide) (by decide) (by decide), hj]; exact c3
    have w10' : vI (sI (sI τ1 0 12 0) 0 11 (nI j)) 0 10 = nI j := w10
    rw [u9, w10, w10', nI_1, ← hσ2, ← hτ2]
    have v7 : vI (sH (sI σ1 84 1 0) 49 (7 + 6 * j)) (7 + 6 * j) 7 = nI (leA C1) := by
      show vI (sI σ1 84 1 0) (7 + 6 * j) 7 = _
      rw [vI_sI, if_neg (by omega)]; exact N1.2.2.1
    have v8 : vI (sI (sH (sI σ1 84 1 0) 49 (7 + 6 * j)) 49 11 (vI (sH (sI σ1 84 1 0) 49 (7 + 6 * j)) (7 + 6 * j) 7)) (7 + 6 * j) 8 = nI (fuA C1) := by
      rw [vI_sI, if_neg (by omega)]
      show vI (sI σ1 84 1 0) (7 + 6 * j) 8 = _
      rw [vI_sI, if_neg (by omega)]; exact N1.2.2.2.1
    have i2 : ∀ k f, ¬ (k = 84 ∧ f = 1) → ¬ (k = 0 ∧ f = 9) → ¬ (k = 49 ∧ (f = 11 ∨ f = 12)) → vI σ2 k f = vI σ1 k f := fun k f q1 q2 q3 => by
      rw [hσ2, vI_sI]
      by_cases e0 : k = 0
      · rw [if_pos e0, if_neg (fun e => q2 ⟨e0, e⟩), e0]; rfl
      rw [if_neg e0, vI_sI]
      by_cases e49 : k = 49
      · rw [if_pos e49, if_neg (by omega), e49, vI_sI, if_pos rfl, if_neg (by omega)]; rfl
      rw [if_neg e49, vI_sI, if_neg e49]
      show vI (sI σ1 84 1 0) k f = _
      rw [vI_sI]
      by_cases e84 : k = 84
      · rw [if_pos e84, if_neg (fun e => q1 ⟨e84, e⟩), e84]
      · rw [if_neg e84]
    have j2 : ∀ k, vJ σ2 k = vJ σ1 k := fun k => by rw [hσ2]; rfl
    have h2' : ∀ k, k ≠ 49 → vH σ2 k = vH σ1 k := fun k hk => by
      rw [hσ2]
      show vH (sH (sI σ1 84 1 0) 49 (7 + 6 * j)) k = _
      rw [vH_sH, if_neg hk]; rfl
    have rx : RX j σ σ2 := by
      refine ⟨fun k f q1 q2 q3 q4 => ?_, fun k q => ?_, fun k => ?_, fun k q1 q2 => ?_⟩
      · rw [i2 k f (by omega) q3 q4, g1.1 k f (by omega) q1, clx k f q1 (by omega)]
      · rw [j2, g1.2.1 k q]; rfl
      · rw [hσ2]; exact (g1.2.2.1 k).trans rfl
      · rw [h2' k q2, g1.2.2.2, clh k q1]
    have mi2 : ∀ f, ¬ (10 ≤ f ∧ f ≤ 12) → vI τ2 0 f = vI τ1 0 f := fun f q => by
      rw [hτ2, vI_sI, if_pos rfl, if_neg (by omega), vI_sI, if_pos rfl, if_neg (by omega), vI_sI, if_pos rfl, if_neg (by omega)]
    have mj2 : ∀ k, vJ τ2 k = vJ τ1 k := fun k => by rw [hτ2]; rfl
    have rm : RM j τ τ2 := by
      refine ⟨fun f q1 q2 q3 q4 => ?_, fun k q => ?_, fun i q => ?_, fun k q1 q2 i q3 => ?_, fun i q => ?_, fun k => ?_⟩
      · rw [mi2 f (by omega), g2.1 f (by omega) (by omega) q2 q3 q4]
      · rw [mj2, g2.2.1 k q]
      · rw [mj2, g2.2.2.1 i q]
      · rw [mj2, g2.2.2.2.1 k q1 q2 i q3]
      · rw [mj2, g2.2.2.2.2.1 i q]
      · rw [hτ2]; exact g2.2.2.2.2.2 k
    obtain ⟨o1, o2⟩ := R2_old r2 (by rw [← hj]; exact rx) (by rw [← hj]; exact rm) (by rw [← hj]; exact h6)
    have R2' : R2 σ2 τ2 (CLs ++ [C1]) := by
      refine ⟨by simp; omega, ?_, ?_, o1, fun j' C hC => ?_⟩
      · rw [List.length_append, ← hj, hσ2]; rfl
      · rw [List.length_append, ← hj, hτ2]; rfl
      · rcases app_get hC with ⟨hi, hC'⟩ | ⟨hi, hC'⟩
        · exact o2 j' C hC'
        · subst hC'
          rw [hi, ← hj]
          exact ⟨XR_congr (fun f => i2 _ _ (by omega) (by omega) (by omega)) (fun k k1 k2 => j2 _) N1, MR_congr (fun k _ _ => mj2 k) N2, N3⟩
    have hget : (CLs ++ [C1])[j]? = some C1 := by rw [hj, List.getElem?_append_right (Nat.le_refl _), Nat.sub_self]; rfl
    refine ⟨nI j, σ2, τ2, ?_, ?_, t, d, C1, CLs ++ [C1], 0, h.rule (by rw [← hj]; exact h6) (by rw [← hj]; exact rx) (by rw [← hj]; exact rm) R2' (Or.inr ⟨j, h6, ?_, ?_, hget⟩) ?_ ?_ (fun hx the C q => ?_) ?_ ?_⟩
    · rw [show vI σ2 0 9 = nI (j + 1) by rw [hσ2]; rfl, nI_pred]
    · rw [show vI τ2 0 11 = nI j by rw [hτ2]; rfl]
    · rw [hσ2]; rfl
    · rw [hτ2]; rfl
    · rw [hσ2, vI_sI, if_neg (by decide), vI_sI, if_pos rfl, if_neg (by decide), vI_sI, if_pos rfl, if_pos rfl]; exact v7
    · rw [hσ2, vI_sI, if_neg (by decide), vI_sI, if_pos rfl, if_pos rfl]; exact v8
    · rcases q with q | ⟨j', q1, q2, q3, q4⟩
      · exact Or.inl q
      · exact Or.inr ⟨j', q1, q2, q3, app_left q4⟩
    · rw [hσ2]; rfl
    · rw [hτ2]; rfl
  · rw [e1, e2, Option.bind_some, Option.bind_some]
    simp only [st, if_true]
    have rx : RX j σ (sI σ1 84 1 0) := by
      refine ⟨fun k f q1 q2 q3 q4 => ?_, fun k q => ?_, fun k => ?_, fun k q1 q2 => ?_⟩
      · rw [vI_sI]
        by_cases e84 : k = 84
        · rw [if_pos e84, if_neg (by omega), g1.1 k f (by omega) q1, clx k f q1 (by omega)]
        · rw [if_neg e84, g1.1 k f (by omega) q1, clx k f q1 (by omega)]
      · rw [vJ_sI, g1.2.1 k q]; rfl
      · rw [vL_sI, g1.2.2.1 k]; rfl
      · rw [vH_sI, g1.2.2.2, clh k q1]
    have rm : RM j τ (sI τ1 0 12 0) := by
      refine ⟨fun f q1 q2 q3 q4 => ?_, fun k q => ?_, fun i q => ?_, fun k q1 q2 i q3 => ?_, fun i q => ?_, fun k => ?_⟩
      · rw [vI_sI, if_pos rfl, if_neg (by omega), g2.1 f (by omega) (by omega) q2 q3 q4]
      · rw [vJ_sI, g2.2.1 k q]
      · rw [vJ_sI, g2.2.2.1 i q]
      · rw [vJ_sI, g2.2.2.2.1 k q1 q2 i q3]
      · rw [vJ_sI, g2.2.2.2.2.1 i q]
      · rw [vL_sI, g2.2.2.2.2.2 k]
    obtain ⟨o1, o2⟩ := R2_old r2 (by rw [← hj]; exact rx) (by rw [← hj]; exact rm) (by rw [← hj]; exact h6)
    have i49 : ∀ f, vI (sI σ1 84 1 0) 49 f = vI σ 49 f := fun f => by
      rw [vI_sI, if_neg (by decide), g1.1 49 f (by omega) (by omega), clx 49 f (by omega) (by omega)]
    have p84 : vI (sI σ1 84 1 0) 84 2 = nI a1 := x1.2.2.1
    have p13 : vI (sI τ1 0 12 0) 0 13 = nI a1 := x2.2.2.1
    have R2' : R2 (sI σ1 84 1 0) (sI τ1 0 12 0) CLs := by
      refine ⟨c1, ?_, ?_, o1, o2⟩
      · rw [vI_sI, if_neg (by decide), g1.1 0 9 (by decide) (by omega), clx 0 9 (by omega) (by decide)]; exact c2
      · rw [vI_sI, if_pos rfl, if_neg (by decide), g2.1 10 (by decide) (by decide) (by decide) (by decide) (by decide)]; exact c3
    refine ⟨-10 - nI a1, sI σ1 84 1 0, sI τ1 0 12 0, by rw [p84], by rw [p13], t, d, CL, CLs, 0, h.rule (by rw [← hj]; exact h6) (by rw [← hj]; exact rx) (by rw [← hj]; exact rm) R2' ?_ ?_ ?_ (fun hx the C q => q) rfl rfl⟩
    · rw [vH_sI, g1.2.2.2, clh 49 (by decide), vI_sI, if_pos rfl, if_neg (by decide), g2.1 11 (by decide) (by decide) (by decide) (by decide) (by decide)]; exact k5'
    · rw [i49]; exact q1149
    · rw [i49]; exact q1249
