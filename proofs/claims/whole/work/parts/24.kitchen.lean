/-! ===== PURE: a kitchen, the class's at the cell c and the reference's own, step by step alike ===== -/
/-- what a test of the taker p asks, of the class's kitchen -/
def Fc (σ : St) (c p : Nat) (j : Nat) : Int32 := match j with
  | 0 => nI p
  | 1 => vJ σ (c + 1) p
  | 2 => vJ σ (c + 2) p
  | 3 => vI σ c 8 / 10
  | 4 => vI σ c 9 % 7
  | _ => vJ σ (c + 5) p % 100
theorem x_factsOf {σ : St} {c p : Nat} (hp : p < 6) : ∃ h, f_K_factsOf c (nI p) σ = some (sJ σ (c + 8) h) ∧ ∀ j, j < 6 → h j = Fc σ c p j := by
  have hok : ok (nI p) 6 = true := ok_nI hp (by decide)
  unfold f_K_factsOf
  simp only [hok, show ok 0 6 = true by decide, show ok 1 6 = true by decide, show ok 2 6 = true by decide, show ok 3 6 = true by decide, show ok 4 6 = true by decide, show ok 5 6 = true by decide, if_true, st, nx_nI (show p < 2 ^ 31 by omega), sJ_sJ]
  refine ⟨_, rfl, ?_⟩
  intro j hj
  have e : ∀ k, k < 6 → nx (nI k) = k := fun k hk => nx_nI (by omega)
  rw [show nx 0 = 0 by decide, show nx 1 = 1 by decide, show nx 2 = 2 by decide, show nx 3 = 3 by decide, show nx 4 = 4 by decide, show nx 5 = 5 by decide]
  rcases (show j = 0 ∨ j = 1 ∨ j = 2 ∨ j = 3 ∨ j = 4 ∨ j = 5 by omega) with rfl | rfl | rfl | rfl | rfl | rfl <;> simp [upd, Fc, vJ_sJ, vI_sJ]
theorem suA_F {w : Nat} {F G : Nat → Int32} {CL : List Cl} (h : F = G) : suA w F CL = suA w G CL := by rw [h]
/-- the reference's least and full, and the class's -/
def LF (σ : St) (c : Nat) (τ : St) (CL : List Cl) : Prop := ((vI τ 0 27 = -1 ∧ vI σ c 11 = nI (leA CL)) ∨ ∃ l, l ≤ 99 ∧ vI τ 0 27 = nI l ∧ vI σ c 11 = nI l) ∧ ((vI τ 0 28 = -1 ∧ vI σ c 12 = nI (fuA CL)) ∨ ∃ l, l ≤ 990 ∧ vI τ 0 28 = nI l ∧ vI σ c 12 = nI l)
def CLok (CL : List Cl) : Prop := ∀ c, c ∈ CL → c.2.1 < 100
theorem leA_le {CL : List Cl} (h : CLok CL) : leA CL ≤ 99 := by
  have : ∀ (L : List Cl) (a : Nat), a ≤ 99 → (∀ c, c ∈ L → c.2.1 < 100) → L.foldl (fun a c => if c.1 = 1 then c.2.1 else a) a ≤ 99 := by
    intro L
    induction L with
    | nil => intro a ha _; exact ha
    | cons c L ih =>
      intro a ha hL
      rw [List.foldl_cons]
      refine ih _ ?_ (fun q hq => hL q (List.mem_cons_of_mem _ hq))
      have := hL c List.mem_cons_self
      split <;> omega
  exact this CL 5 (by decide) h
theorem fuA_le {CL : List Cl} (h : CLok CL) : fuA CL ≤ 990 := by
  have : ∀ (L : List Cl) (a : Nat), a ≤ 990 → (∀ c, c ∈ L → c.2.1 < 100) → L.foldl (fun a c => if c.1 = 2 then 10 * c.2.1 else a) a ≤ 990 := by
    intro L
    induction L with
    | nil => intro a ha _; exact ha
    | cons c L ih =>
      intro a ha hL
      rw [List.foldl_cons]
      refine ih _ ?_ (fun q hq => hL q (List.mem_cons_of_mem _ hq))
      have := hL c List.mem_cons_self
      split <;> omega
  exact this CL 200 (by decide) h
theorem suA_n {w : Nat} {F : Nat → Int32} {CL : List Cl} (h : CLok CL) (h10 : CL.length ≤ 10) : ∃ m, m ≤ 990 ∧ suA w F CL = nI m := by
  have : ∀ (L : List Cl) (a : Nat), (∀ c, c ∈ L → c.2.1 < 100) → ∃ m, m ≤ a + 99 * L.length ∧ L.foldl (su1 w F) (nI a) = nI m := by
    intro L
    induction L with
    | nil => intro a _; exact ⟨a, by simp, rfl⟩
    | cons c L ih =>
      intro a hL
      rw [List.foldl_cons]
      have hc := hL c List.mem_cons_self
      unfold su1
      by_cases hq : c.1 = w ∧ (ev c.2.2 F []).headD false = true
      · rw [if_pos hq, nI_add]
        obtain ⟨m, h1, h2⟩ := ih (a + c.2.1) (fun q hq => hL q (List.mem_cons_of_mem _ hq))
        exact ⟨m, by simp only [List.length_cons]; omega, h2⟩
      · rw [if_neg hq]
        obtain ⟨m, h1, h2⟩ := ih a (fun q hq => hL q (List.mem_cons_of_mem _ hq))
        exact ⟨m, by simp only [List.length_cons]; omega, h2⟩
  obtain ⟨m, h1, h2⟩ := this CL 0 h
  exact ⟨m, by omega, by rw [← h2, nI_0]; rfl⟩
/-- alike: t takers, the day d, the rule's clauses CL -/
def KR (σ : St) (c : Nat) (τ : St) (t d : Nat) (CL : List Cl) : Prop :=
  (t ≤ 6 ∧ d < 2 ^ 20 ∧ vI σ c 0 = nI t ∧ vI τ 0 0 = nI t ∧ vI σ c 9 = nI d ∧ vI τ 0 2 = nI d) ∧ (∃ g, g ≤ 990 ∧ vI σ c 8 = nI g ∧ vI τ 0 1 = nI g) ∧
  (∀ i, i < 6 → vJ σ (c + 1) i = vJ τ 1 i ∧ vJ σ (c + 2) i = vJ τ 2 i ∧ vJ σ (c + 3) i = vJ τ 3 i ∧ vJ σ (c + 4) i = vJ τ 4 i ∧ vJ σ (c + 5) i = vJ τ 5 i ∧ vJ σ (c + 6) i = vJ τ 6 i) ∧ (∀ i, i < 24 → vJ σ (c + 7) i = vJ τ 7 i) ∧ (∀ i, i < t → ∃ q, 1 ≤ q ∧ q ≤ 60 ∧ vJ τ 3 i = nI q) ∧
  LF σ c τ CL ∧ MH τ CL ∧ CLok CL ∧ tg BX (vH σ c) 1 ∧ XR σ (vH σ c) CL
theorem KR_least {σ τ : St} {c t d : Nat} {CL : List Cl} (h : KR σ c τ t d CL) : ∃ l, l ≤ 99 ∧ vI σ c 11 = nI l ∧ f_M_leastNow 0 τ = some (nI l) := by
  obtain ⟨-, -, -, -, -, ⟨h1, -⟩, hM, hC, -, -⟩ := h
  rcases h1 with ⟨e1, e2⟩ | ⟨l, h2, e1, e2⟩
  · exact ⟨_, leA_le hC, e2, m_least hM e1⟩
  · refine ⟨l, h2, e2, ?_⟩
    unfold f_M_leastNow
    rw [e1, if_pos (nI_pos' (by omega))]
theorem KR_full {σ τ : St} {c t d : Nat} {CL : List Cl} (h : KR σ c τ t d CL) : ∃ l, l ≤ 990 ∧ vI σ c 12 = nI l ∧ f_M_fullNow 0 τ = some (nI l) := by
  obtain ⟨-, -, -, -, -, ⟨-, h1⟩, hM, hC, -, -⟩ := h
  rcases h1 with ⟨e1, e2⟩ | ⟨l, h2, e1, e2⟩
  · exact ⟨_, fuA_le hC, e2, m_full hM e1⟩
  · refine ⟨l, h2, e2, ?_⟩
    unfold f_M_fullNow
    rw [e1, if_pos (nI_pos' (by omega))]
theorem nI_rem {a d : Nat} (ha : a < 2 ^ 31) (h0 : 0 < d) (hd : d < 2 ^ 31) : nI a % nI d = nI (a % d) := by rw [← irem_eq_mod]; exact pk_rem ha h0 hd
theorem KR_MF {σ τ : St} {c t d p : Nat} {CL : List Cl} (h : KR σ c τ t d CL) (hp : p < 6) : MF τ p (Fc σ c p) := by
  obtain ⟨⟨-, -, -, -, hd1, hd2⟩, ⟨g, -, hg1, hg2⟩, hJ, -⟩ := h
  obtain ⟨j1, j2, -, -, j5, -⟩ := hJ p hp
  intro f hf
  have hok : ok (nI p) 6 = true := ok_nI hp (by decide)
  unfold f_M_factOf
  simp only [hok, if_true, nx_nI (show p < 2 ^ 31 by omega)]
  rcases (show f = 0 ∨ f = 1 ∨ f = 2 ∨ f = 3 ∨ f = 4 ∨ f = 5 by omega) with rfl | rfl | rfl | rfl | rfl | rfl
  · rw [if_pos (by decide)]; rfl
  · rw [if_neg (by decide), if_pos (by decide), ← j1]; rfl
  · rw [if_neg (by decide), if_neg (by decide), if_pos (by decide), ← j2]; rfl
  · rw [if_neg (by decide), if_neg (by decide), if_neg (by decide), if_pos (by decide), hg2, ← hg1]; rfl
  · rw [if_neg (by decide), if_neg (by decide), if_neg (by decide), if_neg (by decide), if_pos (by decide), hd2, ← hd1]; rfl
  · rw [if_neg (by decide), if_neg (by decide), if_neg (by decide), if_neg (by decide), if_neg (by decide), ← j5]; rfl
theorem XR_8 {σ : St} {r c : Nat} {h : Nat → Int32} {CL : List Cl} (hr : r + 5 < c + 8 ∨ c + 8 < r) (hR : XR σ r CL) : XR (sJ σ (c + 8) h) r CL := by
  obtain ⟨h1, h2, h3, h4, h5⟩ := hR
  refine ⟨h1, h2, h3, h4, fun i q hq => ?_⟩
  obtain ⟨g1, g2, g3, g4, g5⟩ := h5 i q hq
  have e : ∀ k, k ≤ 5 → vJ (sJ σ (c + 8) h) (r + k) = vJ σ (r + k) := fun k hk => by rw [vJ_sJ, if_neg (by omega)]
  refine ⟨by rw [e 1 (by decide)]; exact g1, by rw [e 2 (by decide)]; exact g2, g3, g4, fun hw => ?_⟩
  obtain ⟨a, q1, q2, q3, q4, q5⟩ := g5 hw
  exact ⟨a, by rw [e 3 (by decide)]; exact q1, by rw [e 4 (by decide)]; exact q2, q3, q4, fun k t hk => by rw [e 5 (by decide)]; exact q5 k t hk⟩
theorem tg_1 {r : Nat} (h : tg BX r 1) : r + 5 < 49 := by
  have h0 : ∀ c, c < 104 → tagsX.getD c 50 = 1 → c + 5 < 49 := by decide
  exact h0 r h.1 h.2
theorem x_wants {σ τ : St} {c t d p : Nat} {CL : List Cl} (h : KR σ c τ t d CL) (hc : 49 ≤ c) (hp : p < 6) : ∃ f, f_K_wants c (nI p) σ = some (vJ σ (c + 3) p + suA 0 (Fc σ c p) CL, sJ σ (c + 8) f) := by
  obtain ⟨-, -, -, -, -, -, -, -, ht, hR⟩ := h
  obtain ⟨f, e, hf⟩ := x_factsOf (σ := σ) (c := c) hp
  refine ⟨f, ?_⟩
  have hr := tg_1 ht
  unfold f_K_wants
  rw [if_pos (ok_nI hp (by decide)), if_pos (tgb_of ht), e, Option.bind_some, show (0 : Int32) = nI 0 by decide, x_together (F := Fc σ c p) (fun j hj => by rw [vJ_sJ, if_pos rfl]; exact hf j hj) (XR_8 (by omega) hR) (Or.inl rfl), Option.bind_some, nx_nI (by omega)]
theorem x_pay {σ τ : St} {c t d p : Nat} {CL : List Cl} (h : KR σ c τ t d CL) (hc : 49 ≤ c) (hp : p < 6) : ∃ f, f_K_pay c (nI p) σ = some (suA 3 (Fc σ c p) CL, sJ σ (c + 8) f) := by
  obtain ⟨-, -, -, -, -, -, -, -, ht, hR⟩ := h
  obtain ⟨f, e, hf⟩ := x_factsOf (σ := σ) (c := c) hp
  refine ⟨f, ?_⟩
  have hr := tg_1 ht
  unfold f_K_pay
  rw [if_pos (tgb_of ht), e, Option.bind_some, show (3 : Int32) = nI 3 by decide, x_together (F := Fc σ c p) (fun j hj => by rw [vJ_sJ, if_pos rfl]; exact hf j hj) (XR_8 (by omega) hR) (Or.inr rfl), Option.bind_some]
theorem m_wants {σ τ : St} {c t d p : Nat} {CL : List Cl} (h : KR σ c τ t d CL) (hp : p < 6) : ∃ f, f_M_wantsOf 0 (nI p) τ = some (vJ τ 3 p + suA 0 (Fc σ c p) CL, sJ τ 17 f) := by
  obtain ⟨f, e⟩ := m_sumOf (KR_MF h hp) h.2.2.2.2.2.2.1 (w := 0) (Or.inl rfl)
  refine ⟨f, ?_⟩
  unfold f_M_wantsOf
  rw [if_pos (ok_nI hp (by decide)), show (0 : Int32) = nI 0 by decide, e, Option.bind_some, nx_nI (by omega)]
