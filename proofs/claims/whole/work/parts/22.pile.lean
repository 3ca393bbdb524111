/-! ===== PURE: the reference's pile ===== -/
def PL (f : Nat → Int32) : List Bool → Prop
  | [] => True
  | b :: s => f s.length = b2i b ∧ PL f s
theorem PL_upd {f : Nat → Int32} {k : Nat} {x : Int32} : ∀ {s : List Bool}, s.length ≤ k → PL f s → PL (upd f k x) s
  | [], _, _ => trivial
  | b :: s, hk, h => by
    simp only [List.length_cons] at hk
    exact ⟨by rw [upd_n (by omega)]; exact h.1, PL_upd (by omega) h.2⟩
theorem PL_put {f : Nat → Int32} {s : List Bool} {b : Bool} (h : PL f s) : PL (upd f s.length (b2i b)) (b :: s) := ⟨upd_s, PL_upd (Nat.le_refl _) h⟩
theorem sJ_sJ (σ : St) (c : Nat) (h1 h2 : Nat → Int32) : sJ (sJ σ c h1) c h2 = sJ σ c h2 := by
  unfold sJ
  refine Prod.ext rfl (Prod.ext ?_ rfl)
  funext a
  show up1 (up1 σ.2.1 c h1) c h2 a = up1 σ.2.1 c h2 a
  unfold up1
  split <;> rfl
theorem me_0 : me 0 = -33 := rfl
theorem me_1 : me 1 = -38 := rfl
theorem me_2 : me 2 = -124 := rfl
theorem me_parts {t : Nat} (h3 : 3 ≤ t) (h : t < 1803) : me t = nI (1000 * ((t - 3) / 300) + 100 * ((t - 3) / 100 % 3) + (t - 3) % 100) ∧ me t / 1000 = nI ((t - 3) / 300) ∧ me t / 100 % 10 = nI ((t - 3) / 100 % 3) ∧ me t % 100 = nI ((t - 3) % 100) ∧ 0 ≤ me t ∧ ¬ me t = -33 := by
  have e : me t = nI (1000 * ((t - 3) / 300) + 100 * ((t - 3) / 100 % 3) + (t - 3) % 100) := by
    unfold me
    rw [if_neg (by omega), if_neg (by omega), if_neg (by omega)]
  have hm : ∀ a b : Nat, a < 2 ^ 31 → 0 < b → b < 2 ^ 31 → nI a % nI b = nI (a % b) := fun a b h1 h2 h3 => by rw [← irem_eq_mod]; exact pk_rem h1 h2 h3
  refine ⟨e, ?_, ?_, ?_, ?_, ?_⟩
  · rw [e, show (1000 : Int32) = nI 1000 by decide, pk_div (by omega) (by decide) (by decide)]
    congr 1
    omega
  · rw [e, show (100 : Int32) = nI 100 by decide, pk_div (by omega) (by decide) (by decide), show (10 : Int32) = nI 10 by decide, hm _ _ (by omega) (by decide) (by decide)]
    congr 1
    omega
  · rw [e, show (100 : Int32) = nI 100 by decide, hm _ _ (by omega) (by decide) (by decide)]
    congr 1
    omega
  · rw [e]; exact nI_pos' (by omega)
  · rw [e]; exact fun q => nI_pos (show 1000 * ((t - 3) / 300) + 100 * ((t - 3) / 100 % 3) + (t - 3) % 100 < 2 ^ 31 by omega) (by rw [q]; decide)
/-- the facts that a test of the taker p asks -/
def MF (τ : St) (p : Nat) (F : Nat → Int32) : Prop := ∀ f, f < 6 → f_M_factOf 0 (nI f) (nI p) τ = some (F f)
theorem MF_J {τ : St} {p : Nat} {F : Nat → Int32} {h : Nat → Int32} (hF : MF τ p F) : MF (sJ τ 17 h) p F := hF
theorem m_step {F : Nat → Int32} {c p a hi t d : Nat} {s : List Bool} {n : Nat} {τ : St} (hF : MF τ p F) (hc : c < 60) (hto : vJ τ 13 c = nI hi) (ha : a < hi) (hhi : hi ≤ 600) (ht : vJ τ 14 a = me t) (hd : dep1 t s.length = some d) (hs : s.length ≤ 30) (hp : PL (vJ τ 17) s) :
    ∃ h', PL h' (ev1 t F s) ∧ f_M_holds_l10 (n + 1) 0 (nI c) (nI p) (nI s.length) (nI a) τ = f_M_holds_l10 n 0 (nI c) (nI p) (nI d) (nI (a + 1)) (sJ τ 17 h') := by
  have h30 := dep1_30 hd hs
  rw [f_M_holds_l10, if_pos (ok_nI hc (by decide)), nx_nI (by omega), hto, if_neg (by rw [nIle (by omega) (by omega)]; omega), if_pos (ok_nI (by omega) (by decide)), nx_nI (by omega), ht, nI_1]
  simp only [st, nar_z0, nar_z1]
  by_cases h0 : t = 0
  · subst h0
    rw [me_0, if_pos rfl]
    cases s with
    | nil => simp [dep1] at hd
    | cons b s =>
      simp only [List.length_cons] at hd hs ⊢
      have e : d = s.length + 1 := by simp [dep1] at hd; omega
      subst e
      rw [nI_pred, if_pos (ok_nI (by omega) (by decide)), nx_nI (by omega), hp.1]
      cases b with
      | false =>
        rw [if_pos (show b2i false = 0 by decide), if_pos (ok_nI (by omega) (by decide))]
        exact ⟨_, PL_put (b := true) hp.2, rfl⟩
      | true =>
        rw [if_neg (show ¬ b2i true = 0 by decide), if_pos (ok_nI (by omega) (by decide))]
        exact ⟨_, PL_put (b := false) hp.2, rfl⟩
  · by_cases h1 : t = 1
    · subst h1
      rw [me_1, if_neg (by decide), if_neg (by decide), if_pos rfl]
      match s, hd, hs, hp with
      | [], hd, _, _ => simp [dep1] at hd
      | [b], hd, _, _ => simp [dep1] at hd
      | b :: a2 :: s, hd, hs, hp =>
        simp only [List.length_cons] at hd hs ⊢
        have e : d = s.length + 1 := by simp [dep1] at hd; omega
        subst e
        have hp1 := hp.1
        have hp2 := hp.2.1
        simp only [List.length_cons] at hp1
        rw [pk_m1, nI_pred, if_pos (ok_nI (by omega) (by decide)), nx_nI (by omega), hp2]
        cases a2 with
        | false =>
          rw [if_pos (show b2i false = 0 by decide), if_pos (ok_nI (by omega) (by decide))]
          exact ⟨_, by show PL _ ((false && b) :: s); exact PL_put (b := false) hp.2.2, rfl⟩
        | true =>
          rw [if_neg (show ¬ b2i true = 0 by decide), if_pos (ok_nI (by omega) (by decide)), nx_nI (by omega), hp1]
          cases b with
          | false =>
            rw [if_pos (show b2i false = 0 by decide), if_pos (ok_nI (by omega) (by decide))]
            exact ⟨_, by show PL _ ((true && false) :: s); exact PL_put (b := false) hp.2.2, rfl⟩
          | true =>
            rw [if_neg (show ¬ b2i true = 0 by decide), if_pos (ok_nI (by omega) (by decide))]
            exact ⟨_, by show PL _ ((true && true) :: s); exact PL_put (b := true) hp.2.2, rfl⟩
    · by_cases h2 : t = 2
      · subst h2
        rw [me_2, if_neg (by decide), if_neg (by decide), if_neg (by decide)]
        match s, hd, hs, hp with
        | [], hd, _, _ => simp [dep1] at hd
        | [b], hd, _, _ => simp [dep1] at hd
        | b :: a2 :: s, hd, hs, hp =>
          simp only [List.length_cons] at hd hs ⊢
          have e : d = s.length + 1 := by simp [dep1] at hd; omega
          subst e
          have hp1 := hp.1
          have hp2 := hp.2.1
          simp only [List.length_cons] at hp1
          rw [pk_m1, nI_pred, if_pos (ok_nI (by omega) (by decide)), nx_nI (by omega), hp2]
          cases a2 with
          | true =>
            rw [if_neg (show ¬ b2i true = 0 by decide), if_pos (ok_nI (by omega) (by decide))]
            exact ⟨_, by show PL _ ((true || b) :: s); exact PL_put (b := true) hp.2.2, rfl⟩
          | false =>
            rw [if_pos (show b2i false = 0 by decide), if_pos (ok_nI (by omega) (by decide)), nx_nI (by omega), hp1]
            cases b with
            | false =>
              rw [if_pos (show b2i false = 0 by decide), if_pos (ok_nI (by omega) (by decide))]
              exact ⟨_, by show PL _ ((false || false) :: s); exact PL_put (b := false) hp.2.2, rfl⟩
            | true =>
              rw [if_neg (show ¬ b2i true = 0 by decide), if_pos (ok_nI (by omega) (by decide))]
              exact ⟨_, by show PL _ ((false || true) :: s); exact PL_put (b := true) hp.2.2, rfl⟩
      · obtain ⟨g1, g2, rfl⟩ := dep1_t hd (by omega)
        obtain ⟨-, q1, q2, q3, q4, q5⟩ := me_parts (t := t) (by omega) g1
        have hf : (t - 3) / 300 < 6 := by omega
        rw [if_neg q5, if_pos q4, q1, hF _ hf, Option.bind_some, q2, q3]
        have e1 : ev1 t F s = tst t F :: s := by unfold ev1; rw [if_neg h0, if_neg h1, if_neg h2]
        rw [e1]
        refine ⟨upd (vJ τ 17) s.length (b2i (tst t F)), PL_put hp, ?_⟩
        have hok : ok (nI s.length) 100 = true := ok_nI (by omega) (by decide)
        simp only [hok, if_true, nx_nI (show s.length < 2 ^ 31 by omega), nI_1]
        unfold tst
        generalize F ((t - 3) / 300) = x
        generalize nI ((t - 3) % 100) = y
        have hz : (t - 3) / 100 % 3 < 3 := Nat.mod_lt _ (by decide)
        generalize (t - 3) / 100 % 3 = z at hz
        rcases (show z = 0 ∨ z = 1 ∨ z = 2 by omega) with rfl | rfl | rfl
        · simp only [show nI 0 = 0 by decide, if_true]
          by_cases hc : y ≤ x
          · rw [if_pos hc, decide_eq_false (Int32.not_lt.mpr hc)]
          · rw [if_neg hc, decide_eq_true (Int32.not_le.mp hc)]
        · simp only [show ¬ nI 1 = 0 by decide, show nI 1 = 1 by decide, show ¬ (1 : Int32) = 0 by decide, show ¬ (1 : Nat) = 0 by decide, if_true, if_false]
          by_cases hc : x = y
          · rw [if_pos hc, decide_eq_true hc]
          · rw [if_neg hc, decide_eq_false hc]
        · simp only [show ¬ nI 2 = 0 by decide, show ¬ nI 2 = 1 by decide, show ¬ (2 : Nat) = 0 by decide, show ¬ (2 : Nat) = 1 by decide, if_false]
          by_cases hc : x ≤ y
          · rw [if_pos hc, decide_eq_false (Int32.not_lt.mpr hc)]
          · rw [if_neg hc, decide_eq_true (Int32.not_le.mp hc)]
theorem m_ev {F : Nat → Int32} {c p : Nat} (hc : c < 60) (hi : Nat) (hhi : hi ≤ 600) : ∀ (L : List Nat) (a : Nat) (s : List Bool) (n d : Nat) (τ : St), MF τ p F → vJ τ 13 c = nI hi → a + L.length = hi → (∀ i, ∀ t, L[i]? = some t → vJ τ 14 (a + i) = me t) → dep L s.length = some d → s.length ≤ 30 → PL (vJ τ 17) s → L.length < n →
    ∃ h', PL h' (ev L F s) ∧ (ev L F s).length = d ∧ f_M_holds_l10 n 0 (nI c) (nI p) (nI s.length) (nI a) τ = some (sJ τ 17 h') := by
  intro L
  induction L with
  | nil =>
    intro a s n d τ hF hto ha hL hd hs hp hn
    obtain ⟨n, rfl⟩ : ∃ m, n = m + 1 := ⟨n - 1, by simp at hn; omega⟩
    simp only [dep, Option.some.injEq] at hd
    refine ⟨vJ τ 17, hp, hd, ?_⟩
    rw [f_M_holds_l10, if_pos (ok_nI hc (by decide)), nx_nI (by omega), hto, if_pos (by rw [nIle (by omega) (by simp at ha; omega)]; simp at ha; omega)]
    congr 1
    unfold sJ
    refine Prod.ext rfl (Prod.ext ?_ rfl)
    funext z
    show τ.2.1 z = up1 τ.2.1 17 (vJ τ 17) z
    unfold up1
    split
    · rename_i h; rw [h]; rfl
    · rfl
  | cons t L ih =>
    intro a s n d τ hF hto ha hL hd hs hp hn
    obtain ⟨n, rfl⟩ : ∃ m, n = m + 1 := ⟨n - 1, by simp at hn; omega⟩
    simp only [List.length_cons] at ha hn
    have ht : vJ τ 14 a = me t := hL 0 t rfl
    simp only [dep] at hd
    cases hd1 : dep1 t s.length with
    | none => rw [hd1] at hd; cases hd
    | some d1 =>
      rw [hd1, Option.bind_some] at hd
      obtain ⟨h1, hp1, e1⟩ := m_step (n := n) hF hc hto (by omega) hhi ht hd1 hs hp
      have hl1 := ev1_len (F := F) hd1
      obtain ⟨h2, hp2, hl2, e2⟩ := ih (a + 1) (ev1 t F s) n d (sJ τ 17 h1) (MF_J hF) hto (by omega) (fun i t' h' => by rw [show a + 1 + i = a + (i + 1) by omega]; exact hL (i + 1) t' (by simpa using h')) (by rw [hl1]; exact hd) (by rw [hl1]; exact dep1_30 hd1 hs) hp1 (by omega)
      refine ⟨h2, hp2, hl2, ?_⟩
      rw [e1, ← hl1, e2, sJ_sJ]
theorem m_holds {F : Nat → Int32} {c p a : Nat} {τ : St} {L : List Nat} (hF : MF τ p F) (hc : c < 60) (hf : vJ τ 12 c = nI a) (hto : vJ τ 13 c = nI (a + L.length)) (h : a + L.length ≤ 600) (hL6 : L.length ≤ 600) (hL : ∀ i, ∀ t, L[i]? = some t → vJ τ 14 (a + i) = me t) (hd : dep L 0 = some 1) : ∃ h', f_M_holds 0 (nI c) (nI p) τ = some ((ev L F []).headD false, sJ τ 17 h') := by
  obtain ⟨h', hp, hl, e⟩ := m_ev (F := F) hc (a + L.length) h L a [] FU 1 τ hF hto rfl hL hd (by decide) trivial (by unfold FU; omega)
  refine ⟨h', ?_⟩
  unfold f_M_holds
  rw [if_pos (ok_nI hc (by decide)), nx_nI (by omega), hf, show (0 : Int32) = nI ([] : List Bool).length by decide, e, Option.bind_some, if_pos (by decide)]
  match he : ev L F [], hl, hp with
  | [b], _, hp =>
    have hb : vJ (sJ τ 17 h') 17 (nx (nI ([] : List Bool).length)) = b2i b := hp.1
    rw [hb, if_pos (bz_b2i b), b2i_1]
    rfl
