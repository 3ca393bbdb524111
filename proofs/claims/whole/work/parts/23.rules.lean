/-! ===== PURE: a rule, held by both ===== -/
abbrev Cl : Type := Nat × Nat × List Nat
def XC (σ : St) (r i : Nat) (c : Cl) : Prop := vJ σ (r + 1) i = nI c.1 ∧ vJ σ (r + 2) i = nI c.2.1 ∧ c.1 < 4 ∧ c.2.1 < 100 ∧ (c.1 = 0 ∨ c.1 = 3 → ∃ a, vJ σ (r + 3) i = nI a ∧ vJ σ (r + 4) i = nI (a + c.2.2.length) ∧ a + c.2.2.length ≤ 100 ∧ dep c.2.2 0 = some 1 ∧ ∀ k t, c.2.2[k]? = some t → vJ σ (r + 5) (a + k) = xe t)
def leA (CL : List Cl) : Nat := CL.foldl (fun a c => if c.1 = 1 then c.2.1 else a) 5
def fuA (CL : List Cl) : Nat := CL.foldl (fun a c => if c.1 = 2 then 10 * c.2.1 else a) 200
def XR (σ : St) (r : Nat) (CL : List Cl) : Prop := CL.length ≤ 10 ∧ vI σ r 0 = nI CL.length ∧ vI σ r 7 = nI (leA CL) ∧ vI σ r 8 = nI (fuA CL) ∧ ∀ i c, CL[i]? = some c → XC σ r i c
def MC (τ : St) (j i : Nat) (c : Cl) : Prop := vJ τ 10 (10 * j + i) = nI c.1 ∧ vJ τ 11 (10 * j + i) = nI c.2.1 ∧ c.1 < 4 ∧ c.2.1 < 100 ∧ (c.1 = 0 ∨ c.1 = 3 → ∃ a, vJ τ 12 (10 * j + i) = nI a ∧ vJ τ 13 (10 * j + i) = nI (a + c.2.2.length) ∧ a + c.2.2.length ≤ 100 * j + 100 ∧ c.2.2.length ≤ 100 ∧ dep c.2.2 0 = some 1 ∧ ∀ k t, c.2.2[k]? = some t → vJ τ 14 (a + k) = me t)
def MR (τ : St) (j : Nat) (CL : List Cl) : Prop := CL.length ≤ 10 ∧ vJ τ 9 j = nI CL.length ∧ ∀ i c, CL[i]? = some c → MC τ j i c
def MH (τ : St) (CL : List Cl) : Prop := (CL = [] ∧ vI τ 0 11 = -1) ∨ ∃ j, j < 6 ∧ vI τ 0 11 = nI j ∧ MR τ j CL
def su1 (w : Nat) (F : Nat → Int32) (a : Int32) (c : Cl) : Int32 := if c.1 = w ∧ (ev c.2.2 F []).headD false = true then a + nI c.2.1 else a
def suA (w : Nat) (F : Nat → Int32) (CL : List Cl) : Int32 := CL.foldl (su1 w F) 0
theorem x_together_l {F : Nat → Int32} {r c w : Nat} {σ : St} {CL : List Cl} (hF : ∀ j, j < 6 → vJ σ c j = F j) (hR : XR σ r CL) (hw : w = 0 ∨ w = 3) : ∀ (L : List Cl) (i n : Nat) (a : Int32), CL.drop i = L → i ≤ CL.length → L.length < n → f_R_together_l5 n r (nI w) c a (nI i) σ = some (L.foldl (su1 w F) a) := by
  obtain ⟨h10, h0, -, -, hC⟩ := hR
  intro L
  induction L with
  | nil =>
    intro i n a hL hi hn
    obtain ⟨n, rfl⟩ : ∃ m, n = m + 1 := ⟨n - 1, by simp at hn; omega⟩
    have : CL.length ≤ i := List.drop_eq_nil_iff.mp hL
    rw [f_R_together_l5, h0, if_pos (by rw [nIle (by omega) (by omega)]; omega)]
    rfl
  | cons q L ih =>
    intro i n a hL hi hn
    obtain ⟨n, rfl⟩ : ∃ m, n = m + 1 := ⟨n - 1, by simp at hn; omega⟩
    simp only [List.length_cons] at hn
    have hlt : i < CL.length := by
      rcases Nat.lt_or_ge i CL.length with h | h
      · exact h
      · rw [List.drop_eq_nil_iff.mpr h] at hL; cases hL
    have hq : CL[i]? = some q := by
      have := congrArg (fun l : List Cl => l[0]?) hL
      simpa [List.getElem?_drop] using this
    have hL2 : CL.drop (i + 1) = L := by
      have := congrArg (fun l : List Cl => l.drop 1) hL
      simpa [List.drop_drop, Nat.add_comm] using this
    obtain ⟨w', nn, T⟩ := q
    obtain ⟨e1, e2, e3, e4, e5⟩ := hC i _ hq
    simp only at e1 e2 e3 e4 e5
    have hok : ok (nI i) 10 = true := ok_nI (by omega) (by decide)
    rw [f_R_together_l5, h0, if_neg (by rw [nIle (by omega) (by omega)]; omega)]
    simp only [hok, if_true, nx_nI (show i < 2 ^ 31 by omega), e1, e2, nI_1]
    rw [List.foldl_cons]
    by_cases hw2 : w' = w
    · subst hw2
      obtain ⟨b, g1, g2, g3, g4, g5⟩ := e5 hw
      rw [if_pos rfl, g1, g2, x_holds hF g3 g5 g4, Option.bind_some]
      cases hv : (ev T F []).headD false with
      | false =>
        rw [if_pos rfl, ih (i + 1) n a hL2 (by omega) (by omega)]
        simp only [su1, hv]
        simp
      | true =>
        rw [if_neg (by decide), ih (i + 1) n (a + nI nn) hL2 (by omega) (by omega)]
        simp only [su1, hv]
        simp
    · rw [if_neg (by rw [nIeq (by omega) (by omega)]; exact hw2), ih (i + 1) n a hL2 (by omega) (by omega)]
      simp only [su1, hw2]
      simp
theorem x_together {F : Nat → Int32} {r c w : Nat} {σ : St} {CL : List Cl} (hF : ∀ j, j < 6 → vJ σ c j = F j) (hR : XR σ r CL) (hw : w = 0 ∨ w = 3) : f_R_together r (nI w) c σ = some (suA w F CL) := by
  unfold f_R_together
  have := x_together_l hF hR hw CL 0 FU 0 rfl (Nat.zero_le _) (by have := hR.1; unfold FU; omega)
  rw [nI_0] at this
  rw [this]
  rfl
/-- where the held rule's clauses lie -/
theorem m_bounds {τ : St} {CL : List Cl} (h : MH τ CL) : ∃ b, b + CL.length ≤ 60 ∧ f_M_begin 0 τ = nI b ∧ f_M_behind 0 τ = some (nI (b + CL.length)) ∧ ∃ j, b = 10 * j ∧ ∀ i c, CL[i]? = some c → MC τ j i c := by
  rcases h with ⟨rfl, h⟩ | ⟨j, hj, h, h1, h2, h3⟩
  · refine ⟨0, by decide, ?_, ?_, 0, rfl, fun i c h => by simp at h⟩
    · unfold f_M_begin; rw [h, if_neg (by decide)]; decide
    · unfold f_M_behind; rw [h, if_neg (by decide)]; rfl
  · refine ⟨10 * j, by omega, ?_, ?_, j, rfl, h3⟩
    · unfold f_M_begin; rw [h, if_pos (nI_pos' (by omega)), show (10 : Int32) = nI 10 by decide, pk_mul]
    · unfold f_M_behind
      rw [h, if_pos (nI_pos' (by omega)), if_pos (ok_nI hj (by decide)), nx_nI (by omega), h2, show (10 : Int32) = nI 10 by decide, pk_mul, nI_add]
theorem MH_J {τ : St} {CL : List Cl} {h : Nat → Int32} (hR : MH τ CL) : MH (sJ τ 17 h) CL := hR
theorem m_sum_l {F : Nat → Int32} {p w : Nat} {CL : List Cl} (hw : w = 0 ∨ w = 3) {b j : Nat} (hb : b = 10 * j) (hb6 : b + CL.length ≤ 60) : ∀ (L : List Cl) (i n : Nat) (a : Int32) (τ : St), MF τ p F → f_M_behind 0 τ = some (nI (b + CL.length)) → (∀ i c, CL[i]? = some c → MC τ j i c) → CL.drop i = L → i ≤ CL.length → L.length < n → ∃ h', f_M_sumOf_l8 n 0 (nI w) (nI p) a (nI (b + i)) τ = some (L.foldl (su1 w F) a, sJ τ 17 h') := by
  intro L
  induction L with
  | nil =>
    intro i n a τ hF hbe hC hL hi hn
    obtain ⟨n, rfl⟩ : ∃ m, n = m + 1 := ⟨n - 1, by simp at hn; omega⟩
    have : CL.length ≤ i := List.drop_eq_nil_iff.mp hL
    refine ⟨vJ τ 17, ?_⟩
    rw [f_M_sumOf_l8, hbe, Option.bind_some, if_pos (by rw [nIle (by omega) (by omega)]; omega)]
    congr 2
    unfold sJ
    refine Prod.ext rfl (Prod.ext ?_ rfl)
    funext z
    show τ.2.1 z = up1 τ.2.1 17 (vJ τ 17) z
    unfold up1
    split
    · rename_i h; rw [h]; rfl
    · rfl
  | cons q L ih =>
    intro i n a τ hF hbe hC hL hi hn
    obtain ⟨n, rfl⟩ : ∃ m, n = m + 1 := ⟨n - 1, by simp at hn; omega⟩
    simp only [List.length_cons] at hn
    have hlt : i < CL.length := by
      rcases Nat.lt_or_ge i CL.length with h | h
      · exact h
      · rw [List.drop_eq_nil_iff.mpr h] at hL; cases hL
    have hq : CL[i]? = some q := by
      have := congrArg (fun l : List Cl => l[0]?) hL
      simpa [List.getElem?_drop] using this
    have hL2 : CL.drop (i + 1) = L := by
      have := congrArg (fun l : List Cl => l.drop 1) hL
      simpa [List.drop_drop, Nat.add_comm] using this
    obtain ⟨w', nn, T⟩ := q
    obtain ⟨e1, e2, e3, e4, e5⟩ := hC i _ hq
    simp only at e1 e2 e3 e4 e5
    rw [← hb] at e1 e2 e5
    have hok : ok (nI (b + i)) 60 = true := ok_nI (by omega) (by decide)
    rw [f_M_sumOf_l8, hbe, Option.bind_some, if_neg (by rw [nIle (by omega) (by omega)]; omega)]
    simp only [hok, if_true, nx_nI (show b + i < 2 ^ 31 by omega), e1, nI_1, Int32.add_zero]
    rw [List.foldl_cons]
    by_cases hw2 : w' = w
    · subst hw2
      obtain ⟨z, g1, g2, g3, g35, g4, g5⟩ := e5 hw
      obtain ⟨h1, eh⟩ := m_holds hF (by omega) g1 g2 (by omega) (by omega) g5 g4
      rw [if_pos rfl, eh, Option.bind_some]
      simp only
      rw [show vJ (sJ τ 17 h1) 11 (b + i) = nI nn from e2]
      cases hv : (ev T F []).headD false with
      | false =>
        rw [if_pos rfl]
        obtain ⟨h2, e⟩ := ih (i + 1) n a (sJ τ 17 h1) (MF_J hF) hbe hC hL2 (by omega) (by omega)
        refine ⟨h2, ?_⟩
        rw [show b + i + 1 = b + (i + 1) by omega, e, sJ_sJ]
        simp only [su1, hv]
        simp
      | true =>
        rw [if_neg (by decide)]
        obtain ⟨h2, e⟩ := ih (i + 1) n (a + nI nn) (sJ τ 17 h1) (MF_J hF) hbe hC hL2 (by omega) (by omega)
        refine ⟨h2, ?_⟩
        rw [show b + i + 1 = b + (i + 1) by omega, e, sJ_sJ]
        simp only [su1, hv]
        simp
    · obtain ⟨h2, e⟩ := ih (i + 1) n a τ hF hbe hC hL2 (by omega) (by omega)
      refine ⟨h2, ?_⟩
      rw [if_neg (by rw [nIeq (by omega) (by omega)]; exact hw2), show b + i + 1 = b + (i + 1) by omega, e]
      simp only [su1, hw2]
      simp
theorem m_sumOf {F : Nat → Int32} {p w : Nat} {CL : List Cl} {τ : St} (hF : MF τ p F) (hR : MH τ CL) (hw : w = 0 ∨ w = 3) : ∃ h', f_M_sumOf 0 (nI w) (nI p) τ = some (suA w F CL, sJ τ 17 h') := by
  obtain ⟨b, h1, h2, h3, j, h4, h5⟩ := m_bounds hR
  obtain ⟨h', e⟩ := m_sum_l hw h4 h1 CL 0 FU 0 τ hF h3 h5 rfl (Nat.zero_le _) (by unfold FU; omega)
  refine ⟨h', ?_⟩
  unfold f_M_sumOf
  rw [h2, show nI b = nI (b + 0) from rfl, e]
  rfl
theorem m_last_l {w d : Nat} {CL : List Cl} {τ : St} (hw : w < 4) {b j : Nat} (hb : b = 10 * j) (hb6 : b + CL.length ≤ 60) (hbe : f_M_behind 0 τ = some (nI (b + CL.length))) (hC : ∀ i c, CL[i]? = some c → MC τ j i c) : ∀ (L : List Cl) (i n a : Nat), CL.drop i = L → i ≤ CL.length → L.length < n → f_M_lastOf_l8 n 0 (nI w) (nI a) (nI (b + i)) τ = some (nI (L.foldl (fun a c => if c.1 = w then c.2.1 else a) a)) := by
  intro L
  induction L with
  | nil =>
    intro i n a hL hi hn
    obtain ⟨n, rfl⟩ : ∃ m, n = m + 1 := ⟨n - 1, by simp at hn; omega⟩
    have : CL.length ≤ i := List.drop_eq_nil_iff.mp hL
    rw [f_M_lastOf_l8, hbe, Option.bind_some, if_pos (by rw [nIle (by omega) (by omega)]; omega)]
    rfl
  | cons q L ih =>
    intro i n a hL hi hn
    obtain ⟨n, rfl⟩ : ∃ m, n = m + 1 := ⟨n - 1, by simp at hn; omega⟩
    simp only [List.length_cons] at hn
    have hlt : i < CL.length := by
      rcases Nat.lt_or_ge i CL.length with h | h
      · exact h
      · rw [List.drop_eq_nil_iff.mpr h] at hL; cases hL
    have hq : CL[i]? = some q := by
      have := congrArg (fun l : List Cl => l[0]?) hL
      simpa [List.getElem?_drop] using this
    have hL2 : CL.drop (i + 1) = L := by
      have := congrArg (fun l : List Cl => l.drop 1) hL
      simpa [List.drop_drop, Nat.add_comm] using this
    obtain ⟨w', nn, T⟩ := q
    obtain ⟨e1, e2, e3, e4, e5⟩ := hC i _ hq
    simp only at e1 e2 e3 e4 e5
    rw [← hb] at e1 e2 e5
    have hok : ok (nI (b + i)) 60 = true := ok_nI (by omega) (by decide)
    rw [f_M_lastOf_l8, hbe, Option.bind_some, if_neg (by rw [nIle (by omega) (by omega)]; omega)]
    simp only [hok, if_true, nx_nI (show b + i < 2 ^ 31 by omega), e1, e2, nI_1]
    rw [List.foldl_cons]
    by_cases hw2 : w' = w
    · rw [if_pos (by rw [hw2]), show b + i + 1 = b + (i + 1) by omega, ih (i + 1) n nn hL2 (by omega) (by omega)]
      simp only [hw2, if_true]
    · rw [if_neg (by rw [nIeq (by omega) (by omega)]; exact hw2), show b + i + 1 = b + (i + 1) by omega, ih (i + 1) n a hL2 (by omega) (by omega)]
      simp only [hw2, if_false]
theorem m_lastOf {w a : Nat} {CL : List Cl} {τ : St} (hR : MH τ CL) (hw : w < 4) : f_M_lastOf 0 (nI w) (nI a) τ = some (nI (CL.foldl (fun a c => if c.1 = w then c.2.1 else a) a)) := by
  obtain ⟨b, h1, h2, h3, j, h4, h5⟩ := m_bounds hR
  have e := m_last_l (d := 0) hw h4 h1 h3 h5 CL 0 FU a rfl (Nat.zero_le _) (by unfold FU; omega)
  unfold f_M_lastOf
  rw [h2, show nI b = nI (b + 0) from rfl, e]
  rfl
theorem fu_10 (CL : List Cl) : ∀ a, CL.foldl (fun a c => if c.1 = 2 then 10 * c.2.1 else a) (10 * a) = 10 * CL.foldl (fun a c => if c.1 = 2 then c.2.1 else a) a := by
  induction CL with
  | nil => intro a; rfl
  | cons c CL ih =>
    intro a
    rw [List.foldl_cons, List.foldl_cons]
    split
    · exact ih _
    · exact ih _
theorem m_least {CL : List Cl} {τ : St} (hR : MH τ CL) (h : vI τ 0 27 = -1) : f_M_leastNow 0 τ = some (nI (leA CL)) := by
  unfold f_M_leastNow
  rw [h, if_neg (by decide), show (1 : Int32) = nI 1 by decide, show (5 : Int32) = nI 5 by decide, m_lastOf hR (by decide)]
  rfl
theorem m_full {CL : List Cl} {τ : St} (hR : MH τ CL) (h : vI τ 0 28 = -1) : f_M_fullNow 0 τ = some (nI (fuA CL)) := by
  unfold f_M_fullNow
  rw [h, if_neg (by decide), show (2 : Int32) = nI 2 by decide, show (20 : Int32) = nI 20 by decide, m_lastOf hR (by decide), Option.bind_some, show (10 : Int32) = nI 10 by decide, pk_mul]
  unfold fuA
  rw [show (200 : Nat) = 10 * 20 from rfl, fu_10]
