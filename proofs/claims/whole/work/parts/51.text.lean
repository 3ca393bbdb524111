/-! ===== PURE: the text's signs, as both read them ===== -/
theorem sI_self (σ : St) (c f : Nat) : sI σ c f (vI σ c f) = σ := by
  unfold sI
  refine Prod.ext ?_ rfl
  funext z y
  show up1 σ.1 c (up1 (σ.1 c) f (vI σ c f)) z y = σ.1 z y
  unfold up1
  by_cases h : z = c
  · subst h
    by_cases h2 : y = f
    · simp only [if_true, h2]; rfl
    · simp only [if_true, h2, if_false]
  · simp only [h, if_false]
theorem sI_sI (σ : St) (c f : Nat) (v w : Int32) : sI (sI σ c f v) c f w = sI σ c f w := by
  unfold sI
  refine Prod.ext ?_ rfl
  funext z y
  show up1 (up1 σ.1 c (up1 (σ.1 c) f v)) c (up1 (up1 σ.1 c (up1 (σ.1 c) f v) c) f w) z y = up1 σ.1 c (up1 (σ.1 c) f w) z y
  unfold up1
  by_cases h : z = c
  · subst h
    by_cases h2 : y = f
    · simp only [if_true, h2]
    · simp only [if_true, h2, if_false]
  · simp only [h, if_false]
theorem sI_cm (σ : St) (c f f' : Nat) (v w : Int32) (hf : f ≠ f') : sI (sI σ c f v) c f' w = sI (sI σ c f' w) c f v := by
  unfold sI
  refine Prod.ext ?_ rfl
  funext z y
  show up1 (up1 σ.1 c (up1 (σ.1 c) f v)) c (up1 (up1 σ.1 c (up1 (σ.1 c) f v) c) f' w) z y = up1 (up1 σ.1 c (up1 (σ.1 c) f' w)) c (up1 (up1 σ.1 c (up1 (σ.1 c) f' w) c) f v) z y
  unfold up1
  by_cases h : z = c
  · subst h
    by_cases h2 : y = f
    · have h3 : ¬ y = f' := fun e => hf (h2.symm.trans e)
      simp only [if_true, h2, hf, if_false]
    · by_cases h3 : y = f'
      · simp only [if_true, h3, Ne.symm hf, if_false]
      · simp only [if_true, h2, h3, if_false]
  · simp only [h, if_false]
/-- the sign at a -/
def sg (T : Nat → Nat) (s a : Nat) : Int32 := if a < s then nI (T a) else -1
def XT (T : Nat → Nat) (s a : Nat) (σ : St) : Prop := (s ≤ 100 ∧ a ≤ s) ∧ vI σ 84 1 = nI s ∧ vI σ 84 2 = nI a ∧ ∀ i, i < s → T i < 128 ∧ vJ σ 85 i = nI (T i)
def MT (T : Nat → Nat) (s a : Nat) (τ : St) : Prop := (s ≤ 100 ∧ a ≤ s) ∧ vI τ 0 12 = nI s ∧ vI τ 0 13 = nI a ∧ ∀ i, i < s → T i < 128 ∧ vJ τ 8 i = nI (T i)
theorem x_sign {T : Nat → Nat} {s a : Nat} {σ : St} (h : XT T s a σ) : f_E_sign 84 σ = some (sg T s a) := by
  obtain ⟨⟨h1, h2⟩, h3, h4, h5⟩ := h
  unfold f_E_sign sg
  rw [h3, h4]
  by_cases hc : a < s
  · rw [if_neg (by rw [nIle (by omega) (by omega)]; omega), if_neg (by rw [show (100 : Int32) = nI 100 by decide, nIle (by decide) (by omega)]; omega), if_pos (ok_nI (by omega) (by decide)), nx_nI (by omega), if_pos hc]
    exact congrArg some (h5 a hc).2
  · rw [if_pos (by rw [nIle (by omega) (by omega)]; omega), if_neg hc]
theorem m_peek {T : Nat → Nat} {s a : Nat} {τ : St} (h : MT T s a τ) : f_M_peek 0 τ = some (sg T s a) := by
  obtain ⟨⟨h1, h2⟩, h3, h4, h5⟩ := h
  unfold f_M_peek sg
  rw [h3, h4]
  by_cases hc : a < s
  · rw [if_neg (by rw [nIle (by omega) (by omega)]; omega), if_pos (ok_nI (by omega) (by decide)), nx_nI (by omega), if_pos hc]
    exact congrArg some (h5 a hc).2
  · rw [if_pos (by rw [nIle (by omega) (by omega)]; omega), if_neg hc]
theorem XT.to {T : Nat → Nat} {s a a' : Nat} {σ : St} (h : XT T s a σ) (ha : a' ≤ s) : XT T s a' (sI σ 84 2 (nI a')) := ⟨⟨h.1.1, ha⟩, h.2.1, rfl, h.2.2.2⟩
theorem MT.to {T : Nat → Nat} {s a a' : Nat} {τ : St} (h : MT T s a τ) (ha : a' ≤ s) : MT T s a' (sI τ 0 13 (nI a')) := ⟨⟨h.1.1, ha⟩, h.2.1, rfl, h.2.2.2⟩
theorem XT.sf {T : Nat → Nat} {s a : Nat} {σ : St} (h : XT T s a σ) : sI σ 84 2 (nI a) = σ := by rw [← h.2.2.1, sI_self]
theorem MT.sf {T : Nat → Nat} {s a : Nat} {τ : St} (h : MT T s a τ) : sI τ 0 13 (nI a) = τ := by rw [← h.2.2.1, sI_self]
theorem sg_lt {T : Nat → Nat} {s a : Nat} {c : Int32} (h : sg T s a = c) (hc : c ≠ -1) : a < s := by
  unfold sg at h
  by_cases ha : a < s
  · exact ha
  · rw [if_neg ha] at h; exact absurd h.symm hc
theorem x_skips {T : Nat → Nat} {s a : Nat} {σ : St} (h : XT T s a σ) (c : Int32) : f_E_skips 84 c σ = if sg T s a = c then some (true, sI σ 84 2 (nI (a + 1))) else some (false, σ) := by
  unfold f_E_skips
  rw [x_sign h, Option.bind_some]
  simp only [st, h.2.2.1, nI_1]
theorem m_reads {T : Nat → Nat} {s a : Nat} {τ : St} (h : MT T s a τ) (c : Int32) : f_M_reads 0 c τ = if sg T s a = c then some (true, sI τ 0 13 (nI (a + 1))) else some (false, τ) := by
  unfold f_M_reads
  rw [m_peek h, Option.bind_some]
  simp only [st, h.2.2.1, nI_1]
/-- as much of a word as stands there -/
def mt (T : Nat → Nat) (s : Nat) : List Nat → Nat → Bool × Nat
  | [], a => (true, a)
  | b :: w, a => if sg T s a = nI b then mt T s w (a + 1) else (false, a)
theorem mt_t {T : Nat → Nat} {s b a : Nat} {w : List Nat} (h : sg T s a = nI b) : mt T s (b :: w) a = mt T s w (a + 1) := if_pos h
theorem mt_n {T : Nat → Nat} {s b a : Nat} {w : List Nat} (h : ¬ sg T s a = nI b) : mt T s (b :: w) a = (false, a) := if_neg h
theorem n_tf : ¬ true = false := by decide
theorem n_ft : ¬ false = true := by decide
theorem nI_m1 {b : Nat} (h : b < 128) : nI b ≠ -1 := nIm1 (by omega)
theorem mt_le {T : Nat → Nat} {s : Nat} : ∀ (w : List Nat) (a : Nat), (∀ b, b ∈ w → b < 128) → a ≤ s → a ≤ (mt T s w a).2 ∧ (mt T s w a).2 ≤ s ∧ ((mt T s w a).1 = true → (mt T s w a).2 = a + w.length) := by
  intro w
  induction w with
  | nil => intro a _ ha; exact ⟨Nat.le_refl _, ha, fun _ => rfl⟩
  | cons b w ih =>
    intro a hw ha
    by_cases h : sg T s a = nI b
    · rw [mt_t h]
      have hlt := sg_lt h (nI_m1 (hw b List.mem_cons_self))
      obtain ⟨h1, h2, h3⟩ := ih (a + 1) (fun q hq => hw q (List.mem_cons_of_mem _ hq)) (by omega)
      refine ⟨by omega, h2, fun q => ?_⟩
      rw [h3 q, List.length_cons]; omega
    · rw [mt_n h]
      exact ⟨Nat.le_refl _, ha, fun q => by cases q⟩
theorem mt_app {T : Nat → Nat} {s : Nat} (v : List Nat) : ∀ (u : List Nat) (a : Nat), mt T s (u ++ v) a = if (mt T s u a).1 = true then mt T s v (mt T s u a).2 else mt T s u a := by
  intro u
  induction u with
  | nil => intro a; simp [mt]
  | cons b u ih =>
    intro a
    rw [List.cons_append]
    by_cases h : sg T s a = nI b
    · rw [mt_t h, mt_t h, ih]
    · rw [mt_n h, mt_n h, if_neg n_ft]
theorem x_words_l {T : Nat → Nat} {s c : Nat} {w0 : List Nat} (hl : f_jS_length c = some (nI w0.length)) (hc : ∀ i, i < w0.length → f_jS_charAt c (nI i) = some (nI (w0.getD i 0))) (h8 : ∀ b, b ∈ w0 → b < 128) (hb : w0.length < 100) : ∀ (w : List Nat) (i n a : Nat) (σ : St), w0.drop i = w → i ≤ w0.length → XT T s a σ → w.length < n → f_E_words_l2 n 84 c (nI i) σ = if (mt T s w a).1 = true then some (Sum.inl (sI σ 84 2 (nI (mt T s w a).2))) else some (Sum.inr (false, sI σ 84 2 (nI (mt T s w a).2))) := by
  intro w
  induction w with
  | nil =>
    intro i n a σ hw hi h hn
    obtain ⟨n, rfl⟩ : ∃ z, n = z + 1 := ⟨n - 1, by simp at hn; omega⟩
    have : w0.length ≤ i := List.drop_eq_nil_iff.mp hw
    rw [f_E_words_l2, hl, Option.bind_some, if_pos (by rw [nIle (by omega) (by omega)]; omega)]
    simp only [mt, if_true, h.sf]
  | cons b w ih =>
    intro i n a σ hw hi h hn
    obtain ⟨n, rfl⟩ : ∃ z, n = z + 1 := ⟨n - 1, by simp at hn; omega⟩
    simp only [List.length_cons] at hn
    have hlt : i < w0.length := by
      rcases Nat.lt_or_ge i w0.length with h | h
      · exact h
      · rw [List.drop_eq_nil_iff.mpr h] at hw; cases hw
    have hq : w0[i]? = some b := by
      have := congrArg (fun l : List Nat => l[0]?) hw
      simpa [List.getElem?_drop] using this
    have hL2 : w0.drop (i + 1) = w := by
      have := congrArg (fun l : List Nat => l.drop 1) hw
      simpa [List.drop_drop, Nat.add_comm] using this
    have hg : w0.getD i 0 = b := by rw [List.getD_eq_getElem?_getD, hq]; rfl
    have hbm : b ∈ w0 := List.mem_of_getElem? hq
    rw [f_E_words_l2, hl, Option.bind_some, if_neg (by rw [nIle (by omega) (by omega)]; omega), hc i hlt, hg, Option.bind_some, x_skips h]
    by_cases hs : sg T s a = nI b
    · have ha := sg_lt hs (nI_m1 (h8 b hbm))
      rw [if_pos hs, mt_t hs, Option.bind_some, if_neg n_tf, nI_1, ih (i + 1) n (a + 1) _ hL2 (by omega) (h.to (by omega)) (by omega), sI_sI]
    · rw [if_neg hs, mt_n hs, Option.bind_some, if_pos rfl, if_neg n_ft, h.sf]
theorem x_words {T : Nat → Nat} {s c a : Nat} {w0 : List Nat} {σ : St} (hl : f_jS_length c = some (nI w0.length)) (hc : ∀ i, i < w0.length → f_jS_charAt c (nI i) = some (nI (w0.getD i 0))) (h8 : ∀ b, b ∈ w0 → b < 128) (hb : w0.length < 100) (h : XT T s a σ) : f_E_words 84 c σ = some ((mt T s w0 a).1, sI σ 84 2 (nI (mt T s w0 a).2)) := by
  unfold f_E_words
  have e := x_words_l hl hc h8 hb w0 0 FU a σ rfl (Nat.zero_le _) h (by unfold FU; omega)
  rw [nI_0] at e
  rw [e]
  by_cases q : (mt T s w0 a).1 = true
  · rw [if_pos q, Option.bind_some, q]; rfl
  · rw [if_neg q, Option.bind_some, Bool.eq_false_iff.mpr q]; rfl
theorem m_word_l {T : Nat → Nat} {s p : Nat} {w0 : List Nat} (hp : p + w0.length ≤ 16) (h8 : ∀ b, b ∈ w0 → b < 128) : ∀ (w : List Nat) (i n a : Nat) (τ : St), w0.drop i = w → i ≤ w0.length → MT T s a τ → (∀ i, i < w0.length → vJ τ 16 (p + i) = nI (w0.getD i 0)) → w.length < n → f_M_takesWord_l2 n 0 (nI p) (nI w0.length) (nI i) τ = if (mt T s w a).1 = true then some (Sum.inl (sI τ 0 13 (nI (mt T s w a).2))) else some (Sum.inr (false, sI τ 0 13 (nI (mt T s w a).2))) := by
  intro w
  induction w with
  | nil =>
    intro i n a τ hw hi h hr hn
    obtain ⟨n, rfl⟩ : ∃ z, n = z + 1 := ⟨n - 1, by simp at hn; omega⟩
    have : w0.length ≤ i := List.drop_eq_nil_iff.mp hw
    rw [f_M_takesWord_l2, if_pos (by rw [nIle (by omega) (by omega)]; omega)]
    simp only [mt, if_true, h.sf]
  | cons b w ih =>
    intro i n a τ hw hi h hr hn
    obtain ⟨n, rfl⟩ : ∃ z, n = z + 1 := ⟨n - 1, by simp at hn; omega⟩
    simp only [List.length_cons] at hn
    have hlt : i < w0.length := by
      rcases Nat.lt_or_ge i w0.length with h | h
      · exact h
      · rw [List.drop_eq_nil_iff.mpr h] at hw; cases hw
    have hq : w0[i]? = some b := by
      have := congrArg (fun l : List Nat => l[0]?) hw
      simpa [List.getElem?_drop] using this
    have hL2 : w0.drop (i + 1) = w := by
      have := congrArg (fun l : List Nat => l.drop 1) hw
      simpa [List.drop_drop, Nat.add_comm] using this
    have hg : w0.getD i 0 = b := by rw [List.getD_eq_getElem?_getD, hq]; rfl
    have hbm : b ∈ w0 := List.mem_of_getElem? hq
    rw [f_M_takesWord_l2, if_neg (by rw [nIle (by omega) (by omega)]; omega), nI_add, if_pos (ok_nI (by omega) (by decide)), nx_nI (by omega), hr i hlt, hg, m_reads h]
    by_cases hs : sg T s a = nI b
    · have ha := sg_lt hs (nI_m1 (h8 b hbm))
      rw [if_pos hs, mt_t hs, Option.bind_some, if_neg n_tf, nI_1, ih (i + 1) n (a + 1) _ hL2 (by omega) (h.to (by omega)) hr (by omega), sI_sI]
    · rw [if_neg hs, mt_n hs, Option.bind_some, if_pos rfl, if_neg n_ft, h.sf]
theorem m_word {T : Nat → Nat} {s p a : Nat} {w0 : List Nat} {τ : St} (hp : p + w0.length ≤ 16) (h8 : ∀ b, b ∈ w0 → b < 128) (h : MT T s a τ) (hr : ∀ i, i < w0.length → vJ τ 16 (p + i) = nI (w0.getD i 0)) : f_M_takesWord 0 (nI p) (nI w0.length) τ = some ((mt T s (w0 ++ [32]) a).1, sI τ 0 13 (nI (mt T s (w0 ++ [32]) a).2)) := by
  unfold f_M_takesWord
  have e := m_word_l hp h8 w0 0 FU a τ rfl (Nat.zero_le _) h hr (by unfold FU; omega)
  rw [nI_0] at e
  obtain ⟨l1, l2, l3⟩ := mt_le (T := T) w0 a h8 h.1.2
  rw [e, mt_app]
  by_cases q : (mt T s w0 a).1 = true
  · rw [if_pos q, if_pos q, Option.bind_some]
    show ((f_M_reads 0 32 (sI τ 0 13 (nI (mt T s w0 a).2))).bind fun q10 => some (q10.1, q10.2)) = _
    rw [m_reads (h.to l2)]
    have e2 : mt T s [32] (mt T s w0 a).2 = if sg T s (mt T s w0 a).2 = nI 32 then (true, (mt T s w0 a).2 + 1) else (false, (mt T s w0 a).2) := rfl
    rw [e2, show (32 : Int32) = nI 32 by decide]
    by_cases hs : sg T s (mt T s w0 a).2 = nI 32
    · rw [if_pos hs, if_pos hs, Option.bind_some, sI_sI]
    · rw [if_neg hs, if_neg hs, Option.bind_some]
  · rw [if_neg q, if_neg q, Option.bind_some, Bool.eq_false_iff.mpr q]; rfl
/-- one or two digits: whether there are any, their number, where it goes on -/
def nu (T : Nat → Nat) (s a : Nat) : Bool × Int32 × Nat := if f_E_isDigit (sg T s a) = false then (false, 0, a) else if f_E_isDigit (sg T s (a + 1)) = false then (true, sg T s a - 48, a + 1) else (true, 10 * (sg T s a - 48) + sg T s (a + 1) - 48, a + 2)
theorem dg_lt {T : Nat → Nat} {s a : Nat} (h : ¬ f_E_isDigit (sg T s a) = false) : a < s := by
  by_cases ha : a < s
  · exact ha
  · exfalso; apply h; unfold sg; rw [if_neg ha]; decide
theorem x_number {T : Nat → Nat} {s a : Nat} {σ : St} (h : XT T s a σ) : f_E_number 84 σ = some (if (nu T s a).1 = true then (nu T s a).2.1 else -1, sI σ 84 2 (nI (nu T s a).2.2)) := by
  unfold f_E_number nu
  rw [x_sign h, Option.bind_some]
  by_cases h1 : f_E_isDigit (sg T s a) = false
  · rw [if_pos h1, if_pos h1, if_neg n_ft, h.sf]
  have hl := dg_lt h1
  rw [if_neg h1, if_neg h1, Option.bind_some]
  have h' : XT T s (a + 1) (sI σ 84 2 (nI (a + 1))) := h.to (by omega)
  simp only [st, h.2.2.1, nI_1]
  rw [x_sign h', Option.bind_some]
  by_cases h2 : f_E_isDigit (sg T s (a + 1)) = false
  · rw [if_pos h2, if_pos h2, if_pos rfl]
  rw [if_neg h2, if_neg h2, Option.bind_some, if_pos rfl, h'.2.2.1, nI_1, sI_sI]
theorem mdg (x : Int32) : f_M_in 0 x 48 57 = f_E_isDigit x := rfl
theorem m_isDigit {T : Nat → Nat} {s a : Nat} {τ : St} (h : MT T s a τ) : f_M_isDigit 0 τ = some (f_E_isDigit (sg T s a)) := by
  unfold f_M_isDigit
  rw [m_peek h, Option.bind_some, mdg]
theorem m_number {T : Nat → Nat} {s a : Nat} {τ : St} (h : MT T s a τ) : f_M_takesNumber 0 τ = some ((nu T s a).1, if (nu T s a).1 = true then sI (sI τ 0 14 (nu T s a).2.1) 0 13 (nI (nu T s a).2.2) else τ) := by
  unfold f_M_takesNumber nu
  rw [m_isDigit h, Option.bind_some]
  by_cases h1 : f_E_isDigit (sg T s a) = false
  · rw [if_pos h1, if_pos h1, if_neg n_ft]
  have hl := dg_lt h1
  rw [if_neg h1, if_neg h1]
  simp only [st]
  have h0 : MT T s a (sI τ 0 14 0) := h
  have h0' : ∀ v : Int32, MT T s (a + 1) (sI (sI τ 0 14 v) 0 13 (nI (a + 1))) := fun v => MT.to (a := a) (show MT T s a (sI τ 0 14 v) from h) (by omega)
  rw [show FU = 997 + 1 + 1 + 1 by rfl, f_M_takesNumber_l16, if_neg (by decide), m_isDigit h0, Option.bind_some, if_neg h1, m_peek h0, Option.bind_some]
  simp only [st]
  have e1 : vI (sI (sI τ 0 14 0) 0 14 (10 * vI (sI τ 0 14 0) 0 14 + sg T s a - 48)) 0 13 = nI a := h.2.2.1
  have e0 : (10 * vI (sI τ 0 14 0) 0 14 + sg T s a - 48 : Int32) = sg T s a - 48 := by
    rw [show vI (sI τ 0 14 0) 0 14 = 0 from rfl, Int32.mul_zero, Int32.zero_add]
  rw [e1, e0, sI_sI, nI_1, f_M_takesNumber_l16, if_neg (by decide), m_isDigit (h0' _), Option.bind_some]
  by_cases h2 : f_E_isDigit (sg T s (a + 1)) = false
  · rw [if_pos h2, if_pos h2, if_pos rfl, Option.bind_some]
  rw [if_neg h2, if_neg h2, if_pos rfl, m_peek (h0' _), Option.bind_some]
  simp only [st]
  rw [f_M_takesNumber_l16, if_pos (by decide), Option.bind_some]
  have n1 : vI (sI (sI τ 0 14 (sg T s a - 48)) 0 13 (nI (a + 1))) 0 14 = sg T s a - 48 := rfl
  have n2 : ∀ v : Int32, vI (sI (sI (sI τ 0 14 (sg T s a - 48)) 0 13 (nI (a + 1))) 0 14 v) 0 13 + 1 = nI (a + 2) := fun v => nI_1 _
  rw [n1, n2, sI_cm (sI τ 0 14 (sg T s a - 48)) 0 13 14 _ _ (by decide), sI_sI, sI_sI]
theorem dg_n {x : Int32} (h : ¬ f_E_isDigit x = false) : ∃ k, k < 10 ∧ x = nI (48 + k) := by
  obtain ⟨i, h1, h2, h3⟩ := in_t (p := x) (x := 48) (y := 57) (a := 48) (b := 57) (by rw [mdg]; simpa using h) (by decide) (by decide) (by decide) (by decide)
  exact ⟨i - 48, by omega, by rw [h3]; congr 1; omega⟩
theorem nu_n {T : Nat → Nat} {s a : Nat} (h : (nu T s a).1 = true) : ∃ k, k < 100 ∧ (nu T s a).2.1 = nI k ∧ a + 1 ≤ (nu T s a).2.2 ∧ (nu T s a).2.2 ≤ s := by
  unfold nu at h ⊢
  by_cases h1 : f_E_isDigit (sg T s a) = false
  · rw [if_pos h1] at h; cases h
  have hl := dg_lt h1
  obtain ⟨k, hk, ek⟩ := dg_n h1
  have d1 : ∀ k, k < 10 → nI (48 + k) - 48 = nI k := by decide
  have d2 : ∀ k, k < 10 → ∀ j, j < 10 → 10 * nI k + nI (48 + j) - 48 = nI (10 * k + j) := by decide
  rw [if_neg h1]
  by_cases h2 : f_E_isDigit (sg T s (a + 1)) = false
  · rw [if_pos h2]
    exact ⟨k, by omega, by show sg T s a - 48 = _; rw [ek, d1 k hk], Nat.le_refl _, hl⟩
  · have hl2 := dg_lt h2
    obtain ⟨j, hj, ej⟩ := dg_n h2
    rw [if_neg h2]
    exact ⟨10 * k + j, by omega, by show 10 * (sg T s a - 48) + sg T s (a + 1) - 48 = _; rw [ek, d1 k hk, ej, d2 k hk j hj], by show a + 1 ≤ a + 2; omega, hl2⟩
theorem nu_f {T : Nat → Nat} {s a : Nat} (h : ¬ (nu T s a).1 = true) : (nu T s a).2.2 = a := by
  unfold nu at h ⊢
  by_cases h1 : f_E_isDigit (sg T s a) = false
  · rw [if_pos h1]
  · rw [if_neg h1] at h
    by_cases h2 : f_E_isDigit (sg T s (a + 1)) = false
    · rw [if_pos h2] at h; exact absurd rfl h
    · rw [if_neg h2] at h; exact absurd rfl h
theorem place_x : ∀ b, b < 128 → f_jS_indexOf_1 0 ((nI b).toUInt32 % 65536).toInt32 = some (f_M_place 0 (nI b)) := by decide +kernel
theorem place_6 : ∀ b, b < 128 → 0 ≤ f_M_place 0 (nI b) → f_M_place 0 (nI b) = nI 0 ∨ f_M_place 0 (nI b) = nI 1 ∨ f_M_place 0 (nI b) = nI 2 ∨ f_M_place 0 (nI b) = nI 3 ∨ f_M_place 0 (nI b) = nI 4 ∨ f_M_place 0 (nI b) = nI 5 := by decide +kernel
theorem tok_x : ∀ k, k < 6 → ∀ z, z < 3 → ∀ m, m < 100 → f_R_test (nI k) (nI (60 + z)) (nI m) = xe (3 + 300 * k + 100 * z + m) ∧ 1000 * nI k + 100 * (nI (60 + z) - 60) + nI m = me (3 + 300 * k + 100 * z + m) := by decide +kernel
theorem sg_c {T : Nat → Nat} {s a : Nat} {σ : St} (h : XT T s a σ) : sg T s a = -1 ∨ (a < s ∧ ∃ b, b < 128 ∧ sg T s a = nI b) := by
  unfold sg
  by_cases ha : a < s
  · rw [if_pos ha]; exact Or.inr ⟨ha, _, (h.2.2.2 a ha).1, rfl⟩
  · rw [if_neg ha]; exact Or.inl rfl
/-- a test: both take it, or neither -/
theorem test2 {T : Nat → Nat} {s a : Nat} {σ τ : St} (hx : XT T s a σ) (ht : tg BX (vH σ 84) 1) (hm : MT T s a τ) :
    (∃ t a' n, 3 ≤ t ∧ t < 1803 ∧ a + 3 ≤ a' ∧ a' ≤ s ∧ f_E_test 84 σ = ((f_R_step (vH σ 84) (xe t) (sI σ 84 2 (nI a'))).bind fun q => some (true, q)) ∧ f_M_takesTest 0 τ = ((f_M_emits 0 (me t) (sI (sI τ 0 14 n) 0 13 (nI a'))).bind fun q => (f_M_whole 0 q).bind fun q => some (true, q))) ∨
    (∃ a', a' ≤ s ∧ f_E_test 84 σ = some (false, sI σ 84 2 (nI a')) ∧ f_M_takesTest 0 τ = some (false, sI τ 0 13 (nI a'))) := by
  unfold f_E_test f_M_takesTest
  rw [x_sign hx, m_peek hm, Option.bind_some, Option.bind_some, Option.bind_some]
  rcases sg_c hx with e | ⟨ha, b, hb, e⟩
  · rw [e, if_neg (by decide), Option.bind_some, if_neg (by decide), if_neg (by decide)]
    exact Or.inr ⟨a, hx.1.2, by rw [hx.sf], by rw [hm.sf]⟩
  rw [e, if_pos (nI_pos' (by omega)), place_x b hb, Option.bind_some, Option.bind_some]
  by_cases hp : 0 ≤ f_M_place 0 (nI b)
  · have h6 := place_6 b hb hp
    obtain ⟨k, hk, ek⟩ : ∃ k, k < 6 ∧ f_M_place 0 (nI b) = nI k := by
      rcases h6 with q | q | q | q | q | q
      · exact ⟨0, by decide, q⟩
      · exact ⟨1, by decide, q⟩
      · exact ⟨2, by decide, q⟩
      · exact ⟨3, by decide, q⟩
      · exact ⟨4, by decide, q⟩
      · exact ⟨5, by decide, q⟩
    rw [if_pos hp, if_pos hp, ek]
    have hx1 : XT T s (a + 1) (sI σ 84 2 (nI (a + 1))) := hx.to (by omega)
    have hm1 : MT T s (a + 1) (sI τ 0 13 (nI (a + 1))) := hm.to (by omega)
    simp only [st, hx.2.2.1, hm.2.2.1, nI_1]
    rw [x_sign hx1, m_peek hm1, Option.bind_some, Option.bind_some]
    have key : ∀ z, z < 3 → sg T s (a + 1) = nI (60 + z) → ∀ G : Option (Bool × St), G = ((f_E_number 84 (sI (sI σ 84 2 (nI (a + 1))) 84 2 (vI (sI σ 84 2 (nI (a + 1))) 84 2 + 1))).bind fun q21 => (if 0 ≤ q21.1 then (if tgb BX (vH q21.2 84) 1 = true then ((f_R_step (vH q21.2 84) (f_R_test (nI k) (nI (60 + z)) q21.1) q21.2).bind fun q25 => some (true, q25)) else none) else some (false, q21.2))) → (∃ t a' n, 3 ≤ t ∧ t < 1803 ∧ a + 3 ≤ a' ∧ a' ≤ s ∧ G = ((f_R_step (vH σ 84) (xe t) (sI σ 84 2 (nI a'))).bind fun q => some (true, q)) ∧ (if f_M_in 0 (nI (60 + z)) 60 62 = false then some (false, sI τ 0 13 (nI (a + 1))) else ((f_M_takesNumber 0 (sI (sI τ 0 13 (nI (a + 1))) 0 13 (vI (sI τ 0 13 (nI (a + 1))) 0 13 + 1))).bind fun q11 => (if q11.1 = false then some (false, q11.2) else ((f_M_emits 0 (((1000 * nI k) + (100 * (nI (60 + z) - 60))) + (vI q11.2 0 14)) q11.2).bind fun q14 => ((f_M_whole 0 q14).bind fun q16 => some (true, q16)))))) = ((f_M_emits 0 (me t) (sI (sI τ 0 14 n) 0 13 (nI a'))).bind fun q => (f_M_whole 0 q).bind fun q => some (true, q))) ∨ (∃ a', a' ≤ s ∧ G = some (false, sI σ 84 2 (nI a')) ∧ (if f_M_in 0 (nI (60 + z)) 60 62 = false then some (false, sI τ 0 13 (nI (a + 1))) else ((f_M_takesNumber 0 (sI (sI τ 0 13 (nI (a + 1))) 0 13 (vI (sI τ 0 13 (nI (a + 1))) 0 13 + 1))).bind fun q11 => (if q11.1 = false then some (false, q11.2) else ((f_M_emits 0 (((1000 * nI k) + (100 * (nI (60 + z) - 60))) + (vI q11.2 0 14)) q11.2).bind fun q14 => ((f_M_whole 0 q14).bind fun q16 => some (true, q16)))))) = some (false, sI τ 0 13 (nI a'))) := by
      intro z hz ez G hG
      have hl2 : a + 1 < s := sg_lt ez (nI_m1 (by omega))
      have hin : ∀ z, z < 3 → ¬ f_M_in 0 (nI (60 + z)) 60 62 = false := by decide
      rw [if_neg (hin z hz), hG, hx1.2.2.1, hm1.2.2.1, nI_1, sI_sI, sI_sI]
      have hx2 : XT T s (a + 1 + 1) (sI σ 84 2 (nI (a + 1 + 1))) := hx.to (by omega)
      have hm2 : MT T s (a + 1 + 1) (sI τ 0 13 (nI (a + 1 + 1))) := hm.to (by omega)
      rw [x_number hx2, m_number hm2, Option.bind_some, Option.bind_some]
      by_cases hn : (nu T s (a + 1 + 1)).1 = true
      · obtain ⟨m, hm100, em, l1, l2⟩ := nu_n hn
        simp only [hn, if_true]
        rw [em, if_pos (nI_pos' (by omega)), if_neg n_tf]
        have e3 : sI (sI (sI τ 0 13 (nI (a + 1 + 1))) 0 14 (nI m)) 0 13 (nI (nu T s (a + 1 + 1)).2.2) = sI (sI τ 0 14 (nI m)) 0 13 (nI (nu T s (a + 1 + 1)).2.2) := by
          rw [sI_cm τ 0 13 14 _ _ (by decide), sI_sI]
        obtain ⟨t1, t2⟩ := tok_x k hk z hz m hm100
        refine Or.inl ⟨3 + 300 * k + 100 * z + m, (nu T s (a + 1 + 1)).2.2, nI m, by omega, by omega, by omega, l2, ?_, ?_⟩
        · rw [sI_sI, if_pos (show tgb BX (vH (sI σ 84 2 (nI (nu T s (a + 1 + 1)).2.2)) 84) 1 = true from tgb_of ht), t1]
          rfl
        · rw [e3, show vI (sI (sI τ 0 14 (nI m)) 0 13 (nI (nu T s (a + 1 + 1)).2.2)) 0 14 = nI m from rfl, t2]
      · refine Or.inr ⟨a + 2, by omega, ?_, ?_⟩
        · simp only [if_neg hn]
          rw [if_neg (by decide), nu_f hn, sI_sI]
        · simp only [if_neg hn]
          rw [if_pos (Bool.eq_false_iff.mpr hn)]
    by_cases c0 : sg T s (a + 1) = 60
    · have := key 0 (by decide) (by rw [c0]; decide) _ rfl
      rw [c0, if_pos rfl]
      exact this
    by_cases c1 : sg T s (a + 1) = 61
    · have := key 1 (by decide) (by rw [c1]; decide) _ rfl
      rw [c1, if_neg (by decide), if_pos rfl]
      exact this
    by_cases c2 : sg T s (a + 1) = 62
    · have := key 2 (by decide) (by rw [c2]; decide) _ rfl
      rw [c2, if_neg (by decide), if_neg (by decide), if_pos rfl]
      exact this
    rw [if_neg c0, if_neg c1, if_neg c2]
    refine Or.inr ⟨a + 1, by omega, rfl, ?_⟩
    have hni : f_M_in 0 (sg T s (a + 1)) 60 62 = false := by
      rcases sg_c hx1 with e | ⟨ha, b, hb, e⟩
      · rw [e]; decide
      · rw [e] at c0 c1 c2 ⊢
        have d : ∀ b, b < 128 → ¬ nI b = 60 → ¬ nI b = 61 → ¬ nI b = 62 → f_M_in 0 (nI b) 60 62 = false := by decide +kernel
        exact d b hb c0 c1 c2
    rw [if_pos hni]
  · rw [if_neg hp, if_neg hp]
    exact Or.inr ⟨a, hx.1.2, by rw [hx.sf], by rw [hm.sf]⟩
