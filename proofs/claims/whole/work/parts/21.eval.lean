/-! ===== PURE: what a clause says: the class's bits and the reference's pile, both as a stack ===== -/
theorem and_m2 {m : Nat} (h : m < 2 ^ 31) : nI m &&& (-2) = nI (m / 2 * 2) := by
  rw [show (-2 : Int32) = nI 4294967294 by decide, nI_and (by omega) (by decide)]
  congr 1
  apply Nat.eq_of_testBit_eq
  intro i
  rw [Nat.testBit_and]
  cases i with
  | zero => simp [Nat.testBit_zero]
  | succ i =>
    rw [Nat.testBit_succ, Nat.testBit_succ, Nat.testBit_succ, show m / 2 * 2 / 2 = m / 2 by omega, show 4294967294 / 2 = 2 ^ 31 - 1 by decide, Nat.testBit_two_pow_sub_one]
    by_cases hi : i < 31
    · simp [hi]
    · have : (m / 2).testBit i = false := by
        apply Nat.testBit_lt_two_pow
        exact Nat.lt_of_lt_of_le (show m / 2 < 2 ^ 31 by omega) (Nat.pow_le_pow_right (by decide) (by omega))
      simp [this]
theorem and_m1 (x : Int32) : x &&& (-1) = x := by
  apply Int32.toBitVec_inj.mp
  rw [Int32.toBitVec_and, show (-1 : Int32).toBitVec = BitVec.allOnes 32 by decide, BitVec.and_allOnes]
theorem bits_not {b : Bool} {s : List Bool} (h : (b :: s).length ≤ 30) : nI (bv (b :: s)) ^^^ 1 = nI (bv ((!b) :: s)) := by
  have h2 := bv_30 h
  rw [show (1 : Int32) = nI 1 by decide, nI_xor (by omega) (by decide)]
  congr 1
  have := xor1 b (bv s)
  simp only [bv]
  rw [this]
  cases b <;> rfl
theorem bits_top {b : Bool} {s : List Bool} (h : (b :: s).length ≤ 30) : nI (bv (b :: s)) &&& 1 = nI (if b then 1 else 0) := by
  have h2 := bv_30 h
  rw [pk_andN (k := 1) (by omega) (by decide)]
  congr 1
  simp only [bv]
  cases b <;> simp <;> omega
theorem bits_pop {b : Bool} {s : List Bool} (h : (b :: s).length ≤ 30) : nI (bv (b :: s)) >>> (1 &&& (31 : Int32)) = nI (bv s) := by
  have h2 := bv_30 h
  rw [pk_shrN (k := 1) (by omega) _ (by decide)]
  congr 1
  simp only [bv]
  cases b <;> simp <;> omega
theorem bits_and {b a : Bool} {s : List Bool} (h : (b :: a :: s).length ≤ 30) : (nI (bv (b :: a :: s)) >>> (1 &&& (31 : Int32))) &&& ((nI (bv (b :: a :: s)) &&& 1) ||| (-2)) = nI (bv ((a && b) :: s)) := by
  have h2 := bv_30 (s := a :: s) (by simp at h ⊢; omega)
  rw [bits_pop h, bits_top h]
  cases b with
  | true =>
    rw [show nI (if true = true then 1 else 0) ||| (-2) = -1 by decide, and_m1]
    simp
  | false =>
    rw [show nI (if false = true then 1 else 0) ||| (-2) = -2 by decide, and_m2 (by omega)]
    simp only [bv, Bool.and_false]
    congr 1
    cases a <;> simp <;> omega
theorem bits_or {b a : Bool} {s : List Bool} (h : (b :: a :: s).length ≤ 30) : (nI (bv (b :: a :: s)) >>> (1 &&& (31 : Int32))) ||| (nI (bv (b :: a :: s)) &&& 1) = nI (bv ((a || b) :: s)) := by
  have h2 := bv_30 (s := a :: s) (by simp at h ⊢; omega)
  rw [bits_pop h, bits_top h, nI_or (by omega) (by split <;> decide)]
  congr 1
  simp only [bv]
  cases b with
  | false => simp
  | true =>
    cases a with
    | false => simp; exact Nat.or_comm _ _ ▸ (by have := or1 true (bv s); simpa [Nat.or_comm] using this)
    | true =>
      simp
      apply Nat.eq_of_testBit_eq
      intro i
      rw [Nat.testBit_or]
      cases i with
      | zero => simp [Nat.testBit_zero]
      | succ i => rw [Nat.testBit_succ, Nat.testBit_succ]; simp
theorem bits_push {b : Bool} {s : List Bool} (h : s.length < 30) : (nI (bv s) <<< (1 &&& (31 : Int32))) ||| (if b then 1 else 0) = nI (bv (b :: s)) := by
  have h2 := bv_30 (s := s) (by omega)
  rw [pk_shlN (k := 1) _ (by decide) (by omega), show (if b = true then (1 : Int32) else 0) = nI (if b then 1 else 0) by cases b <;> decide, nI_or (by omega) (by split <;> decide)]
  congr 1
  simp only [bv]
  rw [← or1 b (bv s), Nat.mul_comm]
/-- a test's three parts out of its number -/
theorem xe_parts {t : Nat} (h3 : 3 ≤ t) (h : t < 1803) : xe t = nI (65536 * ((t - 3) / 300) + 256 * (60 + (t - 3) / 100 % 3) + (t - 3) % 100) ∧ (xe t >>> (16 &&& (31 : Int32)) = nI ((t - 3) / 300)) ∧ ((xe t >>> (8 &&& (31 : Int32))) &&& 255 = nI (60 + (t - 3) / 100 % 3)) ∧ (xe t &&& 255 = nI ((t - 3) % 100)) := by
  have e : xe t = nI (65536 * ((t - 3) / 300) + 256 * (60 + (t - 3) / 100 % 3) + (t - 3) % 100) := by
    unfold xe
    rw [if_neg (by omega), if_neg (by omega), if_neg (by omega)]
  refine ⟨e, ?_, ?_, ?_⟩
  · rw [e, pk_shrN (k := 16) (by omega) _ (by decide)]
    congr 1
    omega
  · rw [e, pk_shrN (k := 8) (by omega) _ (by decide), pk_andN (k := 8) (by omega) (by decide)]
    congr 1
    omega
  · rw [e, pk_andN (k := 8) (by omega) (by decide)]
    congr 1
    omega
theorem x_passes {t : Nat} {F : Nat → Int32} {c : Nat} {σ : St} (h3 : 3 ≤ t) (h : t < 1803) (hF : ∀ j, j < 6 → vJ σ c j = F j) : f_R_passes (xe t) c σ = some (tst t F) := by
  obtain ⟨-, h1, h2, h4⟩ := xe_parts h3 h
  unfold f_R_passes
  rw [h1, h2, h4]
  have hf : (t - 3) / 300 < 6 := by omega
  rw [if_neg (nI_pos (by omega)), if_neg (by rw [show (6 : Int32) = nI 6 by decide, nIle (by decide) (by omega)]; omega), if_pos (ok_nI hf (by decide)), nx_nI (by omega), hF _ hf]
  simp only [Option.bind_some]
  rw [show (60 : Int32) = nI 60 by decide, show (61 : Int32) = nI 61 by decide]
  simp only [nIeq (show 60 + (t - 3) / 100 % 3 < 2 ^ 31 by omega) (show 60 < 2 ^ 31 by decide), nIeq (show 60 + (t - 3) / 100 % 3 < 2 ^ 31 by omega) (show 61 < 2 ^ 31 by decide)]
  unfold tst
  generalize F ((t - 3) / 300) = x
  generalize nI ((t - 3) % 100) = y
  have hs : (t - 3) / 100 % 3 < 3 := Nat.mod_lt _ (by decide)
  generalize (t - 3) / 100 % 3 = z at hs
  rcases (show z = 0 ∨ z = 1 ∨ z = 2 by omega) with rfl | rfl | rfl
  · simp only [Nat.add_zero, if_true]
    by_cases hc : y ≤ x
    · rw [if_pos hc, decide_eq_false (Int32.not_lt.mpr hc)]
    · rw [if_neg hc, decide_eq_true (Int32.not_le.mp hc)]
  · simp only [show ¬ (60 + 1 = 60) by decide, show (60 + 1 = 61) by decide, show ¬ (1 = 0) by decide, if_true, if_false]
    by_cases hc : x = y
    · rw [if_pos hc, decide_eq_true hc]
    · rw [if_neg hc, decide_eq_false hc]
  · simp only [show ¬ (60 + 2 = 60) by decide, show ¬ (60 + 2 = 61) by decide, show ¬ (2 = 0) by decide, show ¬ (2 = 1) by decide, if_false]
    by_cases hc : x ≤ y
    · rw [if_pos hc, decide_eq_false (Int32.not_lt.mpr hc)]
    · rw [if_neg hc, decide_eq_true (Int32.not_le.mp hc)]
theorem dep1_t {t d d' : Nat} (h : dep1 t d = some d') (h3 : 3 ≤ t) : t < 1803 ∧ d < 30 ∧ d' = d + 1 := by
  unfold dep1 at h
  rw [if_neg (by omega), if_neg (by omega)] at h
  split at h
  · cases h; exact ⟨by omega, by omega, rfl⟩
  · cases h
theorem dep1_30 {t d d' : Nat} (h : dep1 t d = some d') (hd : d ≤ 30) : d' ≤ 30 := by
  unfold dep1 at h
  split at h
  · split at h <;> cases h; exact hd
  · split at h
    · split at h <;> cases h; omega
    · split at h <;> cases h; omega
theorem xe_0 : xe 0 = -1 := rfl
theorem xe_1 : xe 1 = -2 := rfl
theorem xe_2 : xe 2 = -3 := rfl
theorem xe_pos {t : Nat} (h3 : 3 ≤ t) (h : t < 1803) : ¬ xe t = -1 ∧ ¬ xe t = -2 ∧ ¬ xe t = -3 := by
  rw [(xe_parts h3 h).1]
  generalize e : 65536 * ((t - 3) / 300) + 256 * (60 + (t - 3) / 100 % 3) + (t - 3) % 100 = n
  have hn : n < 2 ^ 31 := by omega
  have h0 := nI_pos hn
  refine ⟨fun q => h0 (by rw [q]; decide), fun q => h0 (by rw [q]; decide), fun q => h0 (by rw [q]; decide)⟩
/-- the class's loop over the steps of a clause -/
theorem x_ev {F : Nat → Int32} {r c : Nat} {σ : St} (hF : ∀ j, j < 6 → vJ σ c j = F j) (hi : Nat) (hhi : hi ≤ 100) : ∀ (L : List Nat) (a : Nat) (s : List Bool) (n : Nat) (d : Nat), a + L.length = hi → (∀ i, ∀ t, L[i]? = some t → vJ σ (r + 5) (a + i) = xe t) → dep L s.length = some d → s.length ≤ 30 → L.length < n → f_R_holds_l6 n r (nI hi) c (nI (bv s)) (nI a) σ = some (nI (bv (ev L F s))) ∧ (ev L F s).length = d ∧ d ≤ 30 := by
  intro L
  induction L with
  | nil =>
    intro a s n d ha hL hd hs hn
    obtain ⟨n, rfl⟩ : ∃ m, n = m + 1 := ⟨n - 1, by simp at hn; omega⟩
    rw [f_R_holds_l6, if_pos (by rw [nIle (by omega) (by simp at ha; omega)]; simp at ha; omega)]
    simp only [dep, Option.some.injEq] at hd
    exact ⟨rfl, hd, by omega⟩
  | cons t L ih =>
    intro a s n d ha hL hd hs hn
    obtain ⟨n, rfl⟩ : ∃ m, n = m + 1 := ⟨n - 1, by simp at hn; omega⟩
    simp only [List.length_cons] at ha hn
    have ht : vJ σ (r + 5) a = xe t := hL 0 t rfl
    simp only [dep] at hd
    cases hd1 : dep1 t s.length with
    | none => rw [hd1] at hd; cases hd
    | some d1 =>
      rw [hd1, Option.bind_some] at hd
      have hl1 := ev1_len (F := F) hd1
      have h30 := dep1_30 hd1 hs
      have ih2 := ih (a + 1) (ev1 t F s) n d (by omega) (fun i t' h' => by rw [show a + 1 + i = a + (i + 1) by omega]; exact hL (i + 1) t' (by simpa using h')) (by rw [hl1]; exact hd) (by omega) (by omega)
      rw [f_R_holds_l6, if_neg (by rw [nIle (by omega) (by omega)]; omega), if_pos (ok_nI (by omega) (by decide)), nx_nI (by omega), ht, nI_1]
      rw [show ev (t :: L) F s = ev L F (ev1 t F s) from rfl]
      by_cases h0 : t = 0
      · subst h0
        rw [xe_0, if_neg (by decide), if_neg (by decide), if_pos rfl]
        cases s with
        | nil => simp [dep1] at hd1
        | cons b s => rw [bits_not hs]; exact ih2
      · by_cases h1 : t = 1
        · subst h1
          rw [xe_1, if_neg (by decide), if_pos rfl]
          match s, hd1, hs, ih2 with
          | [], hd1, _, _ => simp [dep1] at hd1
          | [b], hd1, _, _ => simp [dep1] at hd1
          | b :: a2 :: s, hd1, hs, ih2 => rw [bits_and hs]; exact ih2
        · by_cases h2 : t = 2
          · subst h2
            rw [xe_2, if_pos rfl]
            match s, hd1, hs, ih2 with
            | [], hd1, _, _ => simp [dep1] at hd1
            | [b], hd1, _, _ => simp [dep1] at hd1
            | b :: a2 :: s, hd1, hs, ih2 => rw [bits_or hs]; exact ih2
          · obtain ⟨g1, g2, -⟩ := dep1_t hd1 (by omega)
            obtain ⟨q1, q2, q3⟩ := xe_pos (t := t) (by omega) g1
            rw [if_neg q3, if_neg q2, if_neg q1, if_pos (ok_nI (by omega) (by decide)), x_passes (by omega) g1 hF, Option.bind_some]
            have e1 : ev1 t F s = tst t F :: s := by unfold ev1; rw [if_neg h0, if_neg h1, if_neg h2]
            rw [e1] at ih2 ⊢
            have hb := bits_push (b := tst t F) (s := s) g2
            cases hv : tst t F with
            | false =>
              rw [hv] at hb ih2
              rw [if_pos rfl]
              rw [show (0 : Int32) = if false = true then 1 else 0 from rfl, hb]
              exact ih2
            | true =>
              rw [hv] at hb ih2
              rw [if_neg (by decide)]
              rw [show (nI (bv s) <<< (1 &&& (31 : Int32))) ||| 1 = (nI (bv s) <<< (1 &&& (31 : Int32))) ||| (if true = true then 1 else 0) from rfl, hb]
              exact ih2
theorem x_holds {F : Nat → Int32} {r c a : Nat} {σ : St} {L : List Nat} (hF : ∀ j, j < 6 → vJ σ c j = F j) (h : a + L.length ≤ 100) (hL : ∀ i, ∀ t, L[i]? = some t → vJ σ (r + 5) (a + i) = xe t) (hd : dep L 0 = some 1) : f_R_holds r (nI a) (nI (a + L.length)) c σ = some ((ev L F []).headD false) := by
  obtain ⟨h1, h2, -⟩ := x_ev hF (a + L.length) h L a [] FU 1 rfl hL hd (by decide) (by unfold FU; omega)
  unfold f_R_holds
  rw [show (0 : Int32) = nI (bv []) by decide, h1, Option.bind_some]
  match he : ev L F [], h2 with
  | [b], _ => 
    simp only [bv, List.headD]
    cases b <;> rfl
