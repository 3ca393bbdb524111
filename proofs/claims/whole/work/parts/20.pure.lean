/-! ===== PURE: reads behind writes, numbers ===== -/
theorem vI_sI (σ : St) (c f : Nat) (v : Int32) (c' f' : Nat) : vI (sI σ c f v) c' f' = if c' = c then (if f' = f then v else vI σ c' f') else vI σ c' f' := by
  unfold vI sI up1
  by_cases h : c' = c
  · subst h; simp only [if_true]
  · simp only [h, if_false]
theorem vI_sJ (σ : St) (c : Nat) (h : Nat → Int32) (c' f' : Nat) : vI (sJ σ c h) c' f' = vI σ c' f' := rfl
theorem vI_sL (σ : St) (c : Nat) (h : Nat → Int64) (c' f' : Nat) : vI (sL σ c h) c' f' = vI σ c' f' := rfl
theorem vI_sH (σ : St) (c t : Nat) (c' f' : Nat) : vI (sH σ c t) c' f' = vI σ c' f' := rfl
theorem vJ_sI (σ : St) (c f : Nat) (v : Int32) (c' : Nat) : vJ (sI σ c f v) c' = vJ σ c' := rfl
theorem vJ_sJ (σ : St) (c : Nat) (h : Nat → Int32) (c' : Nat) : vJ (sJ σ c h) c' = if c' = c then h else vJ σ c' := rfl
theorem vJ_sL (σ : St) (c : Nat) (h : Nat → Int64) (c' : Nat) : vJ (sL σ c h) c' = vJ σ c' := rfl
theorem vJ_sH (σ : St) (c t : Nat) (c' : Nat) : vJ (sH σ c t) c' = vJ σ c' := rfl
theorem vL_sI (σ : St) (c f : Nat) (v : Int32) (c' : Nat) : vL (sI σ c f v) c' = vL σ c' := rfl
theorem vL_sJ (σ : St) (c : Nat) (h : Nat → Int32) (c' : Nat) : vL (sJ σ c h) c' = vL σ c' := rfl
theorem vL_sL (σ : St) (c : Nat) (h : Nat → Int64) (c' : Nat) : vL (sL σ c h) c' = if c' = c then h else vL σ c' := rfl
theorem vL_sH (σ : St) (c t : Nat) (c' : Nat) : vL (sH σ c t) c' = vL σ c' := rfl
theorem vH_sI (σ : St) (c f : Nat) (v : Int32) (c' : Nat) : vH (sI σ c f v) c' = vH σ c' := rfl
theorem vH_sJ (σ : St) (c : Nat) (h : Nat → Int32) (c' : Nat) : vH (sJ σ c h) c' = vH σ c' := rfl
theorem vH_sL (σ : St) (c : Nat) (h : Nat → Int64) (c' : Nat) : vH (sL σ c h) c' = vH σ c' := rfl
theorem vH_sH (σ : St) (c t : Nat) (c' : Nat) : vH (sH σ c t) c' = if c' = c then t else vH σ c' := rfl
theorem ok_nI {k n : Nat} (h : k < n) (hn : n < 2 ^ 31) : ok (nI k) n = true := by
  rw [ok_iff, nI_toInt (by omega)]; omega
theorem nx_nI {k : Nat} (h : k < 2 ^ 31) : nx (nI k) = k := nI_clamp h
theorem okc_nI {a n N : Nat} (h : a + n ≤ N) (hN : N < 2 ^ 31) : okc (nI a) (nI n) N = true := by
  rw [okc_iff, nI_toInt (by omega), nI_toInt (by omega)]; omega
theorem nIlt {a b : Nat} (ha : a < 2 ^ 31) (hb : b < 2 ^ 31) : (nI a < nI b) = (a < b) := propext (nI_ltI ha hb)
theorem nIle {a b : Nat} (ha : a < 2 ^ 31) (hb : b < 2 ^ 31) : (nI a ≤ nI b) = (a ≤ b) := propext (nI_leI ha hb)
theorem nIeq {a b : Nat} (ha : a < 2 ^ 31) (hb : b < 2 ^ 31) : (nI a = nI b) = (a = b) := propext (nI_eq ha hb)
theorem bz_b2i (b : Bool) : bz (b2i b) = true := by cases b <;> rfl
theorem b2i_1 (b : Bool) : decide (b2i b = 1) = b := by cases b <;> rfl
theorem nar_z0 : vp_nar .boolean 0 = b2i false := by decide
theorem nar_z1 : vp_nar .boolean 1 = b2i true := by decide
theorem upd_s {f : Nat → Int32} {k : Nat} {x : Int32} : upd f k x k = x := if_pos rfl
theorem upd_n {f : Nat → Int32} {k j : Nat} {x : Int32} (h : j ≠ k) : upd f k x j = f j := if_neg h
/-! ===== PURE: rules as tokens ===== -/
/-- 0 not, 1 and, 2 or, from 3 on the tests -/
def xe (t : Nat) : Int32 := if t = 0 then -1 else if t = 1 then -2 else if t = 2 then -3 else nI (65536 * ((t - 3) / 300) + 256 * (60 + (t - 3) / 100 % 3) + (t - 3) % 100)
def me (t : Nat) : Int32 := if t = 0 then -33 else if t = 1 then -38 else if t = 2 then -124 else nI (1000 * ((t - 3) / 300) + 100 * ((t - 3) / 100 % 3) + (t - 3) % 100)
def tst (t : Nat) (F : Nat → Int32) : Bool := if (t - 3) / 100 % 3 = 0 then decide (F ((t - 3) / 300) < nI ((t - 3) % 100)) else if (t - 3) / 100 % 3 = 1 then decide (F ((t - 3) / 300) = nI ((t - 3) % 100)) else decide (nI ((t - 3) % 100) < F ((t - 3) / 300))
def ev1 (t : Nat) (F : Nat → Int32) (s : List Bool) : List Bool := if t = 0 then (match s with | b :: s => (!b) :: s | s => s) else if t = 1 then (match s with | b :: a :: s => (a && b) :: s | s => s) else if t = 2 then (match s with | b :: a :: s => (a || b) :: s | s => s) else tst t F :: s
def ev : List Nat → (Nat → Int32) → List Bool → List Bool
  | [], _, s => s
  | t :: L, F, s => ev L F (ev1 t F s)
/-- how deep: never below what is wanted, never above 30 -/
def dep1 (t d : Nat) : Option Nat := if t = 0 then (if 1 ≤ d then some d else none) else if t = 1 ∨ t = 2 then (if 2 ≤ d then some (d - 1) else none) else if t < 1803 ∧ d < 30 then some (d + 1) else none
def dep : List Nat → Nat → Option Nat
  | [], d => some d
  | t :: L, d => (dep1 t d).bind (dep L)
theorem ev1_len {t d : Nat} {F : Nat → Int32} {s : List Bool} (h : dep1 t s.length = some d) : (ev1 t F s).length = d := by
  unfold dep1 at h
  unfold ev1
  by_cases h0 : t = 0
  · subst h0
    simp only [if_true] at h ⊢
    cases s with
    | nil => simp at h
    | cons b s => simp at h ⊢; omega
  · simp only [h0, if_false] at h ⊢
    by_cases h1 : t = 1
    · subst h1
      simp only [if_true, true_or] at h ⊢
      match s, h with
      | [], h => simp at h
      | [b], h => simp at h
      | b :: a :: s, h => simp at h ⊢; omega
    · simp only [h1, if_false, false_or] at h ⊢
      by_cases h2 : t = 2
      · subst h2
        simp only [if_true] at h ⊢
        match s, h with
        | [], h => simp at h
        | [b], h => simp at h
        | b :: a :: s, h => simp at h ⊢; omega
      · simp only [h2, if_false] at h ⊢
        split at h
        · simp at h ⊢; omega
        · cases h
/-- the class's bits -/
def bv : List Bool → Nat
  | [] => 0
  | b :: s => (if b then 1 else 0) + 2 * bv s
theorem bv_lt (s : List Bool) : bv s < 2 ^ s.length := by
  induction s with
  | nil => exact Nat.one_pos
  | cons b s ih => simp only [bv, List.length_cons, Nat.pow_succ]; split <;> omega
theorem bv_30 {s : List Bool} (h : s.length ≤ 30) : bv s < 2 ^ 30 := Nat.lt_of_lt_of_le (bv_lt s) (Nat.pow_le_pow_right (by decide) h)
theorem tn_nI {n : Nat} (h : n < 2 ^ 32) : (nI n).toBitVec.toNat = n := pk_tn h
theorem nI_or {a b : Nat} (ha : a < 2 ^ 32) (hb : b < 2 ^ 32) : nI a ||| nI b = nI (a ||| b) := by
  apply Int32.toBitVec_inj.mp
  apply BitVec.eq_of_toNat_eq
  rw [Int32.toBitVec_or, BitVec.toNat_or, tn_nI ha, tn_nI hb, tn_nI (Nat.or_lt_two_pow ha hb)]
theorem nI_and {a b : Nat} (ha : a < 2 ^ 32) (hb : b < 2 ^ 32) : nI a &&& nI b = nI (a &&& b) := by
  apply Int32.toBitVec_inj.mp
  apply BitVec.eq_of_toNat_eq
  rw [Int32.toBitVec_and, BitVec.toNat_and, tn_nI ha, tn_nI hb, tn_nI (Nat.and_lt_two_pow _ hb)]
theorem nI_xor {a b : Nat} (ha : a < 2 ^ 32) (hb : b < 2 ^ 32) : nI a ^^^ nI b = nI (a ^^^ b) := by
  apply Int32.toBitVec_inj.mp
  apply BitVec.eq_of_toNat_eq
  rw [Int32.toBitVec_xor, BitVec.toNat_xor, tn_nI ha, tn_nI hb, tn_nI (Nat.xor_lt_two_pow ha hb)]
theorem or1 (b : Bool) (m : Nat) : 2 * m ||| (if b then 1 else 0) = (if b then 1 else 0) + 2 * m := by
  apply Nat.eq_of_testBit_eq
  intro i
  rw [Nat.testBit_or]
  cases i with
  | zero => cases b <;> simp [Nat.testBit_zero] <;> omega
  | succ i =>
    rw [Nat.testBit_succ, Nat.testBit_succ, Nat.testBit_succ]
    cases b <;> simp
    · rw [show (1 + 2 * m) / 2 = m by omega]
theorem xor1 (b : Bool) (m : Nat) : ((if b then 1 else 0) + 2 * m) ^^^ 1 = (if b then 0 else 1) + 2 * m := by
  apply Nat.eq_of_testBit_eq
  intro i
  rw [Nat.testBit_xor]
  cases i with
  | zero => cases b <;> simp [Nat.testBit_zero] <;> omega
  | succ i =>
    rw [Nat.testBit_succ, Nat.testBit_succ, Nat.testBit_succ]
    cases b <;> simp
    · rw [show (1 + 2 * m) / 2 = m by omega]
    · rw [show (1 + 2 * m) / 2 = m by omega]
