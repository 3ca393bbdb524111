/-! ===== PURE: calls: shift ===== -/
theorem sub_ti {a b : Nat} (ha : a < 2 ^ 31) (hb : b < 2 ^ 31) : (nI a - nI b).toInt = (a : Int) - b := by
  rw [Int32.toInt_sub, nI_toInt ha, nI_toInt hb]
  exact Int.bmod_eq_of_le (by omega) (by omega)
theorem m_sh1 {t i n : Nat} {x3 x4 : Int32} (ht : t < 6) (hin : i + n ≤ 60) : ∀ (k a f : Nat) (τ : St), a + k = n → k < f → ∃ h, f_M_shift_l104 f 0 (nI t) (nI i) x3 x4 (nI n) (nI a) τ = some (sL τ 40 h) ∧ ∀ j, h j = if a ≤ j ∧ j < n then vL τ 39 (60 * t + i + j) else vL τ 40 j := by
  intro k
  induction k with
  | zero =>
    intro a f τ ha hf
    obtain ⟨f, rfl⟩ : ∃ z, f = z + 1 := ⟨f - 1, by omega⟩
    refine ⟨vL τ 40, ?_, fun j => by rw [if_neg (by omega)]⟩
    rw [f_M_shift_l104, if_pos (nI_le (by omega) (by omega)), sL_self]
  | succ k ih =>
    intro a f τ ha hf
    obtain ⟨f, rfl⟩ : ∃ z, f = z + 1 := ⟨f - 1, by omega⟩
    have e1 : 60 * nI t + nI i + nI a = nI (60 * t + i + a) := by rw [show (60 : Int32) = nI 60 by decide, pk_mul, nI_add, nI_add]
    obtain ⟨h, e, w⟩ := ih (a + 1) f (sL τ 40 (va_up (vL τ 40) a (vL τ 39 (60 * t + i + a)))) (by omega) (by omega)
    rw [f_M_shift_l104, if_neg (nI_ge (by omega) (by omega)), e1, if_pos (ok_nI (by omega) (by decide)), if_pos (ok_nI (by omega) (by decide)), nx_nI (by omega), nx_nI (by omega)]
    simp only [st, nI_1]
    rw [e, sL_sL]
    refine ⟨h, rfl, fun j => ?_⟩
    rw [w j]
    show (if a + 1 ≤ j ∧ j < n then vL τ 39 (60 * t + i + j) else va_up (vL τ 40) a (vL τ 39 (60 * t + i + a)) j) = _
    by_cases hj : j = a
    · rw [hj, va_up_self, if_neg (by omega), if_pos (by omega)]
    · rw [va_up_ne _ _ hj]
      by_cases h3 : a + 1 ≤ j ∧ j < n
      · rw [if_pos h3, if_pos (by omega)]
      · rw [if_neg h3, if_neg (by omega)]
theorem m_sh2 {o i n : Nat} (ht : o < 6) (hin : i + n ≤ 60) : ∀ (k a f : Nat) (τ : St), a + k = n → k < f → ∃ h, f_M_shift_l141 f 0 (nI o) (nI i) (nI n) (nI a) τ = some (sL τ 39 h) ∧ ∀ j, h j = if 60 * o + i + a ≤ j ∧ j < 60 * o + i + n then vL τ 40 (j - (60 * o + i)) else vL τ 39 j := by
  intro k
  induction k with
  | zero =>
    intro a f τ ha hf
    obtain ⟨f, rfl⟩ : ∃ z, f = z + 1 := ⟨f - 1, by omega⟩
    refine ⟨vL τ 39, ?_, fun j => by rw [if_neg (by omega)]⟩
    rw [f_M_shift_l141, if_pos (nI_le (by omega) (by omega)), sL_self]
  | succ k ih =>
    intro a f τ ha hf
    obtain ⟨f, rfl⟩ : ∃ z, f = z + 1 := ⟨f - 1, by omega⟩
    have e1 : 60 * nI o + nI i + nI a = nI (60 * o + i + a) := by rw [show (60 : Int32) = nI 60 by decide, pk_mul, nI_add, nI_add]
    obtain ⟨h, e, w⟩ := ih (a + 1) f (sL τ 39 (va_up (vL τ 39) (60 * o + i + a) (vL τ 40 a))) (by omega) (by omega)
    rw [f_M_shift_l141, if_neg (nI_ge (by omega) (by omega)), if_pos (ok_nI (by omega) (by decide)), e1, if_pos (ok_nI (by omega) (by decide)), nx_nI (by omega), nx_nI (by omega)]
    simp only [st, nI_1]
    rw [e, sL_sL]
    refine ⟨h, rfl, fun j => ?_⟩
    rw [w j]
    show (if 60 * o + i + (a + 1) ≤ j ∧ j < 60 * o + i + n then vL τ 40 (j - (60 * o + i)) else va_up (vL τ 39) (60 * o + i + a) (vL τ 40 a) j) = _
    by_cases hj : j = 60 * o + i + a
    · rw [hj, va_up_self, if_neg (by omega), if_pos (by omega), show 60 * o + i + a - (60 * o + i) = a by omega]
    · rw [va_up_ne _ _ hj]
      by_cases h3 : 60 * o + i + (a + 1) ≤ j ∧ j < 60 * o + i + n
      · rw [if_pos h3, if_pos (by omega)]
      · rw [if_neg h3, if_neg (by omega)]
theorem op_shift {N : Nat} {σ τ : St} {t d s : Nat} {CL : List Cl} {CLs : List (List Cl)} (h : RR N σ τ t d CL CLs s) (p w q x y : Int32) : Sm N (f_X_shift 0 p w q x y σ) (f_M_shift 0 p w q x y τ) := by
  unfold f_X_shift f_M_shift
  rw [xT, xT, mT, mT]
  refine sm_ite (fun _ => sm_ret h _) (fun hp => sm_ite (fun _ => sm_ret h _) (fun hq => ?_))
  obtain ⟨a, ha, rfl⟩ := tape_i hp
  obtain ⟨o, ho, rfl⟩ := tape_i hq
  obtain ⟨so, z, h1, h2, h3, h4, h5, h6, h7⟩ := h.2.1.2.2.2.2.1 a ha
  obtain ⟨so', z', g1, g2, g3, g4, g5, g6, g7⟩ := h.2.1.2.2.2.2.1 o ho
  have hok : ok (nI a) 6 = true := ok_nI ha (by decide)
  have gok : ok (nI o) 6 = true := ok_nI ho (by decide)
  simp only [hok, gok, if_true, nx_nI (show a < 2 ^ 31 by omega), nx_nI (show o < 2 ^ 31 by omega), h3, h4, h5, h6, g3, g4, g5, g6, ← sort_c h1]
  refine sm_ite (fun _ => sm_ret h _) (fun _ => ?_)
  by_cases hs' : so' = -1
  · rw [if_pos hs', if_neg (Int32.not_le.mpr ((sort_c g1).mp hs'))]
    exact sm_ret h _
  rw [if_neg hs', if_pos (Int32.not_lt.mp (fun e => hs' ((sort_c g1).mpr e)))]
  refine sm_ite (fun hso => sm_ite (fun _ => sm_ret h _) (fun hy => ?_)) (fun _ => sm_ret h _)
  unfold f_X_inside
  by_cases w0 : w < 0
  · rw [if_pos w0, if_pos rfl, if_pos w0]; exact sm_ret h _
  rw [if_neg w0, if_neg w0]
  by_cases w1 : nI z - y < w
  · rw [if_pos w1, if_pos rfl]
    by_cases x0 : x < 0
    · rw [if_pos x0]; exact sm_ret h _
    · rw [if_neg x0, if_pos w1]; exact sm_ret h _
  rw [if_neg w1, if_neg (by decide), if_neg w1]
  by_cases x0 : x < 0
  · rw [if_pos x0, if_pos rfl, if_pos x0]; exact sm_ret h _
  rw [if_neg x0, if_neg x0]
  by_cases x1 : nI z' - y < x
  · rw [if_pos x1, if_pos rfl, if_neg (Int32.not_le.mpr x1)]; exact sm_ret h _
  rw [if_neg x1, if_neg (by decide), if_pos (Int32.not_lt.mp x1)]
  obtain ⟨n, hn, rfl⟩ := nI_of hy
  obtain ⟨i, hi, rfl⟩ := nI_of w0
  obtain ⟨j, hj, rfl⟩ := nI_of x0
  have b1 : i + n ≤ z := by
    rw [Int32.lt_iff_toInt_lt, sub_ti (by omega) hn, nI_toInt hi] at w1
    omega
  have b2 : j + n ≤ z' := by
    rw [Int32.lt_iff_toInt_lt, sub_ti (by omega) hn, nI_toInt hj] at x1
    omega
  rw [if_pos (okc_nI (by omega) (by decide)), if_pos (okc_nI (by omega) (by decide)), nx_nI hi, nx_nI hj, nx_nI hn]
  obtain ⟨hA, m1, m2⟩ := m_sh1 (x3 := nI o) (x4 := nI j) (i := i) (n := n) ha (by omega) n 0 FU τ (by omega) (by unfold FU; omega)
  obtain ⟨hB, k1, k2⟩ := m_sh2 (i := j) (n := n) ho (by omega) n 0 FU (sL τ 40 hA) (by omega) (by unfold FU; omega)
  rw [nI_0] at m1 k1
  simp only [st, m1, k1, Option.bind_some]
  refine ⟨nI n, _, _, rfl, rfl, t, d, CL, CLs, s, h.tape (fun _ _ _ => rfl) (fun _ => rfl) (fun k hk => by rw [vL_sL, if_neg (by omega)]) (fun _ => rfl) (fun _ => rfl) (fun _ _ _ => rfl) (fun k hk => ?_)⟩
  obtain ⟨so2, z2, q1, q2, q3, q4, q5, q6, q7⟩ := h.2.1.2.2.2.2.1 k hk
  refine ⟨so2, z2, q1, q2, q3, q4, q5, q6, fun b hb => ?_⟩
  have r1 : vL (sL (sL τ 40 hA) 39 hB) 39 = hB := rfl
  have r2 : vL (sL τ 40 hA) 40 = hA := rfl
  have r3 : vL (sL τ 40 hA) 39 = vL τ 39 := rfl
  rw [r1, k2, r2, r3, vL_sL]
  by_cases hko : k = o
  · subst hko
    rw [if_pos (by omega)]
    by_cases c : j ≤ b ∧ b < j + n
    · rw [pk_cpy_in c.1 c.2, if_pos (by omega), m2, if_pos (by omega), show 92 + 2 * a + 1 = 93 + 2 * a by omega, h7 _ (by omega)]
      congr 1
      omega
    · rw [pk_cpy_out (by omega), if_neg (by omega), show 92 + 2 * k + 1 = 93 + 2 * k by omega]; exact q7 b hb
  · rw [if_neg (by omega), if_neg (by omega)]; exact q7 b hb
