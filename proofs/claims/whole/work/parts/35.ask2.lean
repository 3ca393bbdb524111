/-! ===== PURE: the lowest form; askings: mean, on ===== -/
theorem m_div : ∀ (b f a : Nat), b < f → a < 2 ^ 31 → b < 2 ^ 31 → f_M_divisor_l5 f (nI a) (nI b) = some (nI (Nat.gcd a b)) := by
  intro b
  induction b using Nat.strongRecOn with
  | ind b ih =>
    intro f a hf ha hb
    obtain ⟨f, rfl⟩ : ∃ z, f = z + 1 := ⟨f - 1, by omega⟩
    rw [f_M_divisor_l5]
    by_cases h0 : b = 0
    · subst h0
      rw [if_pos (by decide), Nat.gcd_zero_right]
    · have hne : ¬ nI b = 0 := by rw [show (0 : Int32) = nI 0 by decide, nIeq (by omega) (by decide)]; exact h0
      have hlt : a % b < b := Nat.mod_lt _ (by omega)
      rw [if_neg hne, if_neg hne, nI_rem ha (by omega) hb, ih (a % b) hlt f b (by omega) hb (by omega)]
      rw [Nat.gcd_comm a b, Nat.gcd_rec b a, Nat.gcd_comm]
theorem m_low {a b : Nat} {w : Int32} (ha : a < 2 ^ 31) (hb : b ≤ 60) (hb1 : 1 ≤ b) : f_M_lowest 0 (nI a) (nI b) w = some (if w = 0 then (nI (a / Nat.gcd a b)).toInt64 else (nI (b / Nat.gcd a b)).toInt64) := by
  have hg : 0 < Nat.gcd a b := Nat.gcd_pos_of_pos_right _ hb1
  have hl : Nat.gcd a b ≤ b := Nat.gcd_le_right _ hb1
  have hne : ¬ nI (Nat.gcd a b) = 0 := by rw [show (0 : Int32) = nI 0 by decide, nIeq (by omega) (by decide)]; omega
  unfold f_M_lowest f_M_divisor
  rw [m_div b FU a (by unfold FU; omega) ha (by omega), Option.bind_some, Option.bind_some, if_neg hne, if_neg hne, pk_div ha hg (by omega), pk_div (by omega) hg (by omega)]
  split <;> rfl
theorem x_low_l {a b : Nat} {w : Int32} (ha : a < 2 ^ 31) (hb : b ≤ 60) (hb1 : 1 ≤ b) : ∀ (j f : Nat), Nat.gcd a b ≤ j → j ≤ b → j < f → ((f_X_lowest_l2 f (nI a) (nI b) w (nI j)).bind fun x_10 => Sum.elim (fun _ => (if w = 0 then some (nI a).toInt64 else some (nI b).toInt64)) (fun z => some z) x_10) = some (if w = 0 then (nI (a / Nat.gcd a b)).toInt64 else (nI (b / Nat.gcd a b)).toInt64) := by
  have hg : 0 < Nat.gcd a b := Nat.gcd_pos_of_pos_right _ hb1
  intro j
  induction j with
  | zero => intro f h1; omega
  | succ j ih =>
    intro f h1 h2 hf
    obtain ⟨f, rfl⟩ : ∃ z, f = z + 1 := ⟨f - 1, by omega⟩
    rw [f_X_lowest_l2]
    by_cases hj : j = 0
    · subst hj
      rw [if_pos (by decide), Option.bind_some, show Nat.gcd a b = 1 by omega, Nat.div_one, Nat.div_one]
      show (if w = 0 then _ else _) = _
      split <;> rfl
    · have hne : ¬ nI (j + 1) = 0 := by rw [show (0 : Int32) = nI 0 by decide, nIeq (by omega) (by decide)]; omega
      rw [if_neg (by rw [show (1 : Int32) = nI 1 by decide, nIle (by omega) (by decide)]; omega), if_neg hne, if_neg hne, if_neg hne, if_neg hne, nI_rem ha (by omega) (by omega), nI_rem (by omega) (by omega) (by omega), pk_div ha (by omega) (by omega), pk_div (by omega) (by omega) (by omega), show nI (j + 1) + (-1) = nI j by rw [pk_m1]]
      have hz : ∀ x, x < 2 ^ 31 → (nI x = 0 ↔ x = 0) := fun x hx => by rw [show (0 : Int32) = nI 0 by decide, nIeq hx (by decide)]
      have lt1 : a % (j + 1) < j + 1 := Nat.mod_lt _ (by omega)
      have lt2 : b % (j + 1) < j + 1 := Nat.mod_lt _ (by omega)
      by_cases d1 : a % (j + 1) = 0
      · by_cases d2 : b % (j + 1) = 0
        · have : j + 1 ∣ Nat.gcd a b := Nat.dvd_gcd (Nat.dvd_of_mod_eq_zero d1) (Nat.dvd_of_mod_eq_zero d2)
          have : Nat.gcd a b = j + 1 := Nat.le_antisymm h1 (Nat.le_of_dvd hg this)
          rw [if_pos ((hz _ (by omega)).mpr d1), if_pos ((hz _ (by omega)).mpr d2), this]
          by_cases hw : w = 0
          · rw [if_pos hw, if_pos hw, if_pos hw]; rfl
          · rw [if_neg hw, if_neg hw, if_neg hw]; rfl
        · have : Nat.gcd a b ≠ j + 1 := fun q => d2 (Nat.mod_eq_zero_of_dvd (q ▸ Nat.gcd_dvd_right a b))
          rw [if_pos ((hz _ (by omega)).mpr d1), if_neg (fun q => d2 ((hz _ (by omega)).mp q))]
          exact ih f (by omega) (by omega) (by omega)
      · have : Nat.gcd a b ≠ j + 1 := fun q => d1 (Nat.mod_eq_zero_of_dvd (q ▸ Nat.gcd_dvd_left a b))
        rw [if_neg (fun q => d1 ((hz _ (by omega)).mp q))]
        exact ih f (by omega) (by omega) (by omega)
theorem low2 {a b : Nat} {w : Int32} (ha : a < 2 ^ 31) (hb : b ≤ 60) (hb1 : 1 ≤ b) : ∃ r, f_X_lowest (nI a) (nI b) w = some r ∧ f_M_lowest 0 (nI a) (nI b) w = some r :=
  ⟨_, x_low_l ha hb hb1 b FU (Nat.gcd_le_right _ hb1) (Nat.le_refl _) (by unfold FU; omega), m_low ha hb hb1⟩
theorem op_mean {N : Nat} {σ τ : St} {t d s : Nat} {CL : List Cl} {CLs : List (List Cl)} (h : RR N σ τ t d CL CLs s) (p w : Int32) : Sm N (f_X_mean 0 p w σ) (f_M_mean 0 p w τ) := by
  unfold f_X_mean f_M_mean
  simp only [in_X]
  refine sm_ite (fun _ => sm_ret h _) (fun hp => sm_ite (fun _ => sm_ret h _) (fun _ => ?_))
  obtain ⟨n, n1, hn, rfl⟩ := in_t (neg_f hp) (a := 1) (b := 60) (by decide) (by decide) (by decide) (by decide)
  obtain ⟨σ1, τ1, e1, e2, hA, -, hK, hl⟩ := ask0 h
  have hd := h.1.2.1
  obtain ⟨a, σ2, τ2, d2, q1, q2, hA2, hK2, hl2, ha⟩ := op_mean_l (w := w) h hn n 0 0 FU d σ1 τ1 hA hK hl (by omega) (by unfold FU; omega) (by omega) (by omega)
  rw [nI_0] at q1 q2
  obtain ⟨τ3, e5, -, hR⟩ := hA2.back0 h hl2
  obtain ⟨r, r1, r2⟩ := low2 (a := a) (b := n) (w := w) (by omega) hn n1
  rw [e1, e2, Option.bind_some, Option.bind_some, q1, q2, Option.bind_some, Option.bind_some, e5]
  simp only [Option.bind_some, r1, r2]
  exact sm_ret hR _
theorem tk_in (τ : St) {p : Int32} {t c : Nat} (ht : t ≤ 6) (hc : c ≤ 100) (hc1 : 1 ≤ c) : f_M_in 0 (p - nI c) 0 (nI t - 1) = f_M_in 0 p (nI c) (nI (c - 1) + nI t) := by
  rw [nI_add]
  cases h1 : f_M_in 0 (p - nI c) 0 (nI t - 1) with
  | true =>
    obtain ⟨i, hi, e⟩ := tk_t (τ := sI τ 0 0 (nI t)) (t := t) rfl ht (p := p - nI c) h1
    have : p = nI (i + c) := by rw [← nI_add, ← e, Int32.sub_add_cancel]
    rw [this]
    unfold f_M_in
    rw [if_neg (by rw [nIlt (by omega) (by omega)]; omega), if_neg (by rw [nIlt (by omega) (by omega)]; omega)]
  | false =>
    cases h2 : f_M_in 0 p (nI c) (nI (c - 1 + t)) with
    | false => rfl
    | true =>
      obtain ⟨i, q1, q2, rfl⟩ := in_t h2 rfl rfl (by omega) (by omega)
      exfalso
      rw [pk_sub q1, show t = (t - 1) + 1 by omega, nI_pred] at h1
      unfold f_M_in at h1
      rw [if_neg (nI_pos (by omega)), if_neg (by rw [nIlt (by omega) (by omega)]; omega)] at h1
      cases h1
