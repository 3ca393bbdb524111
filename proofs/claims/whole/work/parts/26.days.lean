/-! ===== PURE: days ===== -/
def SM (f : Nat → Int32) : Nat → Int32
  | 0 => 0
  | n + 1 => SM f n + f n
theorem SM_congr {f g : Nat → Int32} : ∀ {n : Nat}, (∀ i, i < n → f i = g i) → SM f n = SM g n
  | 0, _ => rfl
  | n + 1, h => by simp only [SM]; rw [SM_congr (fun i hi => h i (by omega)), h n (by omega)]
theorem x_sum_l {c t : Nat} {σ : St} (ht : t ≤ 6) : ∀ (m i n : Nat), i + m = t → m < n → f_X_sum_l4 n c (nI t) (SM (vJ σ c) i) (nI i) σ = some (SM (vJ σ c) t) := by
  intro m
  induction m with
  | zero =>
    intro i n hi hn
    obtain ⟨n, rfl⟩ : ∃ z, n = z + 1 := ⟨n - 1, by omega⟩
    rw [f_X_sum_l4, if_pos (nI_le (by omega) (by omega)), show i = t by omega]
  | succ m ih =>
    intro i n hi hn
    obtain ⟨n, rfl⟩ : ∃ z, n = z + 1 := ⟨n - 1, by omega⟩
    rw [f_X_sum_l4, if_neg (nI_ge (by omega) (by omega)), if_neg (by rw [show (6 : Int32) = nI 6 by decide]; exact nI_ge (by omega) (by decide)), if_pos (ok_nI (by omega) (by decide)), nx_nI (by omega), nI_1]
    exact ih (i + 1) n (by omega) (by omega)
theorem x_sum {c t : Nat} {σ : St} (ht : t ≤ 6) : f_X_sum c (nI t) σ = some (SM (vJ σ c) t) := by
  unfold f_X_sum
  have := x_sum_l (c := c) (σ := σ) ht t 0 FU (by omega) (by unfold FU; omega)
  rw [nI_0] at this
  rw [show (SM (vJ σ c) 0) = 0 from rfl] at this
  rw [this]
  rfl
theorem m_sum_l2 {t : Nat} {τ : St} {x1 : Int32} (ht : t ≤ 6) (hT : vI τ 0 0 = nI t) : ∀ (m i n : Nat), i + m = t → m < n → f_M_sum_l4 n 0 x1 (SM (if x1 = 0 then vJ τ 5 else vJ τ 6) i) (nI i) τ = some (SM (if x1 = 0 then vJ τ 5 else vJ τ 6) t) := by
  intro m
  induction m with
  | zero =>
    intro i n hi hn
    obtain ⟨n, rfl⟩ : ∃ z, n = z + 1 := ⟨n - 1, by omega⟩
    rw [f_M_sum_l4, hT, if_pos (nI_le (by omega) (by omega)), show i = t by omega]
  | succ m ih =>
    intro i n hi hn
    obtain ⟨n, rfl⟩ : ∃ z, n = z + 1 := ⟨n - 1, by omega⟩
    have h2 := ih (i + 1) n (by omega) (by omega)
    rw [f_M_sum_l4, hT, if_neg (nI_ge (by omega) (by omega)), if_pos (ok_nI (show i < 6 by omega) (by decide)), nx_nI (by omega), nI_1]
    by_cases hx : x1 = 0
    · simp only [hx, if_true] at h2 ⊢
      exact h2
    · simp only [hx, if_false] at h2 ⊢
      rw [if_pos (ok_nI (show i < 6 by omega) (by decide))]
      exact h2
theorem m_sum0 {t : Nat} {τ : St} (ht : t ≤ 6) (hT : vI τ 0 0 = nI t) : f_M_sum 0 0 τ = some (SM (vJ τ 5) t) := by
  unfold f_M_sum
  have := m_sum_l2 (x1 := 0) ht hT t 0 FU (by omega) (by unfold FU; omega)
  rw [nI_0] at this
  simp only [if_true] at this
  rw [show (SM (vJ τ 5) 0) = 0 from rfl] at this
  rw [this]
  rfl
theorem m_sum1 {t : Nat} {τ : St} (ht : t ≤ 6) (hT : vI τ 0 0 = nI t) : f_M_sum 0 1 τ = some (SM (vJ τ 6) t) := by
  unfold f_M_sum
  have := m_sum_l2 (x1 := 1) ht hT t 0 FU (by omega) (by unfold FU; omega)
  rw [nI_0] at this
  simp only [show ¬ (1 : Int32) = 0 by decide, if_false] at this
  rw [show (SM (vJ τ 6) 0) = 0 from rfl] at this
  rw [this]
  rfl
/-- fetches more: at most K each -/
def FS (τ τ' : St) (K : Nat) : Prop := ∃ ks : Nat → Nat, (∀ i, i < 6 → vJ τ' 5 i = vJ τ 5 i + nI (ks i)) ∧ ∀ i, i < 6 → ks i ≤ K
theorem FS.rf {τ τ' : St} (h : vJ τ' 5 = vJ τ 5) : FS τ τ' 0 := ⟨fun _ => 0, fun i _ => by rw [h, nI_0]; exact (Int32.add_zero _).symm, fun _ _ => Nat.le_refl _⟩
theorem FS.tr {a b d : St} {K1 K2 : Nat} (h1 : FS a b K1) (h2 : FS b d K2) : FS a d (K1 + K2) := by
  obtain ⟨k1, e1, l1⟩ := h1
  obtain ⟨k2, e2, l2⟩ := h2
  exact ⟨fun i => k1 i + k2 i, fun i hi => by rw [e2 i hi, e1 i hi, Int32.add_assoc, nI_add], fun i hi => Nat.add_le_add (l1 i hi) (l2 i hi)⟩
theorem FS.le {a b : St} {K1 K2 : Nat} (h : FS a b K1) (hK : K1 ≤ K2) : FS a b K2 := by
  obtain ⟨k, e, l⟩ := h
  exact ⟨k, e, fun i hi => Nat.le_trans (l i hi) hK⟩
theorem FI.fs {a b : St} {p k K : Nat} (h : FI a b p k) (hk : k ≤ K) : FS a b K := by
  refine ⟨fun i => if i = p then k else 0, fun i hi => ?_, fun i _ => ?_⟩
  · rw [h i hi]
    show (if i = p then _ else _) = _ + nI (if i = p then k else 0)
    split
    · rfl
    · rw [nI_0]; exact (Int32.add_zero _).symm
  · show (if i = p then k else 0) ≤ K
    split <;> omega
theorem FS.sum {a b : St} {K : Nat} (h : FS a b K) : ∀ {t : Nat}, t ≤ 6 → ∃ m, m ≤ t * K ∧ SM (vJ b 5) t = SM (vJ a 5) t + nI m := by
  obtain ⟨ks, e, l⟩ := h
  intro t
  induction t with
  | zero => intro _; exact ⟨0, by simp, by simp only [SM]; decide⟩
  | succ t ih =>
    intro ht
    obtain ⟨m, h1, h2⟩ := ih (by omega)
    refine ⟨m + ks t, ?_, ?_⟩
    · have := l t (by omega)
      rw [Nat.succ_mul]; omega
    · simp only [SM]
      rw [h2, e t (by omega), ← nI_add]
      generalize SM (vJ a 5) t = x
      generalize vJ a 5 t = y
      rw [Int32.add_assoc, Int32.add_assoc, ← Int32.add_assoc (nI m), Int32.add_comm (nI m) y, Int32.add_assoc]
def FXd (c : Nat) (σ σ' : St) : Prop := (∀ k f, (k ≠ c ∨ (f ≠ 8 ∧ f ≠ 9 ∧ f ≠ 13)) → vI σ' k f = vI σ k f) ∧ (∀ k, k ≠ c + 4 → k ≠ c + 5 → k ≠ c + 6 → k ≠ c + 8 → vJ σ' k = vJ σ k) ∧ (∀ k, vL σ' k = vL σ k) ∧ (∀ k, vH σ' k = vH σ k)
def FMd (τ τ' : St) : Prop := (∀ f, f ≠ 1 → f ≠ 2 → f ≠ 30 → vI τ' 0 f = vI τ 0 f) ∧ (∀ k, k ≠ 4 → k ≠ 5 → k ≠ 6 → k ≠ 17 → vJ τ' k = vJ τ k) ∧ (∀ k, vL τ' k = vL τ k)
theorem FXd.tr {c : Nat} {a b d : St} (h1 : FXd c a b) (h2 : FXd c b d) : FXd c a d :=
  ⟨fun k f h => (h2.1 k f h).trans (h1.1 k f h), fun k q1 q2 q3 q4 => (h2.2.1 k q1 q2 q3 q4).trans (h1.2.1 k q1 q2 q3 q4), fun k => (h2.2.2.1 k).trans (h1.2.2.1 k), fun k => (h2.2.2.2 k).trans (h1.2.2.2 k)⟩
theorem FMd.tr {a b d : St} (h1 : FMd a b) (h2 : FMd b d) : FMd a d :=
  ⟨fun f q1 q2 q3 => (h2.1 f q1 q2 q3).trans (h1.1 f q1 q2 q3), fun k q1 q2 q3 q4 => (h2.2.1 k q1 q2 q3 q4).trans (h1.2.1 k q1 q2 q3 q4), fun k => (h2.2.2 k).trans (h1.2.2 k)⟩
theorem FXd.rf {c : Nat} {a : St} : FXd c a a := ⟨fun _ _ _ => rfl, fun _ _ _ _ _ => rfl, fun _ => rfl, fun _ => rfl⟩
theorem FMd.rf {a : St} : FMd a a := ⟨fun _ _ _ _ => rfl, fun _ _ _ _ _ => rfl, fun _ => rfl⟩
theorem FXk.d {c : Nat} {a b : St} (h : FXk c a b) : FXd c a b := ⟨fun k f q => h.1 k f (q.elim Or.inl (fun q => Or.inr ⟨q.1, q.2.2⟩)), h.2⟩
theorem FMk.d {a b : St} (h : FMk a b) : FMd a b := ⟨fun f q1 _ q3 => h.1 f q1 q3, h.2⟩
/-- one who comes first (or is away), in both: nobody, or the same -/
def WH (x : Int32) (y : Int32) (t : Nat) : Prop := (x = -1 ∧ y = -1) ∨ ∃ f, f < t ∧ x = nI f ∧ y = nI f
theorem WH.eq {x y : Int32} {t : Nat} (h : WH x y t) : x = y := by rcases h with ⟨h1, h2⟩ | ⟨f, -, h1, h2⟩ <;> rw [h1, h2]
theorem KR_day {σ τ : St} {c t d : Nat} {CL : List Cl} (h : KR σ c τ t d CL) (hc : 49 ≤ c) (hd : d + 1 < 2 ^ 20) : KR (sI σ c 9 (nI (d + 1))) c (sI τ 0 2 (nI (d + 1))) t (d + 1) CL := by
  obtain ⟨⟨a1, a2, a3, a4, a5, a6⟩, ⟨g, g0, g1, g2⟩, b1, b2, b3, c1, c2, c3, c4, c5⟩ := h
  have hr := tg_1 c4
  refine ⟨⟨a1, hd, by simp [vI_sI]; exact a3, by simp [vI_sI]; exact a4, by simp [vI_sI], by simp [vI_sI]⟩, ⟨g, g0, by simp [vI_sI]; exact g1, by simp [vI_sI]; exact g2⟩, b1, b2, b3, ?_, c2, c3, c4, ?_⟩
  · unfold LF
    simp [vI_sI]
    exact c1
  · exact XR_congr (σ := σ) (r := vH σ c) (fun f => by rw [vI_sI, if_neg (by omega)]) (fun k h1 h2 => rfl) c5
theorem go36 {c t d : Nat} {CL : List Cl} (hc : 49 ≤ c) {x1 x2 x3 x4 x5 : Int32} : ∀ (m i n : Nat) (σ τ : St), KR σ c τ t d CL → WH x2 (vI τ 0 32) t → WH x3 (vI τ 0 31) t → i + m = t → m < n → ∃ σ' τ', f_K_go_l36 n c x1 x2 x3 x4 x5 (nI i) σ = some σ' ∧ f_M_goDay_l18 n 0 (nI i) τ = some τ' ∧ KR σ' c τ' t d CL ∧ FXk c σ σ' ∧ FMk τ τ' ∧ FS τ τ' (2 * m) := by
  intro m
  induction m with
  | zero =>
    intro i n σ τ hK hf ha hi hn
    obtain ⟨n, rfl⟩ : ∃ z, n = z + 1 := ⟨n - 1, by omega⟩
    have ht := hK.1.1
    refine ⟨σ, τ, ?_, ?_, hK, FXk.rf, FMk.rf, FS.rf rfl⟩
    · rw [f_K_go_l36, hK.1.2.2.1, if_pos (nI_le (by omega) (by omega))]
    · rw [f_M_goDay_l18, hK.1.2.2.2.1, if_pos (nI_le (by omega) (by omega))]
  | succ m ih =>
    intro i n σ τ hK hf ha hi hn
    obtain ⟨n, rfl⟩ : ∃ z, n = z + 1 := ⟨n - 1, by omega⟩
    have ht := hK.1.1
    rw [f_K_go_l36, hK.1.2.2.1, if_neg (nI_ge (by omega) (by omega)), f_M_goDay_l18, hK.1.2.2.2.1, if_neg (nI_ge (by omega) (by omega)), ← hf.eq, ← ha.eq, nI_1]
    have skip : ∃ σ' τ', f_K_go_l36 n c x1 x2 x3 x4 x5 (nI (i + 1)) σ = some σ' ∧ f_M_goDay_l18 n 0 (nI (i + 1)) τ = some τ' ∧ KR σ' c τ' t d CL ∧ FXk c σ σ' ∧ FMk τ τ' ∧ FS τ τ' (2 * (m + 1)) := by
      obtain ⟨σ', τ', e1, e2, k1, k2, k3, k4⟩ := ih (i + 1) n σ τ hK hf ha (by omega) (by omega)
      exact ⟨σ', τ', e1, e2, k1, k2, k3, k4.le (by omega)⟩
    by_cases h2 : nI i = x2
    · rw [if_pos h2]
      by_cases h3 : nI i = x3
      · rw [if_pos h3]; exact skip
      · rw [if_neg h3, if_pos h2]; exact skip
    · rw [if_neg h2]
      by_cases h3 : nI i = x3
      · rw [if_pos h3, if_pos h3]; exact skip
      · rw [if_neg h3, if_neg h3, if_neg h2]
        obtain ⟨v, k, σ1, τ1, e1, e2, K1, A1, M1, -, -, hk, I1⟩ := tak hK hc (p := i) (by omega)
        rw [e1, e2, Option.bind_some, Option.bind_some]
        obtain ⟨σ', τ', e3, e4, k1, k2, k3, k4⟩ := ih (i + 1) n σ1 τ1 K1 (by rw [M1.1 32 (by decide) (by decide)]; exact hf) (by rw [M1.1 31 (by decide) (by decide)]; exact ha) (by omega) (by omega)
        exact ⟨σ', τ', e3, e4, k1, A1.tr k2, M1.tr k3, ((I1.fs hk).tr k4).le (by omega)⟩
/-- one day: the one who comes first, the others by numbers, then the day -/
theorem day2 {σ τ : St} {c t d : Nat} {CL : List Cl} (hc : 49 ≤ c) {x1 x2 x3 x4 x5 : Int32} (hK : KR σ c τ t d CL) (hf : WH x2 (vI τ 0 32) t) (ha : WH x3 (vI τ 0 31) t) (hd : d + 1 < 2 ^ 20) : ∃ σ1 σ2 τ', (if x2 = (-1) then some σ else ((f_K_taking c x2 σ).bind fun q10 => some q10.2)) = some σ1 ∧ f_K_go_l36 FU c x1 x2 x3 x4 x5 0 σ1 = some σ2 ∧ vI σ2 c 9 + 1 = nI (d + 1) ∧ f_M_goDay 0 τ = some τ' ∧ KR (sI σ2 c 9 (nI (d + 1))) c τ' t (d + 1) CL ∧ FXd c σ (sI σ2 c 9 (nI (d + 1))) ∧ FMd τ τ' ∧ FS τ τ' 14 := by
  have ht := hK.1.1
  have P1 : ∃ σ1 τ1, (if x2 = (-1) then some σ else ((f_K_taking c x2 σ).bind fun q10 => some q10.2)) = some σ1 ∧ (if (vI τ 0 32) < 0 then some τ else ((f_M_goes 0 (vI τ 0 32) τ).bind fun q6 => some q6.2)) = some τ1 ∧ KR σ1 c τ1 t d CL ∧ FXk c σ σ1 ∧ FMk τ τ1 ∧ FS τ τ1 2 := by
    rcases hf with ⟨h1, h2⟩ | ⟨f, hft, h1, h2⟩
    · rw [h1, h2]
      exact ⟨σ, τ, rfl, rfl, hK, FXk.rf, FMk.rf, (FS.rf rfl).le (by decide)⟩
    · obtain ⟨v, k, σ1, τ1, e1, e2, K1, A1, M1, -, -, hk, I1⟩ := tak hK hc hft
      refine ⟨σ1, τ1, ?_, ?_, K1, A1, M1, I1.fs hk⟩
      · rw [h1, if_neg (fun q => nI_pos (show f < 2 ^ 31 by omega) (by rw [q]; decide)), e1]; rfl
      · rw [h2, if_neg (nI_pos (by omega)), e2]; rfl
  obtain ⟨σ1, τ1, e1, e2, K1, A1, M1, S1⟩ := P1
  obtain ⟨σ2, τ2, e3, e4, K2, A2, M2, S2⟩ := go36 (x1 := x1) (x4 := x4) (x5 := x5) hc t 0 FU σ1 τ1 K1 (by rw [M1.1 32 (by decide) (by decide)]; exact hf) (by rw [M1.1 31 (by decide) (by decide)]; exact ha) (by omega) (by unfold FU; omega)
  rw [nI_0] at e3 e4
  refine ⟨σ1, σ2, sI τ2 0 2 (nI (d + 1)), e1, e3, by rw [K2.1.2.2.2.2.1, nI_1], ?_, KR_day K2 hc hd, (A1.tr A2).d.tr ⟨fun k f hk => ?_, fun _ _ _ _ _ => rfl, fun _ => rfl, fun _ => rfl⟩, (M1.tr M2).d.tr ⟨fun f q1 q2 q3 => ?_, fun _ _ _ _ _ => rfl, fun _ => rfl⟩, ?_⟩
  · unfold f_M_goDay
    rw [e2, Option.bind_some, e4, Option.bind_some, K2.1.2.2.2.2.2, nI_1]
    rfl
  · rw [vI_sI]
    rcases hk with hk | ⟨-, hk, -⟩
    · rw [if_neg hk]
    · simp [hk]
  · rw [vI_sI]; simp [q2]
  · have := (S1.tr S2).tr (FS.rf (τ := τ2) (τ' := sI τ2 0 2 (nI (d + 1))) rfl)
    exact this.le (by omega)
theorem go16 {c t : Nat} {CL : List Cl} (hc : 49 ≤ c) {x2 x3 x4 : Int32} {N : Nat} (hN : N < 2 ^ 20) : ∀ (m i n d : Nat) (σ τ : St), KR σ c τ t d CL → WH x2 (vI τ 0 32) t → WH x3 (vI τ 0 31) t → i + m = N → m < n → d + m < 2 ^ 20 → ∃ σ' τ', f_K_go_l16 n c (nI N) x2 x3 x4 (nI i) σ = some σ' ∧ f_M_goDays_l2 n 0 (nI N) (nI i) τ = some τ' ∧ KR σ' c τ' t (d + m) CL ∧ FXd c σ σ' ∧ FMd τ τ' ∧ FS τ τ' (14 * m) := by
  intro m
  induction m with
  | zero =>
    intro i n d σ τ hK hf ha hi hn hd
    obtain ⟨n, rfl⟩ : ∃ z, n = z + 1 := ⟨n - 1, by omega⟩
    refine ⟨σ, τ, ?_, ?_, hK, FXd.rf, FMd.rf, FS.rf rfl⟩
    · rw [f_K_go_l16, if_pos (nI_le (by omega) (by omega))]
    · rw [f_M_goDays_l2, if_pos (nI_le (by omega) (by omega))]
  | succ m ih =>
    intro i n d σ τ hK hf ha hi hn hd
    obtain ⟨n, rfl⟩ : ∃ z, n = z + 1 := ⟨n - 1, by omega⟩
    obtain ⟨σ1, σ2, τ1, e1, e2, e3, e4, K1, A1, M1, S1⟩ := day2 (x1 := nI N) (x4 := x4) (x5 := nI i) hc hK hf ha (by omega)
    rw [f_K_go_l16, if_neg (nI_ge (by omega) (by omega)), e1, Option.bind_some, e2, Option.bind_some, f_M_goDays_l2, if_neg (nI_ge (by omega) (by omega)), e4, Option.bind_some, nI_1, e3]
    obtain ⟨σ', τ', q1, q2, k1, k2, k3, k4⟩ := ih (i + 1) n (d + 1) _ τ1 K1 (by rw [M1.1 32 (by decide) (by decide) (by decide)]; exact hf) (by rw [M1.1 31 (by decide) (by decide) (by decide)]; exact ha) (by omega) (by omega) (by omega)
    exact ⟨σ', τ', q1, q2, by rw [show d + (m + 1) = d + 1 + m by omega]; exact k1, A1.tr k2, M1.tr k3, (S1.tr k4).le (by omega)⟩
/-- so many days: how many fetches there are -/
theorem go2 {σ τ : St} {c t d N : Nat} {CL : List Cl} (hc : 49 ≤ c) {x2 x3 : Int32} (hK : KR σ c τ t d CL) (hf : WH x2 (vI τ 0 32) t) (ha : WH x3 (vI τ 0 31) t) (hN : N ≤ 60) (hd : d + N < 2 ^ 20) : ∃ m σ' τ', f_K_go c (nI N) x2 x3 σ = some (nI m, σ') ∧ f_M_goDays 0 (nI N) τ = some τ' ∧ m ≤ 5040 ∧ SM (vJ τ' 5) t = SM (vJ τ 5) t + nI m ∧ KR σ' c τ' t (d + N) CL ∧ FXd c σ σ' ∧ FMd τ τ' ∧ FS τ τ' (14 * N) := by
  have ht := hK.1.1
  obtain ⟨σ', τ', e1, e2, K1, A1, M1, S1⟩ := go16 (x4 := SM (vJ σ (c + 5)) t) hc (N := N) (by omega) N 0 FU d σ τ hK hf ha (by omega) (by unfold FU; omega) (by omega)
  rw [nI_0] at e1 e2
  obtain ⟨m, hm, h1⟩ := S1.sum ht
  have hX : ∀ {σ τ : St} {d : Nat}, KR σ c τ t d CL → SM (vJ σ (c + 5)) t = SM (vJ τ 5) t := fun h => SM_congr (fun i hi => (h.2.2.1 i (by omega)).2.2.2.2.1)
  refine ⟨m, σ', τ', ?_, ?_, ?_, h1, K1, A1, M1, S1⟩
  · unfold f_K_go
    rw [hK.1.2.2.1, x_sum ht, Option.bind_some, e1, Option.bind_some, K1.1.2.2.1, x_sum ht, Option.bind_some, hX hK, hX K1, h1]
    congr 2
    rw [Int32.add_comm, Int32.add_sub_cancel]
  · unfold f_M_goDays
    rw [e2]; rfl
  · have : t * (14 * N) ≤ 6 * (14 * 60) := Nat.mul_le_mul ht (by omega)
    omega
