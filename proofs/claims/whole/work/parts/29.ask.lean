/-! ===== PURE: asking: what goes on from how all is, and changes nothing ===== -/
def FB (N : Nat) (τ : St) : Prop := (∀ i, i < 6 → ∃ k, k ≤ N ∧ vJ τ 5 i = nI k) ∧ ∀ i, i < 6 → ∃ k, k ≤ N ∧ vJ τ 30 i = nI k
def RR (N : Nat) (σ τ : St) (t d : Nat) (CL : List Cl) (CLs : List (List Cl)) (s : Nat) : Prop := R1 σ τ t d CL CLs ∧ Rst σ τ CLs s ∧ FB N τ
def Rl (N : Nat) (σ τ : St) : Prop := ∃ t d CL CLs s, RR N σ τ t d CL CLs s
def Sm {α : Type} (N : Nat) (x y : Option (α × St)) : Prop := ∃ r σ' τ', x = some (r, σ') ∧ y = some (r, τ') ∧ Rl N σ' τ'
theorem in_t {p x y : Int32} {a b : Nat} (h : f_M_in 0 p x y = true) (ea : x = nI a) (eb : y = nI b) (ha : a < 2 ^ 31) (hb : b < 2 ^ 31) : ∃ i, a ≤ i ∧ i ≤ b ∧ p = nI i := by
  subst ea eb
  unfold f_M_in at h
  by_cases h1 : p < nI a
  · rw [if_pos h1] at h; cases h
  rw [if_neg h1] at h
  by_cases h2 : nI b < p
  · rw [if_pos h2] at h; cases h
  have g1 := Int32.le_iff_toInt_le.mp (Int32.not_lt.mp h1)
  have g2 := Int32.le_iff_toInt_le.mp (Int32.not_lt.mp h2)
  rw [nI_toInt ha] at g1
  rw [nI_toInt hb] at g2
  refine ⟨p.toInt.toNat, by omega, by omega, ?_⟩
  apply Int32.toInt_inj.mp
  rw [nI_toInt (by omega)]
  omega
theorem tk_eq {σ τ : St} (h : vI σ 49 0 = vI τ 0 0) (p : Int32) : f_X_isTaker 0 p σ = f_M_isTaker 0 p τ := by
  unfold f_X_isTaker f_M_isTaker
  rw [h]; rfl
theorem tk_t {τ : St} {t : Nat} {p : Int32} (ht : vI τ 0 0 = nI t) (h6 : t ≤ 6) (h : f_M_isTaker 0 p τ = true) : ∃ i, i < t ∧ p = nI i := by
  unfold f_M_isTaker at h
  rw [ht] at h
  cases t with
  | zero =>
    exfalso
    unfold f_M_in at h
    by_cases h1 : p < 0
    · rw [if_pos h1] at h; cases h
    rw [if_neg h1] at h
    by_cases h2 : nI 0 - 1 < p
    · rw [if_pos h2] at h; cases h
    have := Int32.le_trans (Int32.not_lt.mp h1) (Int32.not_lt.mp h2)
    revert this; decide
  | succ t =>
    obtain ⟨i, -, h1, h2⟩ := in_t h (a := 0) (b := t) (by decide) (by rw [nI_pred]) (by decide) (by omega)
    exact ⟨i, by omega, h2⟩
def LK (τ : St) : Prop := vI τ 0 27 = -1 ∧ vI τ 0 28 = -1 ∧ vI τ 0 31 = -1 ∧ vI τ 0 32 = -1
/-- but for what is told for a while -/
def FT (τb τ : St) : Prop := (∀ f, f ≠ 27 → f ≠ 28 → f ≠ 31 → f ≠ 32 → vI τ 0 f = vI τb 0 f) ∧ (∀ k, vJ τ k = vJ τb k) ∧ ∀ k, vL τ k = vL τb k
theorem FT.rf {τ : St} : FT τ τ := ⟨fun _ _ _ _ _ => rfl, fun _ => rfl, fun _ => rfl⟩
theorem FT.s {τb τ : St} {f : Nat} {x : Int32} (hf : f = 27 ∨ f = 28 ∨ f = 31 ∨ f = 32) (h : FT τb τ) : FT τb (sI τ 0 f x) :=
  ⟨fun g q1 q2 q3 q4 => by rw [vI_sI, if_pos rfl, if_neg (by omega)]; exact h.1 g q1 q2 q3 q4, h.2.1, h.2.2⟩
theorem FT.fin {N : Nat} {σ τb τ : St} {t d s : Nat} {CL : List Cl} {CLs : List (List Cl)} (h : RR N σ τb t d CL CLs s) (hf : FT τb τ) (hl : LK τ) : RR N σ τ t d CL CLs s := by
  obtain ⟨h1, h2, h3⟩ := h
  have hp : PM τb τ := ⟨fun f q => by simp at q; exact hf.1 f (by omega) (by omega) (by omega) (by omega), fun k _ => hf.2.1 k, fun k _ => hf.2.2 k⟩
  refine ⟨R1.keep PX.rf ⟨fun _ _ => rfl, rfl, rfl, rfl, rfl⟩ hp ⟨hf.1 1 (by decide) (by decide) (by decide) (by decide), hf.1 2 (by decide) (by decide) (by decide) (by decide), hl, fun i _ => by rw [hf.2.1, hf.2.1, hf.2.1]; exact ⟨rfl, rfl, rfl⟩⟩ h1, h2.keep PX.rf hp, ?_⟩
  unfold FB
  rw [hf.2.1, hf.2.1]
  exact h3
def NX (σ σ' : St) : Prop := (∀ f, f ≠ 13 → vI σ' 49 f = vI σ 49 f) ∧ vJ σ' 53 = vJ σ 53 ∧ vJ σ' 54 = vJ σ 54 ∧ vJ σ' 55 = vJ σ 55 ∧ vJ σ' 56 = vJ σ 56
theorem NX.tr {a b c : St} (h1 : NX a b) (h2 : NX b c) : NX a c := ⟨fun f q => (h2.1 f q).trans (h1.1 f q), h2.2.1.trans h1.2.1, h2.2.2.1.trans h1.2.2.1, h2.2.2.2.1.trans h1.2.2.2.1, h2.2.2.2.2.trans h1.2.2.2.2⟩
theorem NX.rf {a : St} : NX a a := ⟨fun _ _ => rfl, rfl, rfl, rfl, rfl⟩
/-- in the midst of an asking -/
def AK (σ0 τ0 σ τ : St) : Prop := PX σ0 σ ∧ NX σ0 σ ∧ PM τ0 τ ∧ KP τ0 τ
theorem FXd.n67 {σ σ' : St} (h : FXd 67 σ σ') : NX σ σ' := ⟨fun f _ => h.1 49 f (Or.inl (by decide)), h.2.1 53 (by decide) (by decide) (by decide) (by decide), h.2.1 54 (by decide) (by decide) (by decide) (by decide), h.2.1 55 (by decide) (by decide) (by decide) (by decide), h.2.1 56 (by decide) (by decide) (by decide) (by decide)⟩
theorem KP.m {τ0 τ τ' : St} (h : KP τ0 τ) (h1 : vI τ' 0 33 = vI τ 0 33) (h2 : vI τ' 0 34 = vI τ 0 34) (h3 : vJ τ' 18 = vJ τ 18) (h4 : vJ τ' 19 = vJ τ 19) (h5 : vJ τ' 20 = vJ τ 20) : KP τ0 τ' := by
  unfold KP
  rw [h1, h2, h3, h4, h5]
  exact h
theorem AK.d {σ0 τ0 σ τ σ' τ' : St} (h : AK σ0 τ0 σ τ) (hx : FXd 67 σ σ') (hm : FMd τ τ') : AK σ0 τ0 σ' τ' :=
  ⟨h.1.tr hx.p67, h.2.1.tr hx.n67, h.2.2.1.tr hm.p, h.2.2.2.m (hm.1 33 (by decide) (by decide) (by decide)) (hm.1 34 (by decide) (by decide) (by decide)) (hm.2.1 18 (by decide) (by decide) (by decide) (by decide)) (hm.2.1 19 (by decide) (by decide) (by decide) (by decide)) (hm.2.1 20 (by decide) (by decide) (by decide) (by decide))⟩
/-- alike, but for the trial's numbers of its own -/
def AG (σ σ' : St) : Prop := (∀ k f, (k ≠ 67 ∨ (f ≠ 11 ∧ f ≠ 12)) → vI σ' k f = vI σ k f) ∧ (∀ k, vJ σ' k = vJ σ k) ∧ (∀ k, vL σ' k = vL σ k) ∧ ∀ k, vH σ' k = vH σ k
theorem AG.rf {σ : St} : AG σ σ := ⟨fun _ _ _ => rfl, fun _ => rfl, fun _ => rfl, fun _ => rfl⟩
theorem AG.s {σ : St} {f : Nat} {x : Int32} (hf : f = 11 ∨ f = 12) : AG σ (sI σ 67 f x) := by
  refine ⟨fun k g q => ?_, fun _ => rfl, fun _ => rfl, fun _ => rfl⟩
  rw [vI_sI]
  rcases q with q | q
  · rw [if_neg q]
  · split
    · rw [if_neg (by omega)]
    · rfl
theorem AG.p {σ σ' : St} (h : AG σ σ') : PX σ σ' := ⟨fun k f q _ => h.1 k f (Or.inl (by omega)), fun k _ _ _ => h.2.1 k, h.2.2.1, fun k _ _ => h.2.2.2 k⟩
theorem AG.n {σ σ' : St} (h : AG σ σ') : NX σ σ' := ⟨fun f _ => h.1 49 f (Or.inl (by decide)), h.2.1 _, h.2.1 _, h.2.1 _, h.2.1 _⟩
theorem nIm1 {l : Nat} (h : l < 2 ^ 31) : ¬ nI l = -1 := fun q => nI_pos h (by rw [q]; decide)
