/-! ===== PURE: calls: taken ===== -/
def st0 : St := (fun _ _ => 0, fun _ _ => 0, fun _ _ => 0, fun _ => 0)
theorem under_s {x1 : Int32} {σ : St} : ∀ (n : Nat) (x2 x3 : Int32), f_X_isUnder_l4 n x1 x2 x3 σ = f_X_isUnder_l4 n x1 x2 x3 st0 := by
  intro n
  induction n with
  | zero => intro _ _; rfl
  | succ n ih => intro x2 x3; rw [f_X_isUnder_l4, f_X_isUnder_l4, ih]
def tkM (κ p2 : Int32) : Option Int32 := (if p2 = 0 then some κ else (if κ = p2 then some κ else (if p2 = 1 then (if κ = 4 then some κ else (if p2 = 2 then (if κ = 5 then some κ else (if p2 = 3 then (if κ = 6 then some κ else some (-12)) else some (-12))) else (if p2 = 3 then (if κ = 6 then some κ else some (-12)) else some (-12)))) else (if p2 = 2 then (if κ = 5 then some κ else (if p2 = 3 then (if κ = 6 then some κ else some (-12)) else some (-12))) else (if p2 = 3 then (if κ = 6 then some κ else some (-12)) else some (-12))))))
theorem taken_ok : ∀ k, k < 7 → ∀ j, j < 7 → ((f_X_isUnder (nI k) (nI j) st0).bind fun q4 => (if q4 = false then some (-12) else some (nI k))) = tkM (nI k) (nI j) ∧ (tkM (nI k) (nI j)).isSome = true := by decide +kernel
theorem op_taken {N : Nat} {σ τ : St} {t d s : Nat} {CL : List Cl} {CLs : List (List Cl)} (h : RR N σ τ t d CL CLs s) (p w : Int32) : ∃ r, f_X_taken 0 p w σ = some r ∧ f_M_taken 0 p w τ = some r := by
  unfold f_X_taken f_M_taken
  rw [h.tk, in_X]
  refine ex_ite (fun _ => ⟨_, rfl, rfl⟩) (fun hw => ex_ite (fun _ => ⟨_, rfl, rfl⟩) (fun hp => ?_))
  obtain ⟨j, -, hj, rfl⟩ := in_t (neg_f hw) (a := 0) (b := 6) (by decide) (by decide) (by decide) (by decide)
  obtain ⟨i, hi, hi6, rfl⟩ := h.tt hp
  obtain ⟨k, hk, ek⟩ := h.1.2.2.1 i hi
  have hok : ok (nI i) 6 = true := ok_nI hi6 (by decide)
  obtain ⟨h1, h2⟩ := taken_ok k (by omega) j (by omega)
  have e1 : vJ σ (49 + 1) i = nI k := (h.1.1.2.2.1 i hi6).1.trans ek
  have e2 : f_X_isUnder (nI k) (nI j) σ = f_X_isUnder (nI k) (nI j) st0 := by unfold f_X_isUnder; rw [under_s]
  simp only [hok, if_true, nx_nI (show i < 2 ^ 31 by omega), e1, ek, e2]
  rw [h1]
  obtain ⟨r, hr⟩ := Option.isSome_iff_exists.mp h2
  exact ⟨r, hr, hr⟩
