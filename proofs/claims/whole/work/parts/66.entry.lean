/-! ===== THE LAW: what the tables and the start say ===== -/
def tmS (i : Nat) : Term := match i with
  | 0 => .string "LittleLeft$Kitchen" 48
  | 1 => .string "LittleLeft$Reader" 44
  | 2 => .string "LittleLeft$Reader" 59
  | 3 => .string "LittleLeft$Reader" 61
  | _ => .string "LittleLeft$Reader" 63
theorem intb {w : Cond} (i : Nat) (h : tables_1[i]? = some w) : w ∈ lw_tbl := List.mem_append_right _ (List.mem_of_getElem? h)
theorem ev_ex {s : State} {args : Array Value} (hgv : (Jvm.Cond.and given_1 narrow_1).before args s = true) : ∀ i : Nat, i < 5 → (Cond.exactly (tmS i) "java/lang/String").before args s = true := by
  have hs := flat_of_before _ hgv
  intro i hi
  rcases (show i = 0 ∨ i = 1 ∨ i = 2 ∨ i = 3 ∨ i = 4 by omega) with rfl | rfl | rfl | rfl | rfl
  · exact hs _ (by decide +kernel)
  · exact hs _ (by decide +kernel)
  · exact hs _ (by decide +kernel)
  · exact hs _ (by decide +kernel)
  · exact hs _ (by decide +kernel)
theorem ev_co {s : State} {args : Array Value} (hgv : (Jvm.Cond.and given_1 narrow_1).before args s = true) : ∀ i : Nat, i < 5 → (Cond.eq (.field (tmS i) "java/lang/String" "coder" "B") (.int 0)).before args s = true := by
  have hs := flat_of_before _ hgv
  intro i hi
  rcases (show i = 0 ∨ i = 1 ∨ i = 2 ∨ i = 3 ∨ i = 4 by omega) with rfl | rfl | rfl | rfl | rfl
  · exact hs _ (by decide +kernel)
  · exact hs _ (by decide +kernel)
  · exact hs _ (by decide +kernel)
  · exact hs _ (by decide +kernel)
  · exact hs _ (by decide +kernel)
theorem ev_ar {s : State} {args : Array Value} (hgv : (Jvm.Cond.and given_1 narrow_1).before args s = true) : ∀ i : Nat, i < 5 → (Cond.arrayOf (.field (tmS i) "java/lang/String" "value" "[B") .byte).before args s = true := by
  have hs := flat_of_before _ hgv
  intro i hi
  rcases (show i = 0 ∨ i = 1 ∨ i = 2 ∨ i = 3 ∨ i = 4 by omega) with rfl | rfl | rfl | rfl | rfl
  · exact hs _ (by decide +kernel)
  · exact hs _ (by decide +kernel)
  · exact hs _ (by decide +kernel)
  · exact hs _ (by decide +kernel)
  · exact hs _ (by decide +kernel)
theorem ev_le {s : State} {args : Array Value} (hgv : (Jvm.Cond.and given_1 narrow_1).before args s = true) : ∀ i : Nat, i < 5 → (Cond.eq (.length (.field (tmS i) "java/lang/String" "value" "[B")) (.int (Int32.ofNat (lenS.getD i 0)))).before args s = true := by
  have hs := flat_of_before _ hgv
  intro i hi
  rcases (show i = 0 ∨ i = 1 ∨ i = 2 ∨ i = 3 ∨ i = 4 by omega) with rfl | rfl | rfl | rfl | rfl
  · exact hs _ (by decide +kernel)
  · exact hs _ (by decide +kernel)
  · exact hs _ (by decide +kernel)
  · exact hs _ (by decide +kernel)
  · exact hs _ (by decide +kernel)
theorem ev_el {s : State} {args : Array Value} (hgv : (Jvm.Cond.and given_1 narrow_1).before args s = true) : ∀ i : Nat, i < 5 → ∀ j : Nat, j < lenS.getD i 0 → (Cond.eq (.elem (.field (tmS i) "java/lang/String" "value" "[B") (.int (Int32.ofNat j))) (.int ((bytS.getD i []).getD j 0))).before args s = true := by
  have hs := flat_of_before _ hgv
  intro i hi j hj
  rcases (show i = 0 ∨ i = 1 ∨ i = 2 ∨ i = 3 ∨ i = 4 by omega) with rfl | rfl | rfl | rfl | rfl
  · have hj2 : j < 6 := hj
    rcases (show j = 0 ∨ j = 1 ∨ j = 2 ∨ j = 3 ∨ j = 4 ∨ j = 5 by omega) with rfl | rfl | rfl | rfl | rfl | rfl
    · exact hs _ (by decide +kernel)
    · exact hs _ (by decide +kernel)
    · exact hs _ (by decide +kernel)
    · exact hs _ (by decide +kernel)
    · exact hs _ (by decide +kernel)
    · exact hs _ (by decide +kernel)
  · have hj2 : j < 5 := hj
    rcases (show j = 0 ∨ j = 1 ∨ j = 2 ∨ j = 3 ∨ j = 4 by omega) with rfl | rfl | rfl | rfl | rfl
    · exact hs _ (by decide +kernel)
    · exact hs _ (by decide +kernel)
    · exact hs _ (by decide +kernel)
    · exact hs _ (by decide +kernel)
    · exact hs _ (by decide +kernel)
  · have hj2 : j < 6 := hj
    rcases (show j = 0 ∨ j = 1 ∨ j = 2 ∨ j = 3 ∨ j = 4 ∨ j = 5 by omega) with rfl | rfl | rfl | rfl | rfl | rfl
    · exact hs _ (by decide +kernel)
    · exact hs _ (by decide +kernel)
    · exact hs _ (by decide +kernel)
    · exact hs _ (by decide +kernel)
    · exact hs _ (by decide +kernel)
    · exact hs _ (by decide +kernel)
  · have hj2 : j < 5 := hj
    rcases (show j = 0 ∨ j = 1 ∨ j = 2 ∨ j = 3 ∨ j = 4 by omega) with rfl | rfl | rfl | rfl | rfl
    · exact hs _ (by decide +kernel)
    · exact hs _ (by decide +kernel)
    · exact hs _ (by decide +kernel)
    · exact hs _ (by decide +kernel)
    · exact hs _ (by decide +kernel)
  · have hj2 : j < 4 := hj
    rcases (show j = 0 ∨ j = 1 ∨ j = 2 ∨ j = 3 by omega) with rfl | rfl | rfl | rfl
    · exact hs _ (by decide +kernel)
    · exact hs _ (by decide +kernel)
    · exact hs _ (by decide +kernel)
    · exact hs _ (by decide +kernel)
theorem ev_ne {s : State} {args : Array Value} (hgv : (Jvm.Cond.and given_1 narrow_1).before args s = true) : ∀ i j : Nat, i < 5 → j < 5 → i ≠ j → (Cond.not (Cond.eq (tmS i) (tmS j))).before args s = true ∨ (Cond.not (Cond.eq (tmS j) (tmS i))).before args s = true := by
  have hs := flat_of_before _ hgv
  intro i j hi hj hij
  rcases (show i = 0 ∨ i = 1 ∨ i = 2 ∨ i = 3 ∨ i = 4 by omega) with rfl | rfl | rfl | rfl | rfl
  · rcases (show j = 0 ∨ j = 1 ∨ j = 2 ∨ j = 3 ∨ j = 4 by omega) with rfl | rfl | rfl | rfl | rfl
    · exact absurd rfl hij
    · exact Or.inl (hs _ (by decide +kernel))
    · exact Or.inl (hs _ (by decide +kernel))
    · exact Or.inl (hs _ (by decide +kernel))
    · exact Or.inl (hs _ (by decide +kernel))
  · rcases (show j = 0 ∨ j = 1 ∨ j = 2 ∨ j = 3 ∨ j = 4 by omega) with rfl | rfl | rfl | rfl | rfl
    · exact Or.inr (hs _ (by decide +kernel))
    · exact absurd rfl hij
    · exact Or.inl (hs _ (by decide +kernel))
    · exact Or.inl (hs _ (by decide +kernel))
    · exact Or.inl (hs _ (by decide +kernel))
  · rcases (show j = 0 ∨ j = 1 ∨ j = 2 ∨ j = 3 ∨ j = 4 by omega) with rfl | rfl | rfl | rfl | rfl
    · exact Or.inr (hs _ (by decide +kernel))
    · exact Or.inr (hs _ (by decide +kernel))
    · exact absurd rfl hij
    · exact Or.inl (hs _ (by decide +kernel))
    · exact Or.inl (hs _ (by decide +kernel))
  · rcases (show j = 0 ∨ j = 1 ∨ j = 2 ∨ j = 3 ∨ j = 4 by omega) with rfl | rfl | rfl | rfl | rfl
    · exact Or.inr (hs _ (by decide +kernel))
    · exact Or.inr (hs _ (by decide +kernel))
    · exact Or.inr (hs _ (by decide +kernel))
    · exact absurd rfl hij
    · exact Or.inl (hs _ (by decide +kernel))
  · rcases (show j = 0 ∨ j = 1 ∨ j = 2 ∨ j = 3 ∨ j = 4 by omega) with rfl | rfl | rfl | rfl | rfl
    · exact Or.inr (hs _ (by decide +kernel))
    · exact Or.inr (hs _ (by decide +kernel))
    · exact Or.inr (hs _ (by decide +kernel))
    · exact Or.inr (hs _ (by decide +kernel))
    · exact absurd rfl hij
theorem ev_ka {s : State} {args : Array Value} (hgv : (Jvm.Cond.and given_1 narrow_1).before args s = true) : ∀ j : Nat, j < 7 → (Term.elem (.static "LittleLeft" "KIND_ABOVE" "[I") (.int (Int32.ofNat j))).eval args s none [] s = some (.int (kAbove j)) := by
  have hs := flat_of_before _ hgv
  intro j hj
  rcases (show j = 0 ∨ j = 1 ∨ j = 2 ∨ j = 3 ∨ j = 4 ∨ j = 5 ∨ j = 6 by omega) with rfl | rfl | rfl | rfl | rfl | rfl | rfl
  · exact va_eqt (hs _ (by decide +kernel))
  · exact va_eqt (hs _ (by decide +kernel))
  · exact va_eqt (hs _ (by decide +kernel))
  · exact va_eqt (hs _ (by decide +kernel))
  · exact va_eqt (hs _ (by decide +kernel))
  · exact va_eqt (hs _ (by decide +kernel))
  · exact va_eqt (hs _ (by decide +kernel))
theorem law_env {s : State} {args : Array Value} (hts : ∀ w ∈ lw_tbl, w.before args s = true) (hgv : (Jvm.Cond.and given_1 narrow_1).before args s = true) : ∃ g : GX, va_K g.1 vwCl (tyW g) s ∧ E0 g (fun q => s.heap.size ≤ q) s s.heap ∧ ZO s := by
  have hs := flat_of_before _ hgv
  have hA : ∀ a : Nat, a < s.heap.size → ¬ (fun q : Nat => s.heap.size ≤ q) a := fun a h => Nat.not_le.mpr h
  have ht : ∀ w ∈ lwG, w.before args s = true := fun w h => hts w (lwG_tbl w h)
  obtain ⟨c0, i0, k0⟩ := u_known (C := R_A) (T := F_A) (N := 5) ht u_A_in (ht _ wn_A)
  obtain ⟨c1, i1, k1⟩ := u_known (C := R_K) (T := F_K) (N := 15) ht u_K_in (ht _ wn_K)
  obtain ⟨c2, i2, k2⟩ := u_known (C := R_N) (T := F_N) (N := 5) ht u_N_in (ht _ wn_N)
  obtain ⟨c3, i3, k3⟩ := u_known (C := R_E) (T := F_E) (N := 4) ht u_E_in (ht _ wn_E)
  obtain ⟨c4, i4, k4⟩ := u_known (C := R_R) (T := F_R) (N := 9) ht u_R_in (ht _ wn_R)
  obtain ⟨c5, i5, k5⟩ := u_known (C := R_T) (T := F_T) (N := 3) ht u_T_in (ht _ wn_T)
  obtain ⟨c6, i6, k6⟩ := u_known (C := R_X) (T := F_X) (N := 14) ht u_X_in (ht _ wn_X)
  obtain ⟨c7, i7, k7⟩ := u_known (C := R_M) (T := F_M) (N := 68) ht u_M_in (ht _ wn_M)
  obtain ⟨dC, dI, hKc⟩ : ∃ (dC : Nat → ClassId) (dI : Nat → Nat → Nat), ∀ (k : Nat) (q : vw_C), vwCl[k]? = some q → u_Kn s q.1 q.2.1 q.2.2 (dC k) (dI k) := by
    refine ⟨fun k => [c0, c1, c2, c3, c4, c5, c6, c7].getD k c0, fun k => [i0, i1, i2, i3, i4, i5, i6, i7].getD k i0, ?_⟩
    intro k q hq
    match k, hq with
    | 0, hq => cases hq; exact k0
    | 1, hq => cases hq; exact k1
    | 2, hq => cases hq; exact k2
    | 3, hq => cases hq; exact k3
    | 4, hq => cases hq; exact k4
    | 5, hq => cases hq; exact k5
    | 6, hq => cases hq; exact k6
    | 7, hq => cases hq; exact k7
    | k + 8, hq => simp [vwCl] at hq
  obtain ⟨cI, kI, pI, fI1, fI2, fI3⟩ := Cond.arrayClass_spec (ht _ wa_int)
  obtain ⟨cB, kB, pB, fB1, fB2, fB3⟩ := Cond.arrayClass_spec (ht _ wa_byte)
  obtain ⟨cL, kL, pL, fL1, fL2, fL3⟩ := Cond.arrayClass_spec (ht _ wa_long)
  obtain ⟨cZ, kZ, pZ, fZ1, fZ2, fZ3⟩ := Cond.arrayClass_spec (ht _ wa_boolean)
  have zR : (Cond.arrayOver (.object "LittleLeft$Rule")).before args s = true := hts _ (intb 190 (by decide +kernel))
  obtain ⟨pR, cR, kR, fR1, -, fR2, fR3, fR4⟩ := Cond.arrayOver_spec zR
  have zT : (Cond.arrayOver (.object "LittleLeft$Tape")).before args s = true := hts _ (intb 216 (by decide +kernel))
  obtain ⟨pT, cT, kT, fT1, -, fT2, fT3, fT4⟩ := Cond.arrayOver_spec zT
  obtain ⟨adK, adV, hS, hev⟩ := vk_Sof (N := 5) (tm := tmS) (len := lenS) (byt := bytS) (A := fun q : Nat => s.heap.size ≤ q) (by decide) (ev_ex hgv) (ev_co hgv) (ev_ar hgv) (ev_le hgv) (ev_el hgv) (ev_ne hgv) hA
  obtain ⟨t, ht1, hT⟩ := va_Tof (tm := .static "LittleLeft" "KIND_ABOVE" "[I") (ty := .int) (N := 7) (f := fun j => .int (kAbove j)) (A := fun q : Nat => s.heap.size ≤ q) (by decide) (hs _ (by decide +kernel)) (va_eqt (hs _ (by decide +kernel))) (ev_ka hgv) hA
  obtain ⟨g, hg⟩ : ∃ g : GX, g = ((dC, dI), fun c => if c = 3000 then t else if 2000 ≤ c then adV (c - 2000) else adK (c - 1000), fun k => [cI, cB, cL, cZ, cR, cT].getD k cI) := ⟨_, rfl⟩
  have ga : ∀ i, i < 5 → g.2.1 (1000 + i) = adK i := fun i hi => by
    rw [hg]
    show (if 1000 + i = 3000 then t else if 2000 ≤ 1000 + i then adV (1000 + i - 2000) else adK (1000 + i - 1000)) = adK i
    rw [if_neg (by omega), if_neg (by omega), Nat.add_sub_cancel_left]
  have gv : ∀ i, i < 5 → g.2.1 (2000 + i) = adV i := fun i hi => by
    rw [hg]
    show (if 2000 + i = 3000 then t else if 2000 ≤ 2000 + i then adV (2000 + i - 2000) else adK (2000 + i - 1000)) = adV i
    rw [if_neg (by omega), if_pos (by omega), Nat.add_sub_cancel_left]
  have gt : g.2.1 3000 = t := by rw [hg]; rfl
  refine ⟨g, ⟨by rw [hg]; exact hKc, fun k q hk => ?_⟩, ⟨fun q hq => ?_, fun q hq => ?_, ⟨fun i hi => ?_, fun i j hi hj e => ?_⟩, va_Zof (hts _ (intb 78 (by decide +kernel))) (hts _ (intb 4 (by decide +kernel))) (va_eqt (hs _ (by decide +kernel))) hA, va_Zqof (hts _ (intb 378 (by decide +kernel))) (hts _ (intb 11 (by decide +kernel))) (hs _ (by decide +kernel)) hA, by rw [gt]; exact va_Zof (hts _ (intb 715 (by decide +kernel))) (hts _ (intb 1 (by decide +kernel))) ht1 hA, by rw [gt]; exact hT⟩, va_AO.of zR, va_AO.of zT⟩
  · subst hg
    match k, hk with
    | 0, hk => cases hk; exact ⟨fun n z => ⟨(fun k h => by cases h), kI, fI2, pI, fI3⟩, fI1⟩
    | 1, hk => cases hk; exact ⟨fun n z => ⟨(fun k h => by cases h), kB, fB2, pB, fB3⟩, fB1⟩
    | 2, hk => cases hk; exact ⟨fun n z => ⟨(fun k h => by cases h), kL, fL2, pL, fL3⟩, fL1⟩
    | 3, hk => cases hk; exact ⟨fun n z => ⟨(fun k h => by cases h), kZ, fZ2, pZ, fZ3⟩, fZ1⟩
    | 4, hk => cases hk; exact ⟨fun n z => ⟨(fun k h => by cases h), kR, fR2, pR, fR3⟩, ⟨kR, pR, fR2, fR3, fR1, fR4⟩⟩
    | 5, hk => cases hk; exact ⟨fun n z => ⟨(fun k h => by cases h), kT, fT2, pT, fT3⟩, ⟨kT, pT, fT2, fT3, fT1, fT4⟩⟩
    | k + 6, hk => simp at hk
  · have hm : ∀ q ∈ nestS, Cond.methodLinkNest q.1 q.2.1 q.2.2.1 q.2.2.2 ∈ lw_tbl := by decide +kernel
    exact va_Nw.of rfl (hts _ (hm q hq))
  · have hm : ∀ q ∈ refS, Cond.stringRef q.1 q.2.1 q.2.2.1 ∈ lw_tbl := by decide +kernel
    refine vk_R.of (hts _ (hm q hq)) ?_
    have h5 : ∀ q ∈ refS, q.2.2.2 < 5 := by decide
    rw [ga _ (h5 q hq)]
    rcases List.mem_cons.mp hq with rfl | hq
    · exact hev 0 (by decide)
    rcases List.mem_cons.mp hq with rfl | hq
    · exact va_eqR (hs _ (by decide +kernel)) (hev 0 (by decide))
    rcases List.mem_cons.mp hq with rfl | hq
    · exact hev 1 (by decide)
    rcases List.mem_cons.mp hq with rfl | hq
    · exact hev 2 (by decide)
    rcases List.mem_cons.mp hq with rfl | hq
    · exact hev 3 (by decide)
    rcases List.mem_cons.mp hq with rfl | hq
    · exact hev 4 (by decide)
    cases hq
  · show va_O "java/lang/String" (g.2.1 (1000 + i)) _ s s.heap ∧ va_OF "java/lang/String" "coder" "B" (.int 0) (g.2.1 (1000 + i)) _ s s.heap ∧ va_OF "java/lang/String" "value" "[B" (.ref (g.2.1 (2000 + i))) (g.2.1 (1000 + i)) _ s s.heap ∧ va_T .byte (g.2.1 (2000 + i)) (lenS.getD i 0) (fun j => .int ((bytS.getD i []).getD j 0)) _ s s.heap
    rw [ga i hi, gv i hi]
    exact hS.1 i hi
  · have e2 : g.2.1 (1000 + i) = g.2.1 (1000 + j) := e
    rw [ga i hi, ga j hj] at e2
    exact hS.2 i j hi hj e2
