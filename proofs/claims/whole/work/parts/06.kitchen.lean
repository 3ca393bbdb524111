/-! ===== read off the bytecode by a program: each method as a function, and its walk ===== -/
def f_K_admit_l57 : Nat → Nat → Int32 → Int32 → St → Option (St)
  | 0, _, _, _, _ => none
  | n + 1, c0, x4, x5, σ => (if 4 ≤ x5 then some σ else (if ok ((x4 * 4) + x5) 24 = true then (st (sJ σ (c0 + 7) (upd (vJ σ (c0 + 7)) (nx ((x4 * 4) + x5)) 0)) fun s16 => (f_K_admit_l57 n c0 x4 (x5 + 1) s16)) else none))
def f_K_admit (c0 : Nat) (p1 : Int32) (p2 : Int32) (p3 : Int32) (σ : St) : Option (Int32 × St) := (if ok (vI σ c0 0) 6 = true then (st (sJ σ (c0 + 1) (upd (vJ σ (c0 + 1)) (nx (vI σ c0 0)) p1)) fun s2 => (if ok (vI σ c0 0) 6 = true then (st (sJ s2 (c0 + 2) (upd (vJ s2 (c0 + 2)) (nx (vI σ c0 0)) p2)) fun s4 => (if ok (vI σ c0 0) 6 = true then (st (sJ s4 (c0 + 3) (upd (vJ s4 (c0 + 3)) (nx (vI σ c0 0)) p3)) fun s6 => (if ok (vI σ c0 0) 6 = true then (st (sJ s6 (c0 + 4) (upd (vJ s6 (c0 + 4)) (nx (vI σ c0 0)) 0)) fun s8 => (if ok (vI σ c0 0) 6 = true then (st (sJ s8 (c0 + 5) (upd (vJ s8 (c0 + 5)) (nx (vI σ c0 0)) 0)) fun s10 => (if ok (vI σ c0 0) 6 = true then (st (sJ s10 (c0 + 6) (upd (vJ s10 (c0 + 6)) (nx (vI σ c0 0)) 0)) fun s12 => ((f_K_admit_l57 FU c0 (vI σ c0 0) 0 s12).bind fun x_18 => (st (sI x_18 c0 0 ((vI x_18 c0 0) + 1)) fun s22 => some ((vI σ c0 0), s22)))) else none)) else none)) else none)) else none)) else none)) else none)
set_option maxHeartbeats 400000 in
set_option maxRecDepth 20000 in
theorem c_K_admit (g : GX) (c0 : Nat) (hc0 : tg BX c0 4) (p1 : Int32) (p2 : Int32) (p3 : Int32) (σ : St) (q : Int32 × St) (h : f_K_admit c0 p1 p2 p3 σ = some q) (l : Launch) : CT BX l y_K_admit (v_K_admit :: lwG) 1 [.ref (g.2.1 c0), .int p1, .int p2, .int p3] g σ (QI BX g q) := by
  refine mkC (cc := b_K_admit) (maxL := 6) (ret := (some .int)) rfl (by decide) rfl (Nat.le_of_ble_eq_true rfl) ?_
  intro p e s m args below meth c A ls C hl hw
  obtain ⟨hx, hb, hr, hml, hown, hts, hK, hE, hA, hlk⟩ := id C
  replace hl : lv_has ls 6 [(0, .ref (g.2.1 c0)), (1, .int p1), (2, .int p2), (3, .int p3)] := hl
  obtain ⟨H, hH⟩ : ∃ z, z = s.heap := ⟨_, rfl⟩
  rw [← hH] at hw ⊢
  obtain ⟨locs, hlo⟩ : ∃ z : List Loc, z = [] := ⟨_, rfl⟩
  rw [← hlo] at hw ⊢
  unfold f_K_admit at h
  refine lv_aload_n hx hb d_K_admit_0 rfl (lv_at hl 0 rfl) ?_
  refine fg_K_9 C hw hc0 d_K_admit_1 ?_
  refine lv_istore (lv' := [(4, .int (vI σ c0 0)), (0, .ref (g.2.1 c0)), (1, .int p1), (2, .int p2), (3, .int p3)]) hx hb d_K_admit_4 hl (by decide) rfl (fun ls hl => ?_)
  refine lv_aload_n hx hb d_K_admit_6 rfl (lv_at hl 1 rfl) ?_
  refine fg_K_15 C hw hc0 d_K_admit_7 ?_
  refine lv_iload hx hb d_K_admit_10 (lv_at hl 0 rfl) ?_
  refine lv_iload_n hx hb d_K_admit_12 rfl (lv_at hl 2 rfl) ?_
  refine gde h (fun g1 h => ?_)
  refine ste h (fun s2 e31 h => ?_)
  refine stI (n := 6) C hw (tK_1 hc0) (by decide) g1 d_K_admit_13 (fun H locs hw => ?_)
  replace hw := HWe hw e31
  refine lv_aload_n hx hb d_K_admit_14 rfl (lv_at hl 1 rfl) ?_
  refine fg_K_19 C hw hc0 d_K_admit_15 ?_
  refine lv_iload hx hb d_K_admit_18 (lv_at hl 0 rfl) ?_
  refine lv_iload_n hx hb d_K_admit_20 rfl (lv_at hl 3 rfl) ?_
  refine gde h (fun g3 h => ?_)
  refine ste h (fun s4 e30 h => ?_)
  refine stI (n := 6) C hw (tK_2 hc0) (by decide) g3 d_K_admit_21 (fun H locs hw => ?_)
  replace hw := HWe hw e30
  refine lv_aload_n hx hb d_K_admit_22 rfl (lv_at hl 1 rfl) ?_
  refine fg_K_22 C hw hc0 d_K_admit_23 ?_
  refine lv_iload hx hb d_K_admit_26 (lv_at hl 0 rfl) ?_
  refine lv_iload_n hx hb d_K_admit_28 rfl (lv_at hl 4 rfl) ?_
  refine gde h (fun g5 h => ?_)
  refine ste h (fun s6 e29 h => ?_)
  refine stI (n := 6) C hw (tK_3 hc0) (by decide) g5 d_K_admit_29 (fun H locs hw => ?_)
  replace hw := HWe hw e29
  refine lv_aload_n hx hb d_K_admit_30 rfl (lv_at hl 1 rfl) ?_
  refine fg_K_25 C hw hc0 d_K_admit_31 ?_
  refine lv_iload hx hb d_K_admit_34 (lv_at hl 0 rfl) ?_
  refine lv_iconst (v := 0) hx hb d_K_admit_36 (by decide) ?_
  refine gde h (fun g7 h => ?_)
  refine ste h (fun s8 e28 h => ?_)
  refine stI (n := 6) C hw (tK_4 hc0) (by decide) g7 d_K_admit_37 (fun H locs hw => ?_)
  replace hw := HWe hw e28
  refine lv_aload_n hx hb d_K_admit_38 rfl (lv_at hl 1 rfl) ?_
  refine fg_K_28 C hw hc0 d_K_admit_39 ?_
  refine lv_iload hx hb d_K_admit_42 (lv_at hl 0 rfl) ?_
  refine lv_iconst (v := 0) hx hb d_K_admit_44 (by decide) ?_
  refine gde h (fun g9 h => ?_)
  refine ste h (fun s10 e27 h => ?_)
  refine stI (n := 6) C hw (tK_5 hc0) (by decide) g9 d_K_admit_45 (fun H locs hw => ?_)
  replace hw := HWe hw e27
  refine lv_aload_n hx hb d_K_admit_46 rfl (lv_at hl 1 rfl) ?_
  refine fg_K_31 C hw hc0 d_K_admit_47 ?_
  refine lv_iload hx hb d_K_admit_50 (lv_at hl 0 rfl) ?_
  refine lv_iconst (v := 0) hx hb d_K_admit_52 (by decide) ?_
  refine gde h (fun g11 h => ?_)
  refine ste h (fun s12 e26 h => ?_)
  refine stI (n := 6) C hw (tK_6 hc0) (by decide) g11 d_K_admit_53 (fun H locs hw => ?_)
  replace hw := HWe hw e26
  refine lv_iconst (v := 0) hx hb d_K_admit_54 (by decide) ?_
  refine lv_istore (lv' := [(5, .int 0), (4, .int (vI σ c0 0)), (0, .ref (g.2.1 c0)), (1, .int p1), (2, .int p2), (3, .int p3)]) hx hb d_K_admit_55 hl (by decide) rfl (fun ls hl => ?_)
  have L13 : ∀ (c0 : Nat) (hc0 : tg BX c0 4) (x4 : Int32) (n : Nat) (x5 : Int32) (σ : St) (H : Heap) (locs : List Loc) (ls : Array Slot), HW BX g A s σ H locs → lv_has ls 6 [(0, .ref (g.2.1 c0)), (4, .int x4), (5, .int x5)] → ∀ (ex : St), f_K_admit_l57 n c0 x4 x5 σ = some ex → (∀ (y : St), ex = y → ∀ (H : Heap) (locs : List Loc) (ls : Array Slot), HW BX g A s y H locs → lv_has ls 6 [(0, .ref (g.2.1 c0)), (4, .int x4)] → W p l e (rmL 1) s m args below meth c H locs 0 0 (MQ below (QI BX g q A) args s 0 0 A) (F0 m 82 ls [])) → (True) → W p l e (rmL 1) s m args below meth c H locs 0 0 (MQ below (QI BX g q A) args s 0 0 A) (F0 m 57 ls []) := by
    intro c0 hc0 x4 n
    induction n with
    | zero =>
      intro x5 σ H locs ls hw hl ex h kx13 kr13
      cases h
    | succ n ih =>
      intro x5 σ H locs ls hw hl ex h kx13 kr13
      rw [f_K_admit_l57] at h
      refine lv_iload hx hb d_K_admit_57 (lv_at hl 2 rfl) ?_
      refine lv_iconst (v := 4) hx hb d_K_admit_59 (by decide) ?_
      refine lv_icmp_ge (tgt := 82) hx hb d_K_admit_60 (by decide) (fun b14 => ?_) (fun b14 => ?_)
      · replace h := ifp b14 h
        exact kx13 _ (Option.some.inj h).symm H locs ls hw (lv_sub hl [0, 1] rfl)
      · replace h := ifn b14 h
        refine lv_aload_n hx hb d_K_admit_63 rfl (lv_at hl 0 rfl) ?_
        refine fg_K_34 C hw hc0 d_K_admit_64 ?_
        refine lv_iload hx hb d_K_admit_67 (lv_at hl 1 rfl) ?_
        refine lv_iconst (v := 4) hx hb d_K_admit_69 (by decide) ?_
        refine lv_imul hx hb d_K_admit_70 ?_
        refine lv_iload hx hb d_K_admit_71 (lv_at hl 2 rfl) ?_
        refine lv_iadd hx hb d_K_admit_73 ?_
        refine lv_iconst (v := 0) hx hb d_K_admit_74 (by decide) ?_
        refine gde h (fun g15 h => ?_)
        refine ste h (fun s16 e17 h => ?_)
        refine stI (n := 24) C hw (tK_7 hc0) (by decide) g15 d_K_admit_75 (fun H locs hw => ?_)
        replace hw := HWe hw e17
        refine lv_iinc (v := (x5 + 1)) (lv' := [(5, .int (x5 + 1)), (0, .ref (g.2.1 c0)), (4, .int x4)]) hx hb d_K_admit_76 hl (k := 2) rfl rfl (by decide) rfl (fun ls hl => ?_)
        refine lv_goto (tgt := 57) hx hb d_K_admit_79 (by decide) ?_
        exact ih (x5 + 1) s16 H locs ls hw (lv_sub hl [1, 2, 0] rfl) ex h kx13 kr13
  refine bnd h (fun x_18 k19 h => ?_)
  refine L13 c0 hc0 (vI σ c0 0) FU 0 s12 H locs ls hw (lv_sub hl [2, 1, 0] rfl) x_18 k19 (fun y24 e25 H locs ls hw hl => ?_) trivial
  subst e25
  refine lv_aload_n hx hb d_K_admit_82 rfl (lv_at hl 0 rfl) ?_
  refine lv_dup hx hb d_K_admit_83 rfl ?_
  refine fg_K_9 C hw hc0 d_K_admit_84 ?_
  refine lv_iconst (v := 1) hx hb d_K_admit_87 (by decide) ?_
  refine lv_iadd hx hb d_K_admit_88 ?_
  refine ste h (fun s22 e23 h => ?_)
  refine fp_K_9 C hw hc0 d_K_admit_89 (fun H locs hw => ?_)
  replace hw := HWe hw e23
  refine lv_iload hx hb d_K_admit_92 (lv_at hl 1 rfl) ?_
  exact retI C hw rfl (Option.some.inj h) d_K_admit_94
def f_K_factsOf (c0 : Nat) (p1 : Int32) (σ : St) : Option (St) := (if ok 0 6 = true then (st (sJ σ (c0 + 8) (upd (vJ σ (c0 + 8)) (nx 0) p1)) fun s2 => (if ok p1 6 = true then (if ok 1 6 = true then (st (sJ s2 (c0 + 8) (upd (vJ s2 (c0 + 8)) (nx 1) (vJ s2 (c0 + 1) (nx p1)))) fun s5 => (if ok p1 6 = true then (if ok 2 6 = true then (st (sJ s5 (c0 + 8) (upd (vJ s5 (c0 + 8)) (nx 2) (vJ s5 (c0 + 2) (nx p1)))) fun s8 => (if ok 3 6 = true then (st (sJ s8 (c0 + 8) (upd (vJ s8 (c0 + 8)) (nx 3) ((vI s8 c0 8) / 10))) fun s10 => (if ok 4 6 = true then (st (sJ s10 (c0 + 8) (upd (vJ s10 (c0 + 8)) (nx 4) ((vI s10 c0 9) % 7))) fun s12 => (if ok p1 6 = true then (if ok 5 6 = true then (st (sJ s12 (c0 + 8) (upd (vJ s12 (c0 + 8)) (nx 5) ((vJ s12 (c0 + 5) (nx p1)) % 100))) fun s15 => some s15) else none) else none)) else none)) else none)) else none) else none)) else none) else none)) else none)
set_option maxHeartbeats 400000 in
set_option maxRecDepth 20000 in
theorem c_K_factsOf (g : GX) (c0 : Nat) (hc0 : tg BX c0 4) (p1 : Int32) (σ : St) (q : St) (h : f_K_factsOf c0 p1 σ = some q) (l : Launch) : CT BX l y_K_factsOf (v_K_factsOf :: lwG) 1 [.ref (g.2.1 c0), .int p1] g σ (QR BX g ((c0 + 8), q)) := by
  refine mkC (cc := b_K_factsOf) (maxL := 2) (ret := (some (.array .int))) rfl (by decide) rfl (Nat.le_of_ble_eq_true rfl) ?_
  intro p e s m args below meth c A ls C hl hw
  obtain ⟨hx, hb, hr, hml, hown, hts, hK, hE, hA, hlk⟩ := id C
  replace hl : lv_has ls 2 [(0, .ref (g.2.1 c0)), (1, .int p1)] := hl
  obtain ⟨H, hH⟩ : ∃ z, z = s.heap := ⟨_, rfl⟩
  rw [← hH] at hw ⊢
  obtain ⟨locs, hlo⟩ : ∃ z : List Loc, z = [] := ⟨_, rfl⟩
  rw [← hlo] at hw ⊢
  unfold f_K_factsOf at h
  refine lv_aload_n hx hb d_K_factsOf_0 rfl (lv_at hl 0 rfl) ?_
  refine fg_K_56 C hw hc0 d_K_factsOf_1 ?_
  refine lv_iconst (v := 0) hx hb d_K_factsOf_4 (by decide) ?_
  refine lv_iload_n hx hb d_K_factsOf_5 rfl (lv_at hl 1 rfl) ?_
  refine gde h (fun g1 h => ?_)
  refine ste h (fun s2 e21 h => ?_)
  refine stI (n := 6) C hw (tK_8 hc0) (by decide) g1 d_K_factsOf_6 (fun H locs hw => ?_)
  replace hw := HWe hw e21
  refine lv_aload_n hx hb d_K_factsOf_7 rfl (lv_at hl 0 rfl) ?_
  refine fg_K_56 C hw hc0 d_K_factsOf_8 ?_
  refine lv_iconst (v := 1) hx hb d_K_factsOf_11 (by decide) ?_
  refine lv_aload_n hx hb d_K_factsOf_12 rfl (lv_at hl 0 rfl) ?_
  refine fg_K_15 C hw hc0 d_K_factsOf_13 ?_
  refine lv_iload_n hx hb d_K_factsOf_16 rfl (lv_at hl 1 rfl) ?_
  refine gde h (fun g3 h => ?_)
  refine ldI (n := 6) C hw (tK_1 hc0) (by decide) g3 d_K_factsOf_17 ?_
  refine gde h (fun g4 h => ?_)
  refine ste h (fun s5 e20 h => ?_)
  refine stI (n := 6) C hw (tK_8 hc0) (by decide) g4 d_K_factsOf_18 (fun H locs hw => ?_)
  replace hw := HWe hw e20
  refine lv_aload_n hx hb d_K_factsOf_19 rfl (lv_at hl 0 rfl) ?_
  refine fg_K_56 C hw hc0 d_K_factsOf_20 ?_
  refine lv_iconst (v := 2) hx hb d_K_factsOf_23 (by decide) ?_
  refine lv_aload_n hx hb d_K_factsOf_24 rfl (lv_at hl 0 rfl) ?_
  refine fg_K_19 C hw hc0 d_K_factsOf_25 ?_
  refine lv_iload_n hx hb d_K_factsOf_28 rfl (lv_at hl 1 rfl) ?_
  refine gde h (fun g6 h => ?_)
  refine ldI (n := 6) C hw (tK_2 hc0) (by decide) g6 d_K_factsOf_29 ?_
  refine gde h (fun g7 h => ?_)
  refine ste h (fun s8 e19 h => ?_)
  refine stI (n := 6) C hw (tK_8 hc0) (by decide) g7 d_K_factsOf_30 (fun H locs hw => ?_)
  replace hw := HWe hw e19
  refine lv_aload_n hx hb d_K_factsOf_31 rfl (lv_at hl 0 rfl) ?_
  refine fg_K_56 C hw hc0 d_K_factsOf_32 ?_
  refine lv_iconst (v := 3) hx hb d_K_factsOf_35 (by decide) ?_
  refine lv_aload_n hx hb d_K_factsOf_36 rfl (lv_at hl 0 rfl) ?_
  refine fg_K_37 C hw hc0 d_K_factsOf_37 ?_
  refine lv_bipush (v := 10) hx hb d_K_factsOf_40 (by decide) ?_
  refine lv_idiv hx hb d_K_factsOf_42 (by decide) ?_
  refine gde h (fun g9 h => ?_)
  refine ste h (fun s10 e18 h => ?_)
  refine stI (n := 6) C hw (tK_8 hc0) (by decide) g9 d_K_factsOf_43 (fun H locs hw => ?_)
  replace hw := HWe hw e18
  refine lv_aload_n hx hb d_K_factsOf_44 rfl (lv_at hl 0 rfl) ?_
  refine fg_K_56 C hw hc0 d_K_factsOf_45 ?_
  refine lv_iconst (v := 4) hx hb d_K_factsOf_48 (by decide) ?_
  refine lv_aload_n hx hb d_K_factsOf_49 rfl (lv_at hl 0 rfl) ?_
  refine fg_K_40 C hw hc0 d_K_factsOf_50 ?_
  refine lv_bipush (v := 7) hx hb d_K_factsOf_53 (by decide) ?_
  refine remR C (by decide) d_K_factsOf_55 ?_
  refine gde h (fun g11 h => ?_)
  refine ste h (fun s12 e17 h => ?_)
  refine stI (n := 6) C hw (tK_8 hc0) (by decide) g11 d_K_factsOf_56 (fun H locs hw => ?_)
  replace hw := HWe hw e17
  refine lv_aload_n hx hb d_K_factsOf_57 rfl (lv_at hl 0 rfl) ?_
  refine fg_K_56 C hw hc0 d_K_factsOf_58 ?_
  refine lv_iconst (v := 5) hx hb d_K_factsOf_61 (by decide) ?_
  refine lv_aload_n hx hb d_K_factsOf_62 rfl (lv_at hl 0 rfl) ?_
  refine fg_K_28 C hw hc0 d_K_factsOf_63 ?_
  refine lv_iload_n hx hb d_K_factsOf_66 rfl (lv_at hl 1 rfl) ?_
  refine gde h (fun g13 h => ?_)
  refine ldI (n := 6) C hw (tK_5 hc0) (by decide) g13 d_K_factsOf_67 ?_
  refine lv_bipush (v := 100) hx hb d_K_factsOf_68 (by decide) ?_
  refine remR C (by decide) d_K_factsOf_70 ?_
  refine gde h (fun g14 h => ?_)
  refine ste h (fun s15 e16 h => ?_)
  refine stI (n := 6) C hw (tK_8 hc0) (by decide) g14 d_K_factsOf_71 (fun H locs hw => ?_)
  replace hw := HWe hw e16
  refine lv_aload_n hx hb d_K_factsOf_72 rfl (lv_at hl 0 rfl) ?_
  refine fg_K_56 C hw hc0 d_K_factsOf_73 ?_
  exact retR C hw rfl (Or.inr ⟨_, rfl⟩) (congrArg (fun z => ((c0 + 8), z)) (Option.some.inj h)) d_K_factsOf_76
def f_R_passes (p0 : Int32) (c1 : Nat) (σ : St) : Option (Bool) := (((if (p0 >>> (16 &&& (31 : Int32))) < 0 then some 0 else (if 6 ≤ (p0 >>> (16 &&& (31 : Int32))) then some 0 else (if ok (p0 >>> (16 &&& (31 : Int32))) 6 = true then some (vJ σ c1 (nx (p0 >>> (16 &&& (31 : Int32))))) else none))) : Option (Int32)).bind fun q1 => (if ((p0 >>> (8 &&& (31 : Int32))) &&& 255) = 60 then (if (p0 &&& 255) ≤ q1 then some false else some true) else (if ((p0 >>> (8 &&& (31 : Int32))) &&& 255) = 61 then (if q1 = (p0 &&& 255) then some true else some false) else (if q1 ≤ (p0 &&& 255) then some false else some true))))
set_option maxHeartbeats 400000 in
set_option maxRecDepth 20000 in
theorem c_R_passes (g : GX) (p0 : Int32) (c1 : Nat) (hc1 : tg BX c1 106) (σ : St) (q : Bool) (h : f_R_passes p0 c1 σ = some q) (l : Launch) : CT BX l y_R_passes (v_R_passes :: lwG) 1 [.int p0, .ref (g.2.1 c1)] g σ (QZ BX g (q, σ)) := by
  refine mkC (cc := b_R_passes) (maxL := 5) (ret := (some .boolean)) rfl (by decide) rfl (Nat.le_of_ble_eq_true rfl) ?_
  intro p e s m args below meth c A ls C hl hw
  obtain ⟨hx, hb, hr, hml, hown, hts, hK, hE, hA, hlk⟩ := id C
  replace hl : lv_has ls 5 [(0, .int p0), (1, .ref (g.2.1 c1))] := hl
  obtain ⟨H, hH⟩ : ∃ z, z = s.heap := ⟨_, rfl⟩
  rw [← hH] at hw ⊢
  obtain ⟨locs, hlo⟩ : ∃ z : List Loc, z = [] := ⟨_, rfl⟩
  rw [← hlo] at hw ⊢
  unfold f_R_passes at h
  refine lv_iload_n hx hb d_R_passes_0 rfl (lv_at hl 0 rfl) ?_
  refine lv_bipush (v := 16) hx hb d_R_passes_1 (by decide) ?_
  refine lv_ishr hx hb d_R_passes_3 ?_
  refine lv_istore_n (lv' := [(2, .int (p0 >>> (16 &&& (31 : Int32)))), (0, .int p0), (1, .ref (g.2.1 c1))]) hx hb d_R_passes_4 rfl hl (by decide) rfl (fun ls hl => ?_)
  refine lv_iload_n hx hb d_R_passes_5 rfl (lv_at hl 0 rfl) ?_
  refine bnd h (fun q1 h2 h => ?_)
  have J3 : ∀ (H : Heap) (locs : List Loc) (ls : Array Slot), HW BX g A s σ H locs → lv_has ls 5 [(0, .int p0)] → W p l e (rmL 1) s m args below meth c H locs 0 0 (MQ below (QZ BX g (q, σ) A) args s 0 0 A) (F0 m 22 ls [.int q1]) := by
    intro H locs ls hw hl
    refine lv_istore_n (lv' := [(3, .int q1), (0, .int p0)]) hx hb d_R_passes_22 rfl hl (by decide) rfl (fun ls hl => ?_)
    refine lv_iload_n hx hb d_R_passes_23 rfl (lv_at hl 1 rfl) ?_
    refine lv_sipush (v := 255) hx hb d_R_passes_24 (by decide) ?_
    refine lv_iand hx hb d_R_passes_27 ?_
    refine lv_istore (lv' := [(4, .int (p0 &&& 255)), (3, .int q1), (0, .int p0)]) hx hb d_R_passes_28 hl (by decide) rfl (fun ls hl => ?_)
    refine lv_iload_n hx hb d_R_passes_30 rfl (lv_at hl 2 rfl) ?_
    refine lv_bipush (v := 8) hx hb d_R_passes_31 (by decide) ?_
    refine lv_ishr hx hb d_R_passes_33 ?_
    refine lv_sipush (v := 255) hx hb d_R_passes_34 (by decide) ?_
    refine lv_iand hx hb d_R_passes_37 ?_
    by_cases b10 : ((p0 >>> (8 &&& (31 : Int32))) &&& 255) = 60
    · replace h := ifp b10 h
      refine lv_lookup (off := 26) (tgt := 64) hx hb d_R_passes_38 (by decide) (by rw [b10]; decide) (by decide) ?_
      refine lv_iload_n hx hb d_R_passes_64 rfl (lv_at hl 1 rfl) ?_
      refine lv_iload hx hb d_R_passes_65 (lv_at hl 0 rfl) ?_
      refine lv_icmp_ge (tgt := 74) hx hb d_R_passes_67 (by decide) (fun b11 => ?_) (fun b11 => ?_)
      · replace h := ifp b11 h
        refine lv_iconst (v := 0) hx hb d_R_passes_74 (by decide) ?_
        exact retZ (b := false) C hw rfl rfl (congrArg (fun z => (z, σ)) (Option.some.inj h)) d_R_passes_75
      · replace h := ifn b11 h
        refine lv_iconst (v := 1) hx hb d_R_passes_70 (by decide) ?_
        refine lv_goto (tgt := 75) hx hb d_R_passes_71 (by decide) ?_
        exact retZ (b := true) C hw rfl rfl (congrArg (fun z => (z, σ)) (Option.some.inj h)) d_R_passes_75
    · replace h := ifn b10 h
      by_cases b12 : ((p0 >>> (8 &&& (31 : Int32))) &&& 255) = 61
      · replace h := ifp b12 h
        refine lv_lookup (off := 38) (tgt := 76) hx hb d_R_passes_38 (by decide) (by rw [b12]; decide) (by decide) ?_
        refine lv_iload_n hx hb d_R_passes_76 rfl (lv_at hl 1 rfl) ?_
        refine lv_iload hx hb d_R_passes_77 (lv_at hl 0 rfl) ?_
        refine lv_icmp_ne (tgt := 86) hx hb d_R_passes_79 (by decide) (fun b13 => ?_) (fun b13 => ?_)
        · replace h := ifn b13 h
          refine lv_iconst (v := 0) hx hb d_R_passes_86 (by decide) ?_
          exact retZ (b := false) C hw rfl rfl (congrArg (fun z => (z, σ)) (Option.some.inj h)) d_R_passes_87
        · replace h := ifp b13 h
          refine lv_iconst (v := 1) hx hb d_R_passes_82 (by decide) ?_
          refine lv_goto (tgt := 87) hx hb d_R_passes_83 (by decide) ?_
          exact retZ (b := true) C hw rfl rfl (congrArg (fun z => (z, σ)) (Option.some.inj h)) d_R_passes_87
      · replace h := ifn b12 h
        refine lv_lookup (off := 50) (tgt := 88) hx hb d_R_passes_38 (by decide) ((lv_osw b10 (by decide)).trans ((lv_osw b12 (by decide)).trans (rfl))) (by decide) ?_
        refine lv_iload_n hx hb d_R_passes_88 rfl (lv_at hl 1 rfl) ?_
        refine lv_iload hx hb d_R_passes_89 (lv_at hl 0 rfl) ?_
        refine lv_icmp_le (tgt := 98) hx hb d_R_passes_91 (by decide) (fun b14 => ?_) (fun b14 => ?_)
        · replace h := ifp b14 h
          refine lv_iconst (v := 0) hx hb d_R_passes_98 (by decide) ?_
          exact retZ (b := false) C hw rfl rfl (congrArg (fun z => (z, σ)) (Option.some.inj h)) d_R_passes_99
        · replace h := ifn b14 h
          refine lv_iconst (v := 1) hx hb d_R_passes_94 (by decide) ?_
          refine lv_goto (tgt := 99) hx hb d_R_passes_95 (by decide) ?_
          exact retZ (b := true) C hw rfl rfl (congrArg (fun z => (z, σ)) (Option.some.inj h)) d_R_passes_99
  refine lv_if_lt (tgt := 21) hx hb d_R_passes_6 (by decide) (fun b4 => ?_) (fun b4 => ?_)
  · replace h2 := ifp b4 h2
    refine lv_iconst (v := 0) hx hb d_R_passes_21 (by decide) ?_
    have e5 := Option.some.inj h2
    subst e5
    exact J3 H locs ls hw (lv_sub hl [1] rfl)
  · replace h2 := ifn b4 h2
    refine lv_iload_n hx hb d_R_passes_9 rfl (lv_at hl 0 rfl) ?_
    refine lv_aload_n hx hb d_R_passes_10 rfl (lv_at hl 2 rfl) ?_
    refine lnI (n := 6) (v := 6) C hw hc1 (by decide) (by decide) d_R_passes_11 ?_
    refine lv_icmp_ge (tgt := 21) hx hb d_R_passes_12 (by decide) (fun b6 => ?_) (fun b6 => ?_)
    · replace h2 := ifp b6 h2
      refine lv_iconst (v := 0) hx hb d_R_passes_21 (by decide) ?_
      have e7 := Option.some.inj h2
      subst e7
      exact J3 H locs ls hw (lv_sub hl [1] rfl)
    · replace h2 := ifn b6 h2
      refine lv_aload_n hx hb d_R_passes_15 rfl (lv_at hl 2 rfl) ?_
      refine lv_iload_n hx hb d_R_passes_16 rfl (lv_at hl 0 rfl) ?_
      refine gde h2 (fun g8 h2 => ?_)
      refine ldI (n := 6) C hw hc1 (by decide) g8 d_R_passes_17 ?_
      refine lv_goto (tgt := 22) hx hb d_R_passes_18 (by decide) ?_
      have e9 := Option.some.inj h2
      subst e9
      exact J3 H locs ls hw (lv_sub hl [1] rfl)
def f_R_holds_l6 : Nat → Nat → Int32 → Nat → Int32 → Int32 → St → Option (Int32)
  | 0, _, _, _, _, _, _ => none
  | n + 1, c0, x2, c3, x4, x5, σ => (if x2 ≤ x5 then some x4 else (if ok x5 100 = true then (if (vJ σ (c0 + 5) (nx x5)) = (-3) then (f_R_holds_l6 n c0 x2 c3 ((x4 >>> (1 &&& (31 : Int32))) ||| (x4 &&& 1)) (x5 + 1) σ) else (if (vJ σ (c0 + 5) (nx x5)) = (-2) then (f_R_holds_l6 n c0 x2 c3 ((x4 >>> (1 &&& (31 : Int32))) &&& ((x4 &&& 1) ||| (-2))) (x5 + 1) σ) else (if (vJ σ (c0 + 5) (nx x5)) = (-1) then (f_R_holds_l6 n c0 x2 c3 (x4 ^^^ 1) (x5 + 1) σ) else (if ok x5 100 = true then ((f_R_passes (vJ σ (c0 + 5) (nx x5)) c3 σ).bind fun q8 => (if q8 = false then (f_R_holds_l6 n c0 x2 c3 ((x4 <<< (1 &&& (31 : Int32))) ||| 0) (x5 + 1) σ) else (f_R_holds_l6 n c0 x2 c3 ((x4 <<< (1 &&& (31 : Int32))) ||| 1) (x5 + 1) σ))) else none)))) else none))
def f_R_holds (c0 : Nat) (p1 : Int32) (p2 : Int32) (c3 : Nat) (σ : St) : Option (Bool) := ((f_R_holds_l6 FU c0 p2 c3 0 p1 σ).bind fun x_11 => (if (x_11 &&& 1) = 1 then some true else some false))
set_option maxHeartbeats 400000 in
set_option maxRecDepth 20000 in
theorem c_R_holds (g : GX) (c0 : Nat) (hc0 : tg BX c0 1) (p1 : Int32) (p2 : Int32) (c3 : Nat) (hc3 : tg BX c3 106) (σ : St) (q : Bool) (h : f_R_holds c0 p1 p2 c3 σ = some q) (l : Launch) : CT BX l y_R_holds (v_R_holds :: lwG) 2 [.ref (g.2.1 c0), .int p1, .int p2, .ref (g.2.1 c3)] g σ (QZ BX g (q, σ)) := by
  refine mkC (cc := b_R_holds) (maxL := 7) (ret := (some .boolean)) rfl (by decide) rfl (Nat.le_of_ble_eq_true rfl) ?_
  intro p e s m args below meth c A ls C hl hw
  obtain ⟨hx, hb, hr, hml, hown, hts, hK, hE, hA, hlk⟩ := id C
  replace hl : lv_has ls 7 [(0, .ref (g.2.1 c0)), (1, .int p1), (2, .int p2), (3, .ref (g.2.1 c3))] := hl
  obtain ⟨H, hH⟩ : ∃ z, z = s.heap := ⟨_, rfl⟩
  rw [← hH] at hw ⊢
  obtain ⟨locs, hlo⟩ : ∃ z : List Loc, z = [] := ⟨_, rfl⟩
  rw [← hlo] at hw ⊢
  unfold f_R_holds at h
  refine lv_iconst (v := 0) hx hb d_R_holds_0 (by decide) ?_
  refine lv_istore (lv' := [(4, .int 0), (0, .ref (g.2.1 c0)), (1, .int p1), (2, .int p2), (3, .ref (g.2.1 c3))]) hx hb d_R_holds_1 hl (by decide) rfl (fun ls hl => ?_)
  refine lv_iload_n hx hb d_R_holds_3 rfl (lv_at hl 2 rfl) ?_
  refine lv_istore (lv' := [(5, .int p1), (4, .int 0), (0, .ref (g.2.1 c0)), (1, .int p1), (2, .int p2), (3, .ref (g.2.1 c3))]) hx hb d_R_holds_4 hl (by decide) rfl (fun ls hl => ?_)
  have L1 : ∀ (c0 : Nat) (hc0 : tg BX c0 1) (x2 : Int32) (c3 : Nat) (hc3 : tg BX c3 106) (n : Nat) (x4 : Int32) (x5 : Int32) (σ : St) (H : Heap) (locs : List Loc) (ls : Array Slot), HW BX g A s σ H locs → lv_has ls 7 [(0, .ref (g.2.1 c0)), (2, .int x2), (3, .ref (g.2.1 c3)), (4, .int x4), (5, .int x5)] → ∀ (ex : Int32), f_R_holds_l6 n c0 x2 c3 x4 x5 σ = some ex → (∀ (y : Int32), ex = y → ∀ (H : Heap) (locs : List Loc) (ls : Array Slot), HW BX g A s σ H locs → lv_has ls 7 [(4, .int y)] → W p l e (rmL 2) s m args below meth c H locs 0 0 (MQ below (QZ BX g (q, σ) A) args s 0 0 A) (F0 m 120 ls [])) → (True) → W p l e (rmL 2) s m args below meth c H locs 0 0 (MQ below (QZ BX g (q, σ) A) args s 0 0 A) (F0 m 6 ls []) := by
    intro c0 hc0 x2 c3 hc3 n
    induction n with
    | zero =>
      intro x4 x5 σ H locs ls hw hl ex h kx1 kr1
      cases h
    | succ n ih =>
      intro x4 x5 σ H locs ls hw hl ex h kx1 kr1
      rw [f_R_holds_l6] at h
      refine lv_iload hx hb d_R_holds_6 (lv_at hl 4 rfl) ?_
      refine lv_iload_n hx hb d_R_holds_8 rfl (lv_at hl 1 rfl) ?_
      refine lv_icmp_ge (tgt := 120) hx hb d_R_holds_9 (by decide) (fun b2 => ?_) (fun b2 => ?_)
      · replace h := ifp b2 h
        exact kx1 _ (Option.some.inj h).symm H locs ls hw (lv_sub hl [3] rfl)
      · replace h := ifn b2 h
        refine lv_iload hx hb d_R_holds_12 (lv_at hl 3 rfl) ?_
        refine lv_iconst (v := 1) hx hb d_R_holds_14 (by decide) ?_
        refine lv_iand hx hb d_R_holds_15 ?_
        refine lv_istore (lv' := [(6, .int (x4 &&& 1)), (0, .ref (g.2.1 c0)), (2, .int x2), (3, .ref (g.2.1 c3)), (4, .int x4), (5, .int x5)]) hx hb d_R_holds_16 hl (by decide) rfl (fun ls hl => ?_)
        refine lv_aload_n hx hb d_R_holds_18 rfl (lv_at hl 1 rfl) ?_
        refine fg_R_28 C hw hc0 d_R_holds_19 ?_
        refine lv_iload hx hb d_R_holds_22 (lv_at hl 5 rfl) ?_
        refine gde h (fun g3 h => ?_)
        refine ldI (n := 100) C hw (tR_5 hc0) (by decide) g3 d_R_holds_24 ?_
        by_cases b4 : (vJ σ (c0 + 5) (nx x5)) = (-3)
        · replace h := ifp b4 h
          refine swIn (k := (-3)) (tgt := 76) C b4 d_R_holds_25 (by decide) rfl (by decide) ?_
          refine lv_iload hx hb d_R_holds_76 (lv_at hl 4 rfl) ?_
          refine lv_iconst (v := 1) hx hb d_R_holds_78 (by decide) ?_
          refine lv_ishr hx hb d_R_holds_79 ?_
          refine lv_iload hx hb d_R_holds_80 (lv_at hl 0 rfl) ?_
          refine lv_ior hx hb d_R_holds_82 ?_
          refine lv_istore (lv' := [(4, .int ((x4 >>> (1 &&& (31 : Int32))) ||| (x4 &&& 1))), (6, .int (x4 &&& 1)), (0, .ref (g.2.1 c0)), (2, .int x2), (3, .ref (g.2.1 c3)), (5, .int x5)]) hx hb d_R_holds_83 hl (by decide) rfl (fun ls hl => ?_)
          refine lv_goto (tgt := 114) hx hb d_R_holds_85 (by decide) ?_
          refine lv_iinc (v := (x5 + 1)) (lv' := [(5, .int (x5 + 1)), (4, .int ((x4 >>> (1 &&& (31 : Int32))) ||| (x4 &&& 1))), (6, .int (x4 &&& 1)), (0, .ref (g.2.1 c0)), (2, .int x2), (3, .ref (g.2.1 c3))]) hx hb d_R_holds_114 hl (k := 5) rfl rfl (by decide) rfl (fun ls hl => ?_)
          refine lv_goto (tgt := 6) hx hb d_R_holds_117 (by decide) ?_
          exact ih ((x4 >>> (1 &&& (31 : Int32))) ||| (x4 &&& 1)) (x5 + 1) σ H locs ls hw (lv_sub hl [3, 4, 5, 1, 0] rfl) ex h kx1 kr1
        · replace h := ifn b4 h
          by_cases b5 : (vJ σ (c0 + 5) (nx x5)) = (-2)
          · replace h := ifp b5 h
            refine swIn (k := (-2)) (tgt := 61) C b5 d_R_holds_25 (by decide) rfl (by decide) ?_
            refine lv_iload hx hb d_R_holds_61 (lv_at hl 4 rfl) ?_
            refine lv_iconst (v := 1) hx hb d_R_holds_63 (by decide) ?_
            refine lv_ishr hx hb d_R_holds_64 ?_
            refine lv_iload hx hb d_R_holds_65 (lv_at hl 0 rfl) ?_
            refine lv_bipush (v := (-2)) hx hb d_R_holds_67 (by decide) ?_
            refine lv_ior hx hb d_R_holds_69 ?_
            refine lv_iand hx hb d_R_holds_70 ?_
            refine lv_istore (lv' := [(4, .int ((x4 >>> (1 &&& (31 : Int32))) &&& ((x4 &&& 1) ||| (-2)))), (6, .int (x4 &&& 1)), (0, .ref (g.2.1 c0)), (2, .int x2), (3, .ref (g.2.1 c3)), (5, .int x5)]) hx hb d_R_holds_71 hl (by decide) rfl (fun ls hl => ?_)
            refine lv_goto (tgt := 114) hx hb d_R_holds_73 (by decide) ?_
            refine lv_iinc (v := (x5 + 1)) (lv' := [(5, .int (x5 + 1)), (4, .int ((x4 >>> (1 &&& (31 : Int32))) &&& ((x4 &&& 1) ||| (-2)))), (6, .int (x4 &&& 1)), (0, .ref (g.2.1 c0)), (2, .int x2), (3, .ref (g.2.1 c3))]) hx hb d_R_holds_114 hl (k := 5) rfl rfl (by decide) rfl (fun ls hl => ?_)
            refine lv_goto (tgt := 6) hx hb d_R_holds_117 (by decide) ?_
            exact ih ((x4 >>> (1 &&& (31 : Int32))) &&& ((x4 &&& 1) ||| (-2))) (x5 + 1) σ H locs ls hw (lv_sub hl [3, 4, 5, 1, 0] rfl) ex h kx1 kr1
          · replace h := ifn b5 h
            by_cases b6 : (vJ σ (c0 + 5) (nx x5)) = (-1)
            · replace h := ifp b6 h
              refine swIn (k := (-1)) (tgt := 52) C b6 d_R_holds_25 (by decide) rfl (by decide) ?_
              refine lv_iload hx hb d_R_holds_52 (lv_at hl 4 rfl) ?_
              refine lv_iconst (v := 1) hx hb d_R_holds_54 (by decide) ?_
              refine lv_ixor hx hb d_R_holds_55 ?_
              refine lv_istore (lv' := [(4, .int (x4 ^^^ 1)), (6, .int (x4 &&& 1)), (0, .ref (g.2.1 c0)), (2, .int x2), (3, .ref (g.2.1 c3)), (5, .int x5)]) hx hb d_R_holds_56 hl (by decide) rfl (fun ls hl => ?_)
              refine lv_goto (tgt := 114) hx hb d_R_holds_58 (by decide) ?_
              refine lv_iinc (v := (x5 + 1)) (lv' := [(5, .int (x5 + 1)), (4, .int (x4 ^^^ 1)), (6, .int (x4 &&& 1)), (0, .ref (g.2.1 c0)), (2, .int x2), (3, .ref (g.2.1 c3))]) hx hb d_R_holds_114 hl (k := 5) rfl rfl (by decide) rfl (fun ls hl => ?_)
              refine lv_goto (tgt := 6) hx hb d_R_holds_117 (by decide) ?_
              exact ih (x4 ^^^ 1) (x5 + 1) σ H locs ls hw (lv_sub hl [3, 4, 5, 1, 0] rfl) ex h kx1 kr1
            · replace h := ifn b6 h
              refine swOut (tgt := 88) C d_R_holds_25 (fun z9 l9 h9 e9 => ?_) (by decide) ?_
              · have e10 : z9 = -3 ∨ z9 = -2 ∨ z9 = -1 := by omega
                rcases e10 with e10 | e10 | e10
                · exact lv_neT b4 (by decide) (e9.trans e10)
                · exact lv_neT b5 (by decide) (e9.trans e10)
                · exact lv_neT b6 (by decide) (e9.trans e10)
              · refine lv_iload hx hb d_R_holds_88 (lv_at hl 4 rfl) ?_
                refine lv_iconst (v := 1) hx hb d_R_holds_90 (by decide) ?_
                refine lv_ishl hx hb d_R_holds_91 ?_
                refine lv_aload_n hx hb d_R_holds_92 rfl (lv_at hl 1 rfl) ?_
                refine fg_R_28 C hw hc0 d_R_holds_93 ?_
                refine lv_iload hx hb d_R_holds_96 (lv_at hl 5 rfl) ?_
                refine gde h (fun g7 h => ?_)
                refine ldI (n := 100) C hw (tR_5 hc0) (by decide) g7 d_R_holds_98 ?_
                refine lv_aload_n hx hb d_R_holds_99 rfl (lv_at hl 3 rfl) ?_
                refine bnd h (fun q8 k9 h => ?_)
                refine clZ0 (v := q8) C hw (invS (As := [.int (vJ σ (c0 + 5) (nx x5)), .ref (g.2.1 c3)]) C hw (c_R_passes g (vJ σ (c0 + 5) (nx x5)) c3 hc3 σ q8 k9 l) rfl wc_R_44 nd_R_passes.2 ⟨by decide, by decide⟩ rfl hl.1 rfl (Nat.le_of_ble_eq_true rfl) d_R_holds_100 ⟨Nat.le_refl _, Nat.le_refl _⟩) (fun H locs hw => ?_)
                refine ifB (tgt := 110) C d_R_holds_103 (by decide) (fun b10 => ?_) (fun b10 => ?_)
                · replace h := ifp b10 h
                  refine lv_iconst (v := 0) hx hb d_R_holds_110 (by decide) ?_
                  refine lv_ior hx hb d_R_holds_111 ?_
                  refine lv_istore (lv' := [(4, .int ((x4 <<< (1 &&& (31 : Int32))) ||| 0)), (6, .int (x4 &&& 1)), (0, .ref (g.2.1 c0)), (2, .int x2), (3, .ref (g.2.1 c3)), (5, .int x5)]) hx hb d_R_holds_112 hl (by decide) rfl (fun ls hl => ?_)
                  refine lv_iinc (v := (x5 + 1)) (lv' := [(5, .int (x5 + 1)), (4, .int ((x4 <<< (1 &&& (31 : Int32))) ||| 0)), (6, .int (x4 &&& 1)), (0, .ref (g.2.1 c0)), (2, .int x2), (3, .ref (g.2.1 c3))]) hx hb d_R_holds_114 hl (k := 5) rfl rfl (by decide) rfl (fun ls hl => ?_)
                  refine lv_goto (tgt := 6) hx hb d_R_holds_117 (by decide) ?_
                  exact ih ((x4 <<< (1 &&& (31 : Int32))) ||| 0) (x5 + 1) σ H locs ls hw (lv_sub hl [3, 4, 5, 1, 0] rfl) ex h kx1 kr1
                · replace h := ifn b10 h
                  refine lv_iconst (v := 1) hx hb d_R_holds_106 (by decide) ?_
                  refine lv_goto (tgt := 111) hx hb d_R_holds_107 (by decide) ?_
                  refine lv_ior hx hb d_R_holds_111 ?_
                  refine lv_istore (lv' := [(4, .int ((x4 <<< (1 &&& (31 : Int32))) ||| 1)), (6, .int (x4 &&& 1)), (0, .ref (g.2.1 c0)), (2, .int x2), (3, .ref (g.2.1 c3)), (5, .int x5)]) hx hb d_R_holds_112 hl (by decide) rfl (fun ls hl => ?_)
                  refine lv_iinc (v := (x5 + 1)) (lv' := [(5, .int (x5 + 1)), (4, .int ((x4 <<< (1 &&& (31 : Int32))) ||| 1)), (6, .int (x4 &&& 1)), (0, .ref (g.2.1 c0)), (2, .int x2), (3, .ref (g.2.1 c3))]) hx hb d_R_holds_114 hl (k := 5) rfl rfl (by decide) rfl (fun ls hl => ?_)
                  refine lv_goto (tgt := 6) hx hb d_R_holds_117 (by decide) ?_
                  exact ih ((x4 <<< (1 &&& (31 : Int32))) ||| 1) (x5 + 1) σ H locs ls hw (lv_sub hl [3, 4, 5, 1, 0] rfl) ex h kx1 kr1
  refine bnd h (fun x_11 k12 h => ?_)
  refine L1 c0 hc0 p2 c3 hc3 FU 0 p1 σ H locs ls hw (lv_sub hl [2, 4, 5, 1, 0] rfl) x_11 k12 (fun y15 e16 H locs ls hw hl => ?_) trivial
  subst e16
  refine lv_iload hx hb d_R_holds_120 (lv_at hl 0 rfl) ?_
  refine lv_iconst (v := 1) hx hb d_R_holds_122 (by decide) ?_
  refine lv_iand hx hb d_R_holds_123 ?_
  refine lv_iconst (v := 1) hx hb d_R_holds_124 (by decide) ?_
  refine lv_icmp_ne (tgt := 132) hx hb d_R_holds_125 (by decide) (fun b14 => ?_) (fun b14 => ?_)
  · replace h := ifn b14 h
    refine lv_iconst (v := 0) hx hb d_R_holds_132 (by decide) ?_
    exact retZ (b := false) C hw rfl rfl (congrArg (fun z => (z, σ)) (Option.some.inj h)) d_R_holds_133
  · replace h := ifp b14 h
    refine lv_iconst (v := 1) hx hb d_R_holds_128 (by decide) ?_
    refine lv_goto (tgt := 133) hx hb d_R_holds_129 (by decide) ?_
    exact retZ (b := true) C hw rfl rfl (congrArg (fun z => (z, σ)) (Option.some.inj h)) d_R_holds_133
def f_R_together_l5 : Nat → Nat → Int32 → Nat → Int32 → Int32 → St → Option (Int32)
  | 0, _, _, _, _, _, _ => none
  | n + 1, c0, x1, c2, x3, x4, σ => (if (vI σ c0 0) ≤ x4 then some x3 else (if ok x4 10 = true then (if (vJ σ (c0 + 1) (nx x4)) = x1 then (if ok x4 10 = true then (if ok x4 10 = true then ((f_R_holds c0 (vJ σ (c0 + 3) (nx x4)) (vJ σ (c0 + 4) (nx x4)) c2 σ).bind fun q7 => (if q7 = false then (f_R_together_l5 n c0 x1 c2 x3 (x4 + 1) σ) else (if ok x4 10 = true then (f_R_together_l5 n c0 x1 c2 (x3 + (vJ σ (c0 + 2) (nx x4))) (x4 + 1) σ) else none))) else none) else none) else (f_R_together_l5 n c0 x1 c2 x3 (x4 + 1) σ)) else none))
def f_R_together (c0 : Nat) (p1 : Int32) (c2 : Nat) (σ : St) : Option (Int32) := ((f_R_together_l5 FU c0 p1 c2 0 0 σ).bind fun x_11 => some x_11)
set_option maxHeartbeats 400000 in
set_option maxRecDepth 20000 in
theorem c_R_together (g : GX) (c0 : Nat) (hc0 : tg BX c0 1) (p1 : Int32) (c2 : Nat) (hc2 : tg BX c2 106) (σ : St) (q : Int32) (h : f_R_together c0 p1 c2 σ = some q) (l : Launch) : CT BX l y_R_together (v_R_together :: lwG) 3 [.ref (g.2.1 c0), .int p1, .ref (g.2.1 c2)] g σ (QI BX g (q, σ)) := by
  refine mkC (cc := b_R_together) (maxL := 5) (ret := (some .int)) rfl (by decide) rfl (Nat.le_of_ble_eq_true rfl) ?_
  intro p e s m args below meth c A ls C hl hw
  obtain ⟨hx, hb, hr, hml, hown, hts, hK, hE, hA, hlk⟩ := id C
  replace hl : lv_has ls 5 [(0, .ref (g.2.1 c0)), (1, .int p1), (2, .ref (g.2.1 c2))] := hl
  obtain ⟨H, hH⟩ : ∃ z, z = s.heap := ⟨_, rfl⟩
  rw [← hH] at hw ⊢
  obtain ⟨locs, hlo⟩ : ∃ z : List Loc, z = [] := ⟨_, rfl⟩
  rw [← hlo] at hw ⊢
  unfold f_R_together at h
  refine lv_iconst (v := 0) hx hb d_R_together_0 (by decide) ?_
  refine lv_istore_n (lv' := [(3, .int 0), (0, .ref (g.2.1 c0)), (1, .int p1), (2, .ref (g.2.1 c2))]) hx hb d_R_together_1 rfl hl (by decide) rfl (fun ls hl => ?_)
  refine lv_iconst (v := 0) hx hb d_R_together_2 (by decide) ?_
  refine lv_istore (lv' := [(4, .int 0), (3, .int 0), (0, .ref (g.2.1 c0)), (1, .int p1), (2, .ref (g.2.1 c2))]) hx hb d_R_together_3 hl (by decide) rfl (fun ls hl => ?_)
  have L1 : ∀ (c0 : Nat) (hc0 : tg BX c0 1) (x1 : Int32) (c2 : Nat) (hc2 : tg BX c2 106) (n : Nat) (x3 : Int32) (x4 : Int32) (σ : St) (H : Heap) (locs : List Loc) (ls : Array Slot), HW BX g A s σ H locs → lv_has ls 5 [(0, .ref (g.2.1 c0)), (1, .int x1), (2, .ref (g.2.1 c2)), (3, .int x3), (4, .int x4)] → ∀ (ex : Int32), f_R_together_l5 n c0 x1 c2 x3 x4 σ = some ex → (∀ (y : Int32), ex = y → ∀ (H : Heap) (locs : List Loc) (ls : Array Slot), HW BX g A s σ H locs → lv_has ls 5 [(3, .int y)] → W p l e (rmL 3) s m args below meth c H locs 0 0 (MQ below (QI BX g (q, σ) A) args s 0 0 A) (F0 m 63 ls [])) → (True) → W p l e (rmL 3) s m args below meth c H locs 0 0 (MQ below (QI BX g (q, σ) A) args s 0 0 A) (F0 m 5 ls []) := by
    intro c0 hc0 x1 c2 hc2 n
    induction n with
    | zero =>
      intro x3 x4 σ H locs ls hw hl ex h kx1 kr1
      cases h
    | succ n ih =>
      intro x3 x4 σ H locs ls hw hl ex h kx1 kr1
      rw [f_R_together_l5] at h
      refine lv_iload hx hb d_R_together_5 (lv_at hl 4 rfl) ?_
      refine lv_aload_n hx hb d_R_together_7 rfl (lv_at hl 0 rfl) ?_
      refine fg_R_9 C hw hc0 d_R_together_8 ?_
      refine lv_icmp_ge (tgt := 63) hx hb d_R_together_11 (by decide) (fun b2 => ?_) (fun b2 => ?_)
      · replace h := ifp b2 h
        exact kx1 _ (Option.some.inj h).symm H locs ls hw (lv_sub hl [3] rfl)
      · replace h := ifn b2 h
        refine lv_aload_n hx hb d_R_together_14 rfl (lv_at hl 0 rfl) ?_
        refine fg_R_15 C hw hc0 d_R_together_15 ?_
        refine lv_iload hx hb d_R_together_18 (lv_at hl 4 rfl) ?_
        refine gde h (fun g3 h => ?_)
        refine ldI (n := 10) C hw (tR_1 hc0) (by decide) g3 d_R_together_20 ?_
        refine lv_iload_n hx hb d_R_together_21 rfl (lv_at hl 1 rfl) ?_
        refine lv_icmp_ne (tgt := 57) hx hb d_R_together_22 (by decide) (fun b4 => ?_) (fun b4 => ?_)
        · replace h := ifn b4 h
          refine lv_iinc (v := (x4 + 1)) (lv' := [(4, .int (x4 + 1)), (0, .ref (g.2.1 c0)), (1, .int x1), (2, .ref (g.2.1 c2)), (3, .int x3)]) hx hb d_R_together_57 hl (k := 4) rfl rfl (by decide) rfl (fun ls hl => ?_)
          refine lv_goto (tgt := 5) hx hb d_R_together_60 (by decide) ?_
          exact ih x3 (x4 + 1) σ H locs ls hw (lv_sub hl [1, 2, 3, 4, 0] rfl) ex h kx1 kr1
        · replace h := ifp b4 h
          refine lv_aload_n hx hb d_R_together_25 rfl (lv_at hl 0 rfl) ?_
          refine lv_aload_n hx hb d_R_together_26 rfl (lv_at hl 0 rfl) ?_
          refine fg_R_22 C hw hc0 d_R_together_27 ?_
          refine lv_iload hx hb d_R_together_30 (lv_at hl 4 rfl) ?_
          refine gde h (fun g5 h => ?_)
          refine ldI (n := 10) C hw (tR_3 hc0) (by decide) g5 d_R_together_32 ?_
          refine lv_aload_n hx hb d_R_together_33 rfl (lv_at hl 0 rfl) ?_
          refine fg_R_25 C hw hc0 d_R_together_34 ?_
          refine lv_iload hx hb d_R_together_37 (lv_at hl 4 rfl) ?_
          refine gde h (fun g6 h => ?_)
          refine ldI (n := 10) C hw (tR_4 hc0) (by decide) g6 d_R_together_39 ?_
          refine lv_aload_n hx hb d_R_together_40 rfl (lv_at hl 2 rfl) ?_
          refine bnd h (fun q7 k8 h => ?_)
          refine clZ0 (v := q7) C hw (invV (As := [.int (vJ σ (c0 + 3) (nx x4)), .int (vJ σ (c0 + 4) (nx x4)), .ref (g.2.1 c2)]) C hw (c_R_holds g c0 hc0 (vJ σ (c0 + 3) (nx x4)) (vJ σ (c0 + 4) (nx x4)) c2 hc2 σ q7 k8 l) rfl wc_R_40 nd_R_holds ⟨by decide, by decide⟩ (rc_R C hw hc0) rfl hl.1 rfl (Nat.le_of_ble_eq_true rfl) d_R_together_41 ⟨Nat.le_refl _, Nat.le_refl _⟩) (fun H locs hw => ?_)
          refine ifB (tgt := 57) C d_R_together_44 (by decide) (fun b9 => ?_) (fun b9 => ?_)
          · replace h := ifp b9 h
            refine lv_iinc (v := (x4 + 1)) (lv' := [(4, .int (x4 + 1)), (0, .ref (g.2.1 c0)), (1, .int x1), (2, .ref (g.2.1 c2)), (3, .int x3)]) hx hb d_R_together_57 hl (k := 4) rfl rfl (by decide) rfl (fun ls hl => ?_)
            refine lv_goto (tgt := 5) hx hb d_R_together_60 (by decide) ?_
            exact ih x3 (x4 + 1) σ H locs ls hw (lv_sub hl [1, 2, 3, 4, 0] rfl) ex h kx1 kr1
          · replace h := ifn b9 h
            refine lv_iload_n hx hb d_R_together_47 rfl (lv_at hl 3 rfl) ?_
            refine lv_aload_n hx hb d_R_together_48 rfl (lv_at hl 0 rfl) ?_
            refine fg_R_19 C hw hc0 d_R_together_49 ?_
            refine lv_iload hx hb d_R_together_52 (lv_at hl 4 rfl) ?_
            refine gde h (fun g10 h => ?_)
            refine ldI (n := 10) C hw (tR_2 hc0) (by decide) g10 d_R_together_54 ?_
            refine lv_iadd hx hb d_R_together_55 ?_
            refine lv_istore_n (lv' := [(3, .int (x3 + (vJ σ (c0 + 2) (nx x4)))), (0, .ref (g.2.1 c0)), (1, .int x1), (2, .ref (g.2.1 c2)), (4, .int x4)]) hx hb d_R_together_56 rfl hl (by decide) rfl (fun ls hl => ?_)
            refine lv_iinc (v := (x4 + 1)) (lv' := [(4, .int (x4 + 1)), (3, .int (x3 + (vJ σ (c0 + 2) (nx x4)))), (0, .ref (g.2.1 c0)), (1, .int x1), (2, .ref (g.2.1 c2))]) hx hb d_R_together_57 hl (k := 4) rfl rfl (by decide) rfl (fun ls hl => ?_)
            refine lv_goto (tgt := 5) hx hb d_R_together_60 (by decide) ?_
            exact ih (x3 + (vJ σ (c0 + 2) (nx x4))) (x4 + 1) σ H locs ls hw (lv_sub hl [2, 3, 4, 1, 0] rfl) ex h kx1 kr1
  refine bnd h (fun x_11 k12 h => ?_)
  refine L1 c0 hc0 p1 c2 hc2 FU 0 0 σ H locs ls hw (lv_sub hl [2, 3, 4, 1, 0] rfl) x_11 k12 (fun y14 e15 H locs ls hw hl => ?_) trivial
  subst e15
  refine lv_iload_n hx hb d_R_together_63 rfl (lv_at hl 0 rfl) ?_
  exact retI C hw rfl (congrArg (fun z => (z, σ)) (Option.some.inj h)) d_R_together_64
def f_K_wants (c0 : Nat) (p1 : Int32) (σ : St) : Option (Int32 × St) := (if ok p1 6 = true then (if tgb BX (vH σ c0) 1 = true then ((f_K_factsOf c0 p1 σ).bind fun q3 => ((f_R_together (vH σ c0) 0 (c0 + 8) q3).bind fun q5 => some (((vJ σ (c0 + 3) (nx p1)) + q5), q3))) else none) else none)
set_option maxHeartbeats 400000 in
set_option maxRecDepth 20000 in
theorem c_K_wants (g : GX) (c0 : Nat) (hc0 : tg BX c0 4) (p1 : Int32) (σ : St) (q : Int32 × St) (h : f_K_wants c0 p1 σ = some q) (l : Launch) : CT BX l y_K_wants (v_K_wants :: lwG) 4 [.ref (g.2.1 c0), .int p1] g σ (QI BX g q) := by
  refine mkC (cc := b_K_wants) (maxL := 2) (ret := (some .int)) rfl (by decide) rfl (Nat.le_of_ble_eq_true rfl) ?_
  intro p e s m args below meth c A ls C hl hw
  obtain ⟨hx, hb, hr, hml, hown, hts, hK, hE, hA, hlk⟩ := id C
  replace hl : lv_has ls 2 [(0, .ref (g.2.1 c0)), (1, .int p1)] := hl
  obtain ⟨H, hH⟩ : ∃ z, z = s.heap := ⟨_, rfl⟩
  rw [← hH] at hw ⊢
  obtain ⟨locs, hlo⟩ : ∃ z : List Loc, z = [] := ⟨_, rfl⟩
  rw [← hlo] at hw ⊢
  unfold f_K_wants at h
  refine lv_aload_n hx hb d_K_wants_0 rfl (lv_at hl 0 rfl) ?_
  refine fg_K_22 C hw hc0 d_K_wants_1 ?_
  refine lv_iload_n hx hb d_K_wants_4 rfl (lv_at hl 1 rfl) ?_
  refine gde h (fun g1 h => ?_)
  refine ldI (n := 6) C hw (tK_3 hc0) (by decide) g1 d_K_wants_5 ?_
  refine lv_aload_n hx hb d_K_wants_6 rfl (lv_at hl 0 rfl) ?_
  refine gde h (fun g2 h => ?_)
  refine fg_K_59 C hw hc0 d_K_wants_7 ?_
  refine lv_iconst (v := 0) hx hb d_K_wants_10 (by decide) ?_
  refine lv_aload_n hx hb d_K_wants_11 rfl (lv_at hl 0 rfl) ?_
  refine lv_iload_n hx hb d_K_wants_12 rfl (lv_at hl 1 rfl) ?_
  refine bnd h (fun q3 k4 h => ?_)
  refine clR C hw (invV (As := [.int p1]) C hw (c_K_factsOf g c0 hc0 p1 σ q3 k4 l) rfl wc_K_77 nd_K_factsOf ⟨by decide, by decide⟩ (rc_K C hw hc0) rfl hl.1 rfl (Nat.le_of_ble_eq_true rfl) d_K_wants_13 ⟨Nat.le_refl _, Nat.le_refl _⟩) (fun H locs hw => ?_)
  refine bnd h (fun q5 k6 h => ?_)
  refine clI0 (v := q5) C hw (invV (As := [.int 0, .ref (g.2.1 (c0 + 8))]) C hw (c_R_together g (vH σ c0) (tgb_t g2) 0 (c0 + 8) (tK_8 hc0) q3 q5 k6 l) rfl wc_K_81 nd_R_together ⟨by decide, by decide⟩ (rc_R C hw (tgb_t g2)) rfl hl.1 rfl (Nat.le_of_ble_eq_true rfl) d_K_wants_16 ⟨Nat.le_refl _, Nat.le_refl _⟩) (fun H locs hw => ?_)
  refine lv_iadd hx hb d_K_wants_19 ?_
  exact retI C hw rfl (Option.some.inj h) d_K_wants_20
def f_K_pay (c0 : Nat) (p1 : Int32) (σ : St) : Option (Int32 × St) := (if tgb BX (vH σ c0) 1 = true then ((f_K_factsOf c0 p1 σ).bind fun q2 => ((f_R_together (vH σ c0) 3 (c0 + 8) q2).bind fun q4 => some (q4, q2))) else none)
set_option maxHeartbeats 400000 in
set_option maxRecDepth 20000 in
theorem c_K_pay (g : GX) (c0 : Nat) (hc0 : tg BX c0 4) (p1 : Int32) (σ : St) (q : Int32 × St) (h : f_K_pay c0 p1 σ = some q) (l : Launch) : CT BX l y_K_pay (v_K_pay :: lwG) 4 [.ref (g.2.1 c0), .int p1] g σ (QI BX g q) := by
  refine mkC (cc := b_K_pay) (maxL := 2) (ret := (some .int)) rfl (by decide) rfl (Nat.le_of_ble_eq_true rfl) ?_
  intro p e s m args below meth c A ls C hl hw
  obtain ⟨hx, hb, hr, hml, hown, hts, hK, hE, hA, hlk⟩ := id C
  replace hl : lv_has ls 2 [(0, .ref (g.2.1 c0)), (1, .int p1)] := hl
  obtain ⟨H, hH⟩ : ∃ z, z = s.heap := ⟨_, rfl⟩
  rw [← hH] at hw ⊢
  obtain ⟨locs, hlo⟩ : ∃ z : List Loc, z = [] := ⟨_, rfl⟩
  rw [← hlo] at hw ⊢
  unfold f_K_pay at h
  refine lv_aload_n hx hb d_K_pay_0 rfl (lv_at hl 0 rfl) ?_
  refine gde h (fun g1 h => ?_)
  refine fg_K_59 C hw hc0 d_K_pay_1 ?_
  refine lv_iconst (v := 3) hx hb d_K_pay_4 (by decide) ?_
  refine lv_aload_n hx hb d_K_pay_5 rfl (lv_at hl 0 rfl) ?_
  refine lv_iload_n hx hb d_K_pay_6 rfl (lv_at hl 1 rfl) ?_
  refine bnd h (fun q2 k3 h => ?_)
  refine clR C hw (invV (As := [.int p1]) C hw (c_K_factsOf g c0 hc0 p1 σ q2 k3 l) rfl wc_K_77 nd_K_factsOf ⟨by decide, by decide⟩ (rc_K C hw hc0) rfl hl.1 rfl (Nat.le_of_ble_eq_true rfl) d_K_pay_7 ⟨Nat.le_refl _, Nat.le_refl _⟩) (fun H locs hw => ?_)
  refine bnd h (fun q4 k5 h => ?_)
  refine clI0 (v := q4) C hw (invV (As := [.int 3, .ref (g.2.1 (c0 + 8))]) C hw (c_R_together g (vH σ c0) (tgb_t g1) 3 (c0 + 8) (tK_8 hc0) q2 q4 k5 l) rfl wc_K_81 nd_R_together ⟨by decide, by decide⟩ (rc_R C hw (tgb_t g1)) rfl hl.1 rfl (Nat.le_of_ble_eq_true rfl) d_K_pay_10 ⟨Nat.le_refl _, Nat.le_refl _⟩) (fun H locs hw => ?_)
  exact retI C hw rfl (Option.some.inj h) d_K_pay_13
def f_R_clear (c0 : Nat) (σ : St) : Option (St) := (st (sI σ c0 0 0) fun s2 => (st (sI s2 c0 6 0) fun s4 => (st (sI s4 c0 7 5) fun s6 => (st (sI s6 c0 8 200) fun s8 => some s8))))
set_option maxHeartbeats 400000 in
set_option maxRecDepth 20000 in
theorem c_R_clear (g : GX) (c0 : Nat) (hc0 : tg BX c0 1) (σ : St) (q : St) (h : f_R_clear c0 σ = some q) (l : Launch) : CT BX l y_R_clear (v_R_clear :: lwG) 1 [.ref (g.2.1 c0)] g σ (QV BX g q) := by
  refine mkC (cc := b_R_clear) (maxL := 1) (ret := none) rfl (by decide) rfl (Nat.le_of_ble_eq_true rfl) ?_
  intro p e s m args below meth c A ls C hl hw
  obtain ⟨hx, hb, hr, hml, hown, hts, hK, hE, hA, hlk⟩ := id C
  replace hl : lv_has ls 1 [(0, .ref (g.2.1 c0))] := hl
  obtain ⟨H, hH⟩ : ∃ z, z = s.heap := ⟨_, rfl⟩
  rw [← hH] at hw ⊢
  obtain ⟨locs, hlo⟩ : ∃ z : List Loc, z = [] := ⟨_, rfl⟩
  rw [← hlo] at hw ⊢
  unfold f_R_clear at h
  refine lv_aload_n hx hb d_R_clear_0 rfl (lv_at hl 0 rfl) ?_
  refine lv_iconst (v := 0) hx hb d_R_clear_1 (by decide) ?_
  refine ste h (fun s2 e12 h => ?_)
  refine fp_R_9 C hw hc0 d_R_clear_2 (fun H locs hw => ?_)
  replace hw := HWe hw e12
  refine lv_aload_n hx hb d_R_clear_5 rfl (lv_at hl 0 rfl) ?_
  refine lv_iconst (v := 0) hx hb d_R_clear_6 (by decide) ?_
  refine ste h (fun s4 e11 h => ?_)
  refine fp_R_31 C hw hc0 d_R_clear_7 (fun H locs hw => ?_)
  replace hw := HWe hw e11
  refine lv_aload_n hx hb d_R_clear_10 rfl (lv_at hl 0 rfl) ?_
  refine lv_iconst (v := 5) hx hb d_R_clear_11 (by decide) ?_
  refine ste h (fun s6 e10 h => ?_)
  refine fp_R_34 C hw hc0 d_R_clear_12 (fun H locs hw => ?_)
  replace hw := HWe hw e10
  refine lv_aload_n hx hb d_R_clear_15 rfl (lv_at hl 0 rfl) ?_
  refine lv_sipush (v := 200) hx hb d_R_clear_16 (by decide) ?_
  refine ste h (fun s8 e9 h => ?_)
  refine fp_R_37 C hw hc0 d_R_clear_19 (fun H locs hw => ?_)
  replace hw := HWe hw e9
  exact retV C hw rfl (Option.some.inj h) d_R_clear_22
def f_R_begin (c0 : Nat) (p1 : Int32) (p2 : Int32) (σ : St) : Option (St) := (if (vI σ c0 0) < 10 then (if ok (vI σ c0 0) 10 = true then (st (sJ σ (c0 + 1) (upd (vJ σ (c0 + 1)) (nx (vI σ c0 0)) p1)) fun s3 => (if ok (vI s3 c0 0) 10 = true then (st (sJ s3 (c0 + 2) (upd (vJ s3 (c0 + 2)) (nx (vI s3 c0 0)) p2)) fun s5 => (if ok (vI s5 c0 0) 10 = true then (st (sJ s5 (c0 + 3) (upd (vJ s5 (c0 + 3)) (nx (vI s5 c0 0)) (vI s5 c0 6))) fun s7 => (if p1 = 1 then (st (sI s7 c0 7 p2) fun s14 => some s14) else (if p1 = 2 then (st (sI s7 c0 8 (10 * p2)) fun s11 => some s11) else some s7))) else none)) else none)) else none) else some σ)
set_option maxHeartbeats 400000 in
set_option maxRecDepth 20000 in
theorem c_R_begin (g : GX) (c0 : Nat) (hc0 : tg BX c0 1) (p1 : Int32) (p2 : Int32) (σ : St) (q : St) (h : f_R_begin c0 p1 p2 σ = some q) (l : Launch) : CT BX l y_R_begin (v_R_begin :: lwG) 1 [.ref (g.2.1 c0), .int p1, .int p2] g σ (QV BX g q) := by
  refine mkC (cc := b_R_begin) (maxL := 3) (ret := none) rfl (by decide) rfl (Nat.le_of_ble_eq_true rfl) ?_
  intro p e s m args below meth c A ls C hl hw
  obtain ⟨hx, hb, hr, hml, hown, hts, hK, hE, hA, hlk⟩ := id C
  replace hl : lv_has ls 3 [(0, .ref (g.2.1 c0)), (1, .int p1), (2, .int p2)] := hl
  obtain ⟨H, hH⟩ : ∃ z, z = s.heap := ⟨_, rfl⟩
  rw [← hH] at hw ⊢
  obtain ⟨locs, hlo⟩ : ∃ z : List Loc, z = [] := ⟨_, rfl⟩
  rw [← hlo] at hw ⊢
  unfold f_R_begin at h
  refine lv_aload_n hx hb d_R_begin_0 rfl (lv_at hl 0 rfl) ?_
  refine fg_R_9 C hw hc0 d_R_begin_1 ?_
  refine lv_bipush (v := 10) hx hb d_R_begin_4 (by decide) ?_
  refine lv_icmp_lt (tgt := 10) hx hb d_R_begin_6 (by decide) (fun b1 => ?_) (fun b1 => ?_)
  · replace h := ifp b1 h
    refine lv_aload_n hx hb d_R_begin_10 rfl (lv_at hl 0 rfl) ?_
    refine fg_R_15 C hw hc0 d_R_begin_11 ?_
    refine lv_aload_n hx hb d_R_begin_14 rfl (lv_at hl 0 rfl) ?_
    refine fg_R_9 C hw hc0 d_R_begin_15 ?_
    refine lv_iload_n hx hb d_R_begin_18 rfl (lv_at hl 1 rfl) ?_
    refine gde h (fun g2 h => ?_)
    refine ste h (fun s3 e18 h => ?_)
    refine stI (n := 10) C hw (tR_1 hc0) (by decide) g2 d_R_begin_19 (fun H locs hw => ?_)
    replace hw := HWe hw e18
    refine lv_aload_n hx hb d_R_begin_20 rfl (lv_at hl 0 rfl) ?_
    refine fg_R_19 C hw hc0 d_R_begin_21 ?_
    refine lv_aload_n hx hb d_R_begin_24 rfl (lv_at hl 0 rfl) ?_
    refine fg_R_9 C hw hc0 d_R_begin_25 ?_
    refine lv_iload_n hx hb d_R_begin_28 rfl (lv_at hl 2 rfl) ?_
    refine gde h (fun g4 h => ?_)
    refine ste h (fun s5 e17 h => ?_)
    refine stI (n := 10) C hw (tR_2 hc0) (by decide) g4 d_R_begin_29 (fun H locs hw => ?_)
    replace hw := HWe hw e17
    refine lv_aload_n hx hb d_R_begin_30 rfl (lv_at hl 0 rfl) ?_
    refine fg_R_22 C hw hc0 d_R_begin_31 ?_
    refine lv_aload_n hx hb d_R_begin_34 rfl (lv_at hl 0 rfl) ?_
    refine fg_R_9 C hw hc0 d_R_begin_35 ?_
    refine lv_aload_n hx hb d_R_begin_38 rfl (lv_at hl 0 rfl) ?_
    refine fg_R_31 C hw hc0 d_R_begin_39 ?_
    refine gde h (fun g6 h => ?_)
    refine ste h (fun s7 e16 h => ?_)
    refine stI (n := 10) C hw (tR_3 hc0) (by decide) g6 d_R_begin_42 (fun H locs hw => ?_)
    replace hw := HWe hw e16
    refine lv_iload_n hx hb d_R_begin_43 rfl (lv_at hl 1 rfl) ?_
    refine lv_iconst (v := 1) hx hb d_R_begin_44 (by decide) ?_
    refine lv_icmp_ne (tgt := 56) hx hb d_R_begin_45 (by decide) (fun b8 => ?_) (fun b8 => ?_)
    · replace h := ifn b8 h
      refine lv_iload_n hx hb d_R_begin_56 rfl (lv_at hl 1 rfl) ?_
      refine lv_iconst (v := 2) hx hb d_R_begin_57 (by decide) ?_
      refine lv_icmp_ne (tgt := 69) hx hb d_R_begin_58 (by decide) (fun b9 => ?_) (fun b9 => ?_)
      · replace h := ifn b9 h
        exact retV C hw rfl (Option.some.inj h) d_R_begin_69
      · replace h := ifp b9 h
        refine lv_aload_n hx hb d_R_begin_61 rfl (lv_at hl 0 rfl) ?_
        refine lv_bipush (v := 10) hx hb d_R_begin_62 (by decide) ?_
        refine lv_iload_n hx hb d_R_begin_64 rfl (lv_at hl 2 rfl) ?_
        refine lv_imul hx hb d_R_begin_65 ?_
        refine ste h (fun s11 e12 h => ?_)
        refine fp_R_37 C hw hc0 d_R_begin_66 (fun H locs hw => ?_)
        replace hw := HWe hw e12
        exact retV C hw rfl (Option.some.inj h) d_R_begin_69
    · replace h := ifp b8 h
      refine lv_aload_n hx hb d_R_begin_48 rfl (lv_at hl 0 rfl) ?_
      refine lv_iload_n hx hb d_R_begin_49 rfl (lv_at hl 2 rfl) ?_
      refine ste h (fun s14 e15 h => ?_)
      refine fp_R_34 C hw hc0 d_R_begin_50 (fun H locs hw => ?_)
      replace hw := HWe hw e15
      refine lv_goto (tgt := 69) hx hb d_R_begin_53 (by decide) ?_
      exact retV C hw rfl (Option.some.inj h) d_R_begin_69
  · replace h := ifn b1 h
    exact retV C hw rfl (Option.some.inj h) d_R_begin_9
def f_R_test (p0 : Int32) (p1 : Int32) (p2 : Int32) : Int32 := (((p0 <<< (16 &&& (31 : Int32))) ||| (p1 <<< (8 &&& (31 : Int32)))) ||| p2)
set_option maxHeartbeats 400000 in
set_option maxRecDepth 20000 in
theorem c_R_test (g : GX) (p0 : Int32) (p1 : Int32) (p2 : Int32) (σ : St) (l : Launch) : CT BX l y_R_test (v_R_test :: lwG) 1 [.int p0, .int p1, .int p2] g σ (QI BX g (f_R_test p0 p1 p2, σ)) := by
  generalize h : f_R_test p0 p1 p2 = q
  refine mkC (cc := b_R_test) (maxL := 3) (ret := (some .int)) rfl (by decide) rfl (Nat.le_of_ble_eq_true rfl) ?_
  intro p e s m args below meth c A ls C hl hw
  obtain ⟨hx, hb, hr, hml, hown, hts, hK, hE, hA, hlk⟩ := id C
  replace hl : lv_has ls 3 [(0, .int p0), (1, .int p1), (2, .int p2)] := hl
  obtain ⟨H, hH⟩ : ∃ z, z = s.heap := ⟨_, rfl⟩
  rw [← hH] at hw ⊢
  obtain ⟨locs, hlo⟩ : ∃ z : List Loc, z = [] := ⟨_, rfl⟩
  rw [← hlo] at hw ⊢
  unfold f_R_test at h
  refine lv_iload_n hx hb d_R_test_0 rfl (lv_at hl 0 rfl) ?_
  refine lv_bipush (v := 16) hx hb d_R_test_1 (by decide) ?_
  refine lv_ishl hx hb d_R_test_3 ?_
  refine lv_iload_n hx hb d_R_test_4 rfl (lv_at hl 1 rfl) ?_
  refine lv_bipush (v := 8) hx hb d_R_test_5 (by decide) ?_
  refine lv_ishl hx hb d_R_test_7 ?_
  refine lv_ior hx hb d_R_test_8 ?_
  refine lv_iload_n hx hb d_R_test_9 rfl (lv_at hl 2 rfl) ?_
  refine lv_ior hx hb d_R_test_10 ?_
  exact retI C hw rfl (congrArg (fun z => (z, σ)) h) d_R_test_11
def f_R_step (c0 : Nat) (p1 : Int32) (σ : St) : Option (St) := (if 100 ≤ (vI σ c0 6) then some σ else (if ok (vI σ c0 6) 100 = true then (st (sJ σ (c0 + 5) (upd (vJ σ (c0 + 5)) (nx (vI σ c0 6)) p1)) fun s3 => (st (sI s3 c0 6 ((vI s3 c0 6) + 1)) fun s5 => some s5)) else none))
set_option maxHeartbeats 400000 in
set_option maxRecDepth 20000 in
theorem c_R_step (g : GX) (c0 : Nat) (hc0 : tg BX c0 1) (p1 : Int32) (σ : St) (q : St) (h : f_R_step c0 p1 σ = some q) (l : Launch) : CT BX l y_R_step (v_R_step :: lwG) 1 [.ref (g.2.1 c0), .int p1] g σ (QV BX g q) := by
  refine mkC (cc := b_R_step) (maxL := 2) (ret := none) rfl (by decide) rfl (Nat.le_of_ble_eq_true rfl) ?_
  intro p e s m args below meth c A ls C hl hw
  obtain ⟨hx, hb, hr, hml, hown, hts, hK, hE, hA, hlk⟩ := id C
  replace hl : lv_has ls 2 [(0, .ref (g.2.1 c0)), (1, .int p1)] := hl
  obtain ⟨H, hH⟩ : ∃ z, z = s.heap := ⟨_, rfl⟩
  rw [← hH] at hw ⊢
  obtain ⟨locs, hlo⟩ : ∃ z : List Loc, z = [] := ⟨_, rfl⟩
  rw [← hlo] at hw ⊢
  unfold f_R_step at h
  refine lv_aload_n hx hb d_R_step_0 rfl (lv_at hl 0 rfl) ?_
  refine fg_R_31 C hw hc0 d_R_step_1 ?_
  refine lv_aload_n hx hb d_R_step_4 rfl (lv_at hl 0 rfl) ?_
  refine fg_R_28 C hw hc0 d_R_step_5 ?_
  refine lnI (n := 100) (v := 100) C hw (tR_5 hc0) (by decide) (by decide) d_R_step_8 ?_
  refine lv_icmp_ge (tgt := 32) hx hb d_R_step_9 (by decide) (fun b1 => ?_) (fun b1 => ?_)
  · replace h := ifp b1 h
    exact retV C hw rfl (Option.some.inj h) d_R_step_32
  · replace h := ifn b1 h
    refine lv_aload_n hx hb d_R_step_12 rfl (lv_at hl 0 rfl) ?_
    refine fg_R_28 C hw hc0 d_R_step_13 ?_
    refine lv_aload_n hx hb d_R_step_16 rfl (lv_at hl 0 rfl) ?_
    refine fg_R_31 C hw hc0 d_R_step_17 ?_
    refine lv_iload_n hx hb d_R_step_20 rfl (lv_at hl 1 rfl) ?_
    refine gde h (fun g2 h => ?_)
    refine ste h (fun s3 e7 h => ?_)
    refine stI (n := 100) C hw (tR_5 hc0) (by decide) g2 d_R_step_21 (fun H locs hw => ?_)
    replace hw := HWe hw e7
    refine lv_aload_n hx hb d_R_step_22 rfl (lv_at hl 0 rfl) ?_
    refine lv_dup hx hb d_R_step_23 rfl ?_
    refine fg_R_31 C hw hc0 d_R_step_24 ?_
    refine lv_iconst (v := 1) hx hb d_R_step_27 (by decide) ?_
    refine lv_iadd hx hb d_R_step_28 ?_
    refine ste h (fun s5 e6 h => ?_)
    refine fp_R_31 C hw hc0 d_R_step_29 (fun H locs hw => ?_)
    replace hw := HWe hw e6
    exact retV C hw rfl (Option.some.inj h) d_R_step_32
def f_R_end (c0 : Nat) (σ : St) : Option (St) := (if 10 ≤ (vI σ c0 0) then some σ else (if ok (vI σ c0 0) 10 = true then (st (sJ σ (c0 + 4) (upd (vJ σ (c0 + 4)) (nx (vI σ c0 0)) (vI σ c0 6))) fun s3 => (st (sI s3 c0 0 ((vI s3 c0 0) + 1)) fun s5 => some s5)) else none))
set_option maxHeartbeats 400000 in
set_option maxRecDepth 20000 in
theorem c_R_end (g : GX) (c0 : Nat) (hc0 : tg BX c0 1) (σ : St) (q : St) (h : f_R_end c0 σ = some q) (l : Launch) : CT BX l y_R_end (v_R_end :: lwG) 1 [.ref (g.2.1 c0)] g σ (QV BX g q) := by
  refine mkC (cc := b_R_end) (maxL := 1) (ret := none) rfl (by decide) rfl (Nat.le_of_ble_eq_true rfl) ?_
  intro p e s m args below meth c A ls C hl hw
  obtain ⟨hx, hb, hr, hml, hown, hts, hK, hE, hA, hlk⟩ := id C
  replace hl : lv_has ls 1 [(0, .ref (g.2.1 c0))] := hl
  obtain ⟨H, hH⟩ : ∃ z, z = s.heap := ⟨_, rfl⟩
  rw [← hH] at hw ⊢
  obtain ⟨locs, hlo⟩ : ∃ z : List Loc, z = [] := ⟨_, rfl⟩
  rw [← hlo] at hw ⊢
  unfold f_R_end at h
  refine lv_aload_n hx hb d_R_end_0 rfl (lv_at hl 0 rfl) ?_
  refine fg_R_9 C hw hc0 d_R_end_1 ?_
  refine lv_bipush (v := 10) hx hb d_R_end_4 (by decide) ?_
  refine lv_icmp_ge (tgt := 32) hx hb d_R_end_6 (by decide) (fun b1 => ?_) (fun b1 => ?_)
  · replace h := ifp b1 h
    exact retV C hw rfl (Option.some.inj h) d_R_end_32
  · replace h := ifn b1 h
    refine lv_aload_n hx hb d_R_end_9 rfl (lv_at hl 0 rfl) ?_
    refine fg_R_25 C hw hc0 d_R_end_10 ?_
    refine lv_aload_n hx hb d_R_end_13 rfl (lv_at hl 0 rfl) ?_
    refine fg_R_9 C hw hc0 d_R_end_14 ?_
    refine lv_aload_n hx hb d_R_end_17 rfl (lv_at hl 0 rfl) ?_
    refine fg_R_31 C hw hc0 d_R_end_18 ?_
    refine gde h (fun g2 h => ?_)
    refine ste h (fun s3 e7 h => ?_)
    refine stI (n := 10) C hw (tR_4 hc0) (by decide) g2 d_R_end_21 (fun H locs hw => ?_)
    replace hw := HWe hw e7
    refine lv_aload_n hx hb d_R_end_22 rfl (lv_at hl 0 rfl) ?_
    refine lv_dup hx hb d_R_end_23 rfl ?_
    refine fg_R_9 C hw hc0 d_R_end_24 ?_
    refine lv_iconst (v := 1) hx hb d_R_end_27 (by decide) ?_
    refine lv_iadd hx hb d_R_end_28 ?_
    refine ste h (fun s5 e6 h => ?_)
    refine fp_R_9 C hw hc0 d_R_end_29 (fun H locs hw => ?_)
    replace hw := HWe hw e6
    exact retV C hw rfl (Option.some.inj h) d_R_end_32
def f_K_hold (c0 : Nat) (c1 : Nat) (σ : St) : Option (St) := (st (sH σ c0 c1) fun s2 => (st (sI s2 c0 11 (vI s2 c1 7)) fun s4 => (st (sI s4 c0 12 (vI s4 c1 8)) fun s6 => some s6)))
set_option maxHeartbeats 400000 in
set_option maxRecDepth 20000 in
theorem c_K_hold (g : GX) (c0 : Nat) (hc0 : tg BX c0 4) (c1 : Nat) (hc1 : tg BX c1 1) (σ : St) (q : St) (h : f_K_hold c0 c1 σ = some q) (l : Launch) : CT BX l y_K_hold (v_K_hold :: lwG) 1 [.ref (g.2.1 c0), .ref (g.2.1 c1)] g σ (QV BX g q) := by
  refine mkC (cc := b_K_hold) (maxL := 2) (ret := none) rfl (by decide) rfl (Nat.le_of_ble_eq_true rfl) ?_
  intro p e s m args below meth c A ls C hl hw
  obtain ⟨hx, hb, hr, hml, hown, hts, hK, hE, hA, hlk⟩ := id C
  replace hl : lv_has ls 2 [(0, .ref (g.2.1 c0)), (1, .ref (g.2.1 c1))] := hl
  obtain ⟨H, hH⟩ : ∃ z, z = s.heap := ⟨_, rfl⟩
  rw [← hH] at hw ⊢
  obtain ⟨locs, hlo⟩ : ∃ z : List Loc, z = [] := ⟨_, rfl⟩
  rw [← hlo] at hw ⊢
  unfold f_K_hold at h
  refine lv_aload_n hx hb d_K_hold_0 rfl (lv_at hl 0 rfl) ?_
  refine lv_aload_n hx hb d_K_hold_1 rfl (lv_at hl 1 rfl) ?_
  refine ste h (fun s2 e9 h => ?_)
  refine fp_K_59 C hw hc0 d_K_hold_2 (fun H locs hw => ?_)
  replace hw := HWe hw e9
  refine lv_aload_n hx hb d_K_hold_5 rfl (lv_at hl 0 rfl) ?_
  refine lv_aload_n hx hb d_K_hold_6 rfl (lv_at hl 1 rfl) ?_
  refine fg_K_63 C hw hc1 d_K_hold_7 ?_
  refine ste h (fun s4 e8 h => ?_)
  refine fp_K_66 C hw hc0 d_K_hold_10 (fun H locs hw => ?_)
  replace hw := HWe hw e8
  refine lv_aload_n hx hb d_K_hold_13 rfl (lv_at hl 0 rfl) ?_
  refine lv_aload_n hx hb d_K_hold_14 rfl (lv_at hl 1 rfl) ?_
  refine fg_K_67 C hw hc1 d_K_hold_15 ?_
  refine ste h (fun s6 e7 h => ?_)
  refine fp_K_70 C hw hc0 d_K_hold_18 (fun H locs hw => ?_)
  replace hw := HWe hw e7
  exact retV C hw rfl (Option.some.inj h) d_K_hold_21
def f_X_sum_l4 : Nat → Nat → Int32 → Int32 → Int32 → St → Option (Int32)
  | 0, _, _, _, _, _ => none
  | n + 1, c0, x1, x2, x3, σ => (if x1 ≤ x3 then some x2 else (if 6 ≤ x3 then some x2 else (if ok x3 6 = true then (f_X_sum_l4 n c0 x1 (x2 + (vJ σ c0 (nx x3))) (x3 + 1) σ) else none)))
def f_X_sum (c0 : Nat) (p1 : Int32) (σ : St) : Option (Int32) := ((f_X_sum_l4 FU c0 p1 0 0 σ).bind fun x_5 => some x_5)
set_option maxHeartbeats 400000 in
set_option maxRecDepth 20000 in
theorem c_X_sum (g : GX) (c0 : Nat) (hc0 : tg BX c0 106) (p1 : Int32) (σ : St) (q : Int32) (h : f_X_sum c0 p1 σ = some q) (l : Launch) : CT BX l y_X_sum (v_X_sum :: lwG) 1 [.ref (g.2.1 c0), .int p1] g σ (QI BX g (q, σ)) := by
  refine mkC (cc := b_X_sum) (maxL := 4) (ret := (some .int)) rfl (by decide) rfl (Nat.le_of_ble_eq_true rfl) ?_
  intro p e s m args below meth c A ls C hl hw
  obtain ⟨hx, hb, hr, hml, hown, hts, hK, hE, hA, hlk⟩ := id C
  replace hl : lv_has ls 4 [(0, .ref (g.2.1 c0)), (1, .int p1)] := hl
  obtain ⟨H, hH⟩ : ∃ z, z = s.heap := ⟨_, rfl⟩
  rw [← hH] at hw ⊢
  obtain ⟨locs, hlo⟩ : ∃ z : List Loc, z = [] := ⟨_, rfl⟩
  rw [← hlo] at hw ⊢
  unfold f_X_sum at h
  refine lv_iconst (v := 0) hx hb d_X_sum_0 (by decide) ?_
  refine lv_istore_n (lv' := [(2, .int 0), (0, .ref (g.2.1 c0)), (1, .int p1)]) hx hb d_X_sum_1 rfl hl (by decide) rfl (fun ls hl => ?_)
  refine lv_iconst (v := 0) hx hb d_X_sum_2 (by decide) ?_
  refine lv_istore_n (lv' := [(3, .int 0), (2, .int 0), (0, .ref (g.2.1 c0)), (1, .int p1)]) hx hb d_X_sum_3 rfl hl (by decide) rfl (fun ls hl => ?_)
  have L1 : ∀ (c0 : Nat) (hc0 : tg BX c0 106) (x1 : Int32) (n : Nat) (x2 : Int32) (x3 : Int32) (σ : St) (H : Heap) (locs : List Loc) (ls : Array Slot), HW BX g A s σ H locs → lv_has ls 4 [(0, .ref (g.2.1 c0)), (1, .int x1), (2, .int x2), (3, .int x3)] → ∀ (ex : Int32), f_X_sum_l4 n c0 x1 x2 x3 σ = some ex → (∀ (y : Int32), ex = y → ∀ (H : Heap) (locs : List Loc) (ls : Array Slot), HW BX g A s σ H locs → lv_has ls 4 [(2, .int y)] → W p l e (rmL 1) s m args below meth c H locs 0 0 (MQ below (QI BX g (q, σ) A) args s 0 0 A) (F0 m 27 ls [])) → (True) → W p l e (rmL 1) s m args below meth c H locs 0 0 (MQ below (QI BX g (q, σ) A) args s 0 0 A) (F0 m 4 ls []) := by
    intro c0 hc0 x1 n
    induction n with
    | zero =>
      intro x2 x3 σ H locs ls hw hl ex h kx1 kr1
      cases h
    | succ n ih =>
      intro x2 x3 σ H locs ls hw hl ex h kx1 kr1
      rw [f_X_sum_l4] at h
      refine lv_iload_n hx hb d_X_sum_4 rfl (lv_at hl 3 rfl) ?_
      refine lv_iload_n hx hb d_X_sum_5 rfl (lv_at hl 1 rfl) ?_
      refine lv_icmp_ge (tgt := 27) hx hb d_X_sum_6 (by decide) (fun b2 => ?_) (fun b2 => ?_)
      · replace h := ifp b2 h
        exact kx1 _ (Option.some.inj h).symm H locs ls hw (lv_sub hl [2] rfl)
      · replace h := ifn b2 h
        refine lv_iload_n hx hb d_X_sum_9 rfl (lv_at hl 3 rfl) ?_
        refine lv_aload_n hx hb d_X_sum_10 rfl (lv_at hl 0 rfl) ?_
        refine lnI (n := 6) (v := 6) C hw hc0 (by decide) (by decide) d_X_sum_11 ?_
        refine lv_icmp_ge (tgt := 27) hx hb d_X_sum_12 (by decide) (fun b3 => ?_) (fun b3 => ?_)
        · replace h := ifp b3 h
          exact kx1 _ (Option.some.inj h).symm H locs ls hw (lv_sub hl [2] rfl)
        · replace h := ifn b3 h
          refine lv_iload_n hx hb d_X_sum_15 rfl (lv_at hl 2 rfl) ?_
          refine lv_aload_n hx hb d_X_sum_16 rfl (lv_at hl 0 rfl) ?_
          refine lv_iload_n hx hb d_X_sum_17 rfl (lv_at hl 3 rfl) ?_
          refine gde h (fun g4 h => ?_)
          refine ldI (n := 6) C hw hc0 (by decide) g4 d_X_sum_18 ?_
          refine lv_iadd hx hb d_X_sum_19 ?_
          refine lv_istore_n (lv' := [(2, .int (x2 + (vJ σ c0 (nx x3)))), (0, .ref (g.2.1 c0)), (1, .int x1), (3, .int x3)]) hx hb d_X_sum_20 rfl hl (by decide) rfl (fun ls hl => ?_)
          refine lv_iinc (v := (x3 + 1)) (lv' := [(3, .int (x3 + 1)), (2, .int (x2 + (vJ σ c0 (nx x3)))), (0, .ref (g.2.1 c0)), (1, .int x1)]) hx hb d_X_sum_21 hl (k := 3) rfl rfl (by decide) rfl (fun ls hl => ?_)
          refine lv_goto (tgt := 4) hx hb d_X_sum_24 (by decide) ?_
          exact ih (x2 + (vJ σ c0 (nx x3))) (x3 + 1) σ H locs ls hw (lv_sub hl [2, 3, 1, 0] rfl) ex h kx1 kr1
  refine bnd h (fun x_5 k6 h => ?_)
  refine L1 c0 hc0 p1 FU 0 0 σ H locs ls hw (lv_sub hl [2, 3, 1, 0] rfl) x_5 k6 (fun y8 e9 H locs ls hw hl => ?_) trivial
  subst e9
  refine lv_iload_n hx hb d_X_sum_27 rfl (lv_at hl 0 rfl) ?_
  exact retI C hw rfl (congrArg (fun z => (z, σ)) (Option.some.inj h)) d_X_sum_28
def f_K_fetchesFirst (c0 : Nat) (p1 : Int32) (p2 : Int32) (σ : St) : Option (Bool) := (if ok p1 6 = true then (if (vJ σ (c0 + 1) (nx p1)) = 3 then (if (p2 + (vI σ c0 11)) ≤ (vI σ c0 8) then some false else some true) else (if (vJ σ (c0 + 1) (nx p1)) = 6 then (if ok ((p1 * 4) + ((vI σ c0 9) % 4)) 24 = true then (if (10 * (vJ σ (c0 + 7) (nx ((p1 * 4) + ((vI σ c0 9) % 4))))) ≤ (vI σ c0 8) then some false else some true) else none) else some false)) else none)
set_option maxHeartbeats 400000 in
set_option maxRecDepth 20000 in
theorem c_K_fetchesFirst (g : GX) (c0 : Nat) (hc0 : tg BX c0 4) (p1 : Int32) (p2 : Int32) (σ : St) (q : Bool) (h : f_K_fetchesFirst c0 p1 p2 σ = some q) (l : Launch) : CT BX l y_K_fetchesFirst (v_K_fetchesFirst :: lwG) 1 [.ref (g.2.1 c0), .int p1, .int p2] g σ (QZ BX g (q, σ)) := by
  refine mkC (cc := b_K_fetchesFirst) (maxL := 3) (ret := (some .boolean)) rfl (by decide) rfl (Nat.le_of_ble_eq_true rfl) ?_
  intro p e s m args below meth c A ls C hl hw
  obtain ⟨hx, hb, hr, hml, hown, hts, hK, hE, hA, hlk⟩ := id C
  replace hl : lv_has ls 3 [(0, .ref (g.2.1 c0)), (1, .int p1), (2, .int p2)] := hl
  obtain ⟨H, hH⟩ : ∃ z, z = s.heap := ⟨_, rfl⟩
  rw [← hH] at hw ⊢
  obtain ⟨locs, hlo⟩ : ∃ z : List Loc, z = [] := ⟨_, rfl⟩
  rw [← hlo] at hw ⊢
  unfold f_K_fetchesFirst at h
  refine lv_aload_n hx hb d_K_fetchesFirst_0 rfl (lv_at hl 0 rfl) ?_
  refine fg_K_15 C hw hc0 d_K_fetchesFirst_1 ?_
  refine lv_iload_n hx hb d_K_fetchesFirst_4 rfl (lv_at hl 1 rfl) ?_
  refine gde h (fun g1 h => ?_)
  refine ldI (n := 6) C hw (tK_1 hc0) (by decide) g1 d_K_fetchesFirst_5 ?_
  by_cases b2 : (vJ σ (c0 + 1) (nx p1)) = 3
  · replace h := ifp b2 h
    refine lv_lookup (off := 26) (tgt := 32) hx hb d_K_fetchesFirst_6 (by decide) (by rw [b2]; decide) (by decide) ?_
    refine lv_aload_n hx hb d_K_fetchesFirst_32 rfl (lv_at hl 0 rfl) ?_
    refine fg_K_37 C hw hc0 d_K_fetchesFirst_33 ?_
    refine lv_iload_n hx hb d_K_fetchesFirst_36 rfl (lv_at hl 2 rfl) ?_
    refine lv_aload_n hx hb d_K_fetchesFirst_37 rfl (lv_at hl 0 rfl) ?_
    refine fg_K_66 C hw hc0 d_K_fetchesFirst_38 ?_
    refine lv_iadd hx hb d_K_fetchesFirst_41 ?_
    refine lv_icmp_ge (tgt := 49) hx hb d_K_fetchesFirst_42 (by decide) (fun b3 => ?_) (fun b3 => ?_)
    · replace h := ifp b3 h
      refine lv_iconst (v := 0) hx hb d_K_fetchesFirst_49 (by decide) ?_
      exact retZ (b := false) C hw rfl rfl (congrArg (fun z => (z, σ)) (Option.some.inj h)) d_K_fetchesFirst_50
    · replace h := ifn b3 h
      refine lv_iconst (v := 1) hx hb d_K_fetchesFirst_45 (by decide) ?_
      refine lv_goto (tgt := 50) hx hb d_K_fetchesFirst_46 (by decide) ?_
      exact retZ (b := true) C hw rfl rfl (congrArg (fun z => (z, σ)) (Option.some.inj h)) d_K_fetchesFirst_50
  · replace h := ifn b2 h
    by_cases b4 : (vJ σ (c0 + 1) (nx p1)) = 6
    · replace h := ifp b4 h
      refine lv_lookup (off := 45) (tgt := 51) hx hb d_K_fetchesFirst_6 (by decide) (by rw [b4]; decide) (by decide) ?_
      refine lv_aload_n hx hb d_K_fetchesFirst_51 rfl (lv_at hl 0 rfl) ?_
      refine fg_K_37 C hw hc0 d_K_fetchesFirst_52 ?_
      refine lv_bipush (v := 10) hx hb d_K_fetchesFirst_55 (by decide) ?_
      refine lv_aload_n hx hb d_K_fetchesFirst_57 rfl (lv_at hl 0 rfl) ?_
      refine fg_K_34 C hw hc0 d_K_fetchesFirst_58 ?_
      refine lv_iload_n hx hb d_K_fetchesFirst_61 rfl (lv_at hl 1 rfl) ?_
      refine lv_iconst (v := 4) hx hb d_K_fetchesFirst_62 (by decide) ?_
      refine lv_imul hx hb d_K_fetchesFirst_63 ?_
      refine lv_aload_n hx hb d_K_fetchesFirst_64 rfl (lv_at hl 0 rfl) ?_
      refine fg_K_40 C hw hc0 d_K_fetchesFirst_65 ?_
      refine lv_iconst (v := 4) hx hb d_K_fetchesFirst_68 (by decide) ?_
      refine remR C (by decide) d_K_fetchesFirst_69 ?_
      refine lv_iadd hx hb d_K_fetchesFirst_70 ?_
      refine gde h (fun g5 h => ?_)
      refine ldI (n := 24) C hw (tK_7 hc0) (by decide) g5 d_K_fetchesFirst_71 ?_
      refine lv_imul hx hb d_K_fetchesFirst_72 ?_
      refine lv_icmp_ge (tgt := 80) hx hb d_K_fetchesFirst_73 (by decide) (fun b6 => ?_) (fun b6 => ?_)
      · replace h := ifp b6 h
        refine lv_iconst (v := 0) hx hb d_K_fetchesFirst_80 (by decide) ?_
        exact retZ (b := false) C hw rfl rfl (congrArg (fun z => (z, σ)) (Option.some.inj h)) d_K_fetchesFirst_81
      · replace h := ifn b6 h
        refine lv_iconst (v := 1) hx hb d_K_fetchesFirst_76 (by decide) ?_
        refine lv_goto (tgt := 81) hx hb d_K_fetchesFirst_77 (by decide) ?_
        exact retZ (b := true) C hw rfl rfl (congrArg (fun z => (z, σ)) (Option.some.inj h)) d_K_fetchesFirst_81
    · replace h := ifn b4 h
      refine lv_lookup (off := 76) (tgt := 82) hx hb d_K_fetchesFirst_6 (by decide) ((lv_osw b2 (by decide)).trans ((lv_osw b4 (by decide)).trans (rfl))) (by decide) ?_
      refine lv_iconst (v := 0) hx hb d_K_fetchesFirst_82 (by decide) ?_
      exact retZ (b := false) C hw rfl rfl (congrArg (fun z => (z, σ)) (Option.some.inj h)) d_K_fetchesFirst_83
def f_K_fetch (c0 : Nat) (p1 : Int32) (σ : St) : Option (St) := (if ok p1 6 = true then ((f_K_pay c0 p1 σ).bind fun q2 => (if ok p1 6 = true then (st (sJ q2.2 (c0 + 6) (upd (vJ q2.2 (c0 + 6)) (nx p1) ((vJ σ (c0 + 6) (nx p1)) + q2.1))) fun s5 => (st (sI s5 c0 8 (vI s5 c0 12)) fun s7 => (if ok p1 6 = true then (if ok p1 6 = true then (st (sJ s7 (c0 + 5) (upd (vJ s7 (c0 + 5)) (nx p1) ((vJ s7 (c0 + 5) (nx p1)) + 1))) fun s10 => some s10) else none) else none))) else none)) else none)
set_option maxHeartbeats 400000 in
set_option maxRecDepth 20000 in
theorem c_K_fetch (g : GX) (c0 : Nat) (hc0 : tg BX c0 4) (p1 : Int32) (σ : St) (q : St) (h : f_K_fetch c0 p1 σ = some q) (l : Launch) : CT BX l y_K_fetch (v_K_fetch :: lwG) 5 [.ref (g.2.1 c0), .int p1] g σ (QV BX g q) := by
  refine mkC (cc := b_K_fetch) (maxL := 2) (ret := none) rfl (by decide) rfl (Nat.le_of_ble_eq_true rfl) ?_
  intro p e s m args below meth c A ls C hl hw
  obtain ⟨hx, hb, hr, hml, hown, hts, hK, hE, hA, hlk⟩ := id C
  replace hl : lv_has ls 2 [(0, .ref (g.2.1 c0)), (1, .int p1)] := hl
  obtain ⟨H, hH⟩ : ∃ z, z = s.heap := ⟨_, rfl⟩
  rw [← hH] at hw ⊢
  obtain ⟨locs, hlo⟩ : ∃ z : List Loc, z = [] := ⟨_, rfl⟩
  rw [← hlo] at hw ⊢
  unfold f_K_fetch at h
  refine lv_aload_n hx hb d_K_fetch_0 rfl (lv_at hl 0 rfl) ?_
  refine fg_K_31 C hw hc0 d_K_fetch_1 ?_
  refine lv_iload_n hx hb d_K_fetch_4 rfl (lv_at hl 1 rfl) ?_
  refine lv_dup2_11 hx hb d_K_fetch_5 rfl rfl ?_
  refine gde h (fun g1 h => ?_)
  refine ldI (n := 6) C hw (tK_6 hc0) (by decide) g1 d_K_fetch_6 ?_
  refine lv_aload_n hx hb d_K_fetch_7 rfl (lv_at hl 0 rfl) ?_
  refine lv_iload_n hx hb d_K_fetch_8 rfl (lv_at hl 1 rfl) ?_
  refine bnd h (fun q2 k3 h => ?_)
  refine clI C hw (invV (As := [.int p1]) C hw (c_K_pay g c0 hc0 p1 σ q2 k3 l) rfl wc_K_101 nd_K_pay ⟨by decide, by decide⟩ (rc_K C hw hc0) rfl hl.1 rfl (Nat.le_of_ble_eq_true rfl) d_K_fetch_9 ⟨Nat.le_refl _, Nat.le_refl _⟩) (fun H locs hw => ?_)
  refine lv_iadd hx hb d_K_fetch_12 ?_
  refine gde h (fun g4 h => ?_)
  refine ste h (fun s5 e13 h => ?_)
  refine stI (n := 6) C hw (tK_6 hc0) (by decide) g4 d_K_fetch_13 (fun H locs hw => ?_)
  replace hw := HWe hw e13
  refine lv_aload_n hx hb d_K_fetch_14 rfl (lv_at hl 0 rfl) ?_
  refine lv_aload_n hx hb d_K_fetch_15 rfl (lv_at hl 0 rfl) ?_
  refine fg_K_70 C hw hc0 d_K_fetch_16 ?_
  refine ste h (fun s7 e12 h => ?_)
  refine fp_K_37 C hw hc0 d_K_fetch_19 (fun H locs hw => ?_)
  replace hw := HWe hw e12
  refine lv_aload_n hx hb d_K_fetch_22 rfl (lv_at hl 0 rfl) ?_
  refine fg_K_28 C hw hc0 d_K_fetch_23 ?_
  refine lv_iload_n hx hb d_K_fetch_26 rfl (lv_at hl 1 rfl) ?_
  refine lv_dup2_11 hx hb d_K_fetch_27 rfl rfl ?_
  refine gde h (fun g8 h => ?_)
  refine ldI (n := 6) C hw (tK_5 hc0) (by decide) g8 d_K_fetch_28 ?_
  refine lv_iconst (v := 1) hx hb d_K_fetch_29 (by decide) ?_
  refine lv_iadd hx hb d_K_fetch_30 ?_
  refine gde h (fun g9 h => ?_)
  refine ste h (fun s10 e11 h => ?_)
  refine stI (n := 6) C hw (tK_5 hc0) (by decide) g9 d_K_fetch_31 (fun H locs hw => ?_)
  replace hw := HWe hw e11
  exact retV C hw rfl (Option.some.inj h) d_K_fetch_32
def f_K_downToLeast (c0 : Nat) (p1 : Int32) (σ : St) : Int32 := (mnI p1 (mxI ((vI σ c0 8) - (vI σ c0 11)) 0))
set_option maxHeartbeats 400000 in
set_option maxRecDepth 20000 in
theorem c_K_downToLeast (g : GX) (c0 : Nat) (hc0 : tg BX c0 4) (p1 : Int32) (σ : St) (l : Launch) : CT BX l y_K_downToLeast (v_K_downToLeast :: lwG) 1 [.ref (g.2.1 c0), .int p1] g σ (QI BX g (f_K_downToLeast c0 p1 σ, σ)) := by
  generalize h : f_K_downToLeast c0 p1 σ = q
  refine mkC (cc := b_K_downToLeast) (maxL := 2) (ret := (some .int)) rfl (by decide) rfl (Nat.le_of_ble_eq_true rfl) ?_
  intro p e s m args below meth c A ls C hl hw
  obtain ⟨hx, hb, hr, hml, hown, hts, hK, hE, hA, hlk⟩ := id C
  replace hl : lv_has ls 2 [(0, .ref (g.2.1 c0)), (1, .int p1)] := hl
  obtain ⟨H, hH⟩ : ∃ z, z = s.heap := ⟨_, rfl⟩
  rw [← hH] at hw ⊢
  obtain ⟨locs, hlo⟩ : ∃ z : List Loc, z = [] := ⟨_, rfl⟩
  rw [← hlo] at hw ⊢
  unfold f_K_downToLeast at h
  refine lv_iload_n hx hb d_K_downToLeast_0 rfl (lv_at hl 1 rfl) ?_
  refine lv_aload_n hx hb d_K_downToLeast_1 rfl (lv_at hl 0 rfl) ?_
  refine fg_K_37 C hw hc0 d_K_downToLeast_2 ?_
  refine lv_aload_n hx hb d_K_downToLeast_5 rfl (lv_at hl 0 rfl) ?_
  refine fg_K_66 C hw hc0 d_K_downToLeast_6 ?_
  refine lv_isub hx hb d_K_downToLeast_9 ?_
  refine lv_iconst (v := 0) hx hb d_K_downToLeast_10 (by decide) ?_
  refine maxR C wc_K_112 hl.1 (Nat.le_of_ble_eq_true rfl) (Nat.le_of_ble_eq_true rfl) ⟨Nat.le_refl _, Nat.le_refl _⟩ d_K_downToLeast_11 ?_
  refine minR C wc_K_104 hl.1 (Nat.le_of_ble_eq_true rfl) (Nat.le_of_ble_eq_true rfl) ⟨Nat.le_refl _, Nat.le_refl _⟩ d_K_downToLeast_14 ?_
  exact retI C hw rfl (congrArg (fun z => (z, σ)) h) d_K_downToLeast_17
def f_K_amount (c0 : Nat) (p1 : Int32) (p2 : Int32) (σ : St) : Option (Int32) := (if ok p1 6 = true then (if (vJ σ (c0 + 1) (nx p1)) = 1 then some (mnI ((vI σ c0 8) / 2) p2) else (if (vJ σ (c0 + 1) (nx p1)) = 2 then (((if (2 * p2) ≤ (vI σ c0 8) then some p2 else some (p2 / 2)) : Option (Int32)).bind fun q4 => some (f_K_downToLeast c0 q4 σ)) else (if (vJ σ (c0 + 1) (nx p1)) = 3 then some (f_K_downToLeast c0 p2 σ) else (if (vJ σ (c0 + 1) (nx p1)) = 4 then some (mnI ((vI σ c0 8) / 2) (2 * p2)) else (if (vJ σ (c0 + 1) (nx p1)) = 5 then some (mnI p2 (vI σ c0 8)) else some (f_K_downToLeast c0 p2 σ)))))) else none)
set_option maxHeartbeats 400000 in
set_option maxRecDepth 20000 in
theorem c_K_amount (g : GX) (c0 : Nat) (hc0 : tg BX c0 4) (p1 : Int32) (p2 : Int32) (σ : St) (q : Int32) (h : f_K_amount c0 p1 p2 σ = some q) (l : Launch) : CT BX l y_K_amount (v_K_amount :: lwG) 2 [.ref (g.2.1 c0), .int p1, .int p2] g σ (QI BX g (q, σ)) := by
  refine mkC (cc := b_K_amount) (maxL := 3) (ret := (some .int)) rfl (by decide) rfl (Nat.le_of_ble_eq_true rfl) ?_
  intro p e s m args below meth c A ls C hl hw
  obtain ⟨hx, hb, hr, hml, hown, hts, hK, hE, hA, hlk⟩ := id C
  replace hl : lv_has ls 3 [(0, .ref (g.2.1 c0)), (1, .int p1), (2, .int p2)] := hl
  obtain ⟨H, hH⟩ : ∃ z, z = s.heap := ⟨_, rfl⟩
  rw [← hH] at hw ⊢
  obtain ⟨locs, hlo⟩ : ∃ z : List Loc, z = [] := ⟨_, rfl⟩
  rw [← hlo] at hw ⊢
  unfold f_K_amount at h
  refine lv_aload_n hx hb d_K_amount_0 rfl (lv_at hl 0 rfl) ?_
  refine fg_K_15 C hw hc0 d_K_amount_1 ?_
  refine lv_iload_n hx hb d_K_amount_4 rfl (lv_at hl 1 rfl) ?_
  refine gde h (fun g1 h => ?_)
  refine ldI (n := 6) C hw (tK_1 hc0) (by decide) g1 d_K_amount_5 ?_
  by_cases b2 : (vJ σ (c0 + 1) (nx p1)) = 1
  · replace h := ifp b2 h
    refine swIn (k := 1) (tgt := 40) C b2 d_K_amount_6 (by decide) rfl (by decide) ?_
    refine lv_aload_n hx hb d_K_amount_40 rfl (lv_at hl 0 rfl) ?_
    refine fg_K_37 C hw hc0 d_K_amount_41 ?_
    refine lv_iconst (v := 2) hx hb d_K_amount_44 (by decide) ?_
    refine lv_idiv hx hb d_K_amount_45 (by decide) ?_
    refine lv_iload_n hx hb d_K_amount_46 rfl (lv_at hl 2 rfl) ?_
    refine minR C wc_K_104 hl.1 (Nat.le_of_ble_eq_true rfl) (Nat.le_of_ble_eq_true rfl) ⟨Nat.le_refl _, Nat.le_refl _⟩ d_K_amount_47 ?_
    exact retI C hw rfl (congrArg (fun z => (z, σ)) (Option.some.inj h)) d_K_amount_50
  · replace h := ifn b2 h
    by_cases b3 : (vJ σ (c0 + 1) (nx p1)) = 2
    · replace h := ifp b3 h
      refine swIn (k := 2) (tgt := 73) C b3 d_K_amount_6 (by decide) rfl (by decide) ?_
      refine lv_aload_n hx hb d_K_amount_73 rfl (lv_at hl 0 rfl) ?_
      refine lv_aload_n hx hb d_K_amount_74 rfl (lv_at hl 0 rfl) ?_
      refine fg_K_37 C hw hc0 d_K_amount_75 ?_
      refine lv_iconst (v := 2) hx hb d_K_amount_78 (by decide) ?_
      refine lv_iload_n hx hb d_K_amount_79 rfl (lv_at hl 2 rfl) ?_
      refine lv_imul hx hb d_K_amount_80 ?_
      refine bnd h (fun q4 h5 h => ?_)
      have J6 : ∀ (H : Heap) (locs : List Loc) (ls : Array Slot), HW BX g A s σ H locs → lv_has ls 3 [] → W p l e (rmL 2) s m args below meth c H locs 0 0 (MQ below (QI BX g (q, σ) A) args s 0 0 A) (F0 m 91 ls [.int q4, .ref (g.2.1 c0)]) := by
        intro H locs ls hw hl
        refine clI0 (v := (f_K_downToLeast c0 q4 σ)) C hw (invV (As := [.int q4]) C hw (c_K_downToLeast g c0 hc0 q4 σ l) rfl wc_K_109 nd_K_downToLeast ⟨by decide, by decide⟩ (rc_K C hw hc0) rfl hl.1 rfl (Nat.le_of_ble_eq_true rfl) d_K_amount_91 ⟨Nat.le_refl _, Nat.le_refl _⟩) (fun H locs hw => ?_)
        exact retI C hw rfl (congrArg (fun z => (z, σ)) (Option.some.inj h)) d_K_amount_94
      refine lv_icmp_ge (tgt := 90) hx hb d_K_amount_81 (by decide) (fun b7 => ?_) (fun b7 => ?_)
      · replace h5 := ifp b7 h5
        refine lv_iload_n hx hb d_K_amount_90 rfl (lv_at hl 2 rfl) ?_
        have e8 := Option.some.inj h5
        subst e8
        exact J6 H locs ls hw (lv_sub hl [] rfl)
      · replace h5 := ifn b7 h5
        refine lv_iload_n hx hb d_K_amount_84 rfl (lv_at hl 2 rfl) ?_
        refine lv_iconst (v := 2) hx hb d_K_amount_85 (by decide) ?_
        refine lv_idiv hx hb d_K_amount_86 (by decide) ?_
        refine lv_goto (tgt := 91) hx hb d_K_amount_87 (by decide) ?_
        have e9 := Option.some.inj h5
        subst e9
        exact J6 H locs ls hw (lv_sub hl [] rfl)
    · replace h := ifn b3 h
      by_cases b10 : (vJ σ (c0 + 1) (nx p1)) = 3
      · replace h := ifp b10 h
        refine swIn (k := 3) (tgt := 95) C b10 d_K_amount_6 (by decide) rfl (by decide) ?_
        refine lv_aload_n hx hb d_K_amount_95 rfl (lv_at hl 0 rfl) ?_
        refine lv_iload_n hx hb d_K_amount_96 rfl (lv_at hl 2 rfl) ?_
        refine clI0 (v := (f_K_downToLeast c0 p2 σ)) C hw (invV (As := [.int p2]) C hw (c_K_downToLeast g c0 hc0 p2 σ l) rfl wc_K_109 nd_K_downToLeast ⟨by decide, by decide⟩ (rc_K C hw hc0) rfl hl.1 rfl (Nat.le_of_ble_eq_true rfl) d_K_amount_97 ⟨Nat.le_refl _, Nat.le_refl _⟩) (fun H locs hw => ?_)
        exact retI C hw rfl (congrArg (fun z => (z, σ)) (Option.some.inj h)) d_K_amount_100
      · replace h := ifn b10 h
        by_cases b11 : (vJ σ (c0 + 1) (nx p1)) = 4
        · replace h := ifp b11 h
          refine swIn (k := 4) (tgt := 51) C b11 d_K_amount_6 (by decide) rfl (by decide) ?_
          refine lv_aload_n hx hb d_K_amount_51 rfl (lv_at hl 0 rfl) ?_
          refine fg_K_37 C hw hc0 d_K_amount_52 ?_
          refine lv_iconst (v := 2) hx hb d_K_amount_55 (by decide) ?_
          refine lv_idiv hx hb d_K_amount_56 (by decide) ?_
          refine lv_iconst (v := 2) hx hb d_K_amount_57 (by decide) ?_
          refine lv_iload_n hx hb d_K_amount_58 rfl (lv_at hl 2 rfl) ?_
          refine lv_imul hx hb d_K_amount_59 ?_
          refine minR C wc_K_104 hl.1 (Nat.le_of_ble_eq_true rfl) (Nat.le_of_ble_eq_true rfl) ⟨Nat.le_refl _, Nat.le_refl _⟩ d_K_amount_60 ?_
          exact retI C hw rfl (congrArg (fun z => (z, σ)) (Option.some.inj h)) d_K_amount_63
        · replace h := ifn b11 h
          by_cases b12 : (vJ σ (c0 + 1) (nx p1)) = 5
          · replace h := ifp b12 h
            refine swIn (k := 5) (tgt := 64) C b12 d_K_amount_6 (by decide) rfl (by decide) ?_
            refine lv_iload_n hx hb d_K_amount_64 rfl (lv_at hl 2 rfl) ?_
            refine lv_aload_n hx hb d_K_amount_65 rfl (lv_at hl 0 rfl) ?_
            refine fg_K_37 C hw hc0 d_K_amount_66 ?_
            refine minR C wc_K_104 hl.1 (Nat.le_of_ble_eq_true rfl) (Nat.le_of_ble_eq_true rfl) ⟨Nat.le_refl _, Nat.le_refl _⟩ d_K_amount_69 ?_
            exact retI C hw rfl (congrArg (fun z => (z, σ)) (Option.some.inj h)) d_K_amount_72
          · replace h := ifn b12 h
            refine swOut (tgt := 95) C d_K_amount_6 (fun z9 l9 h9 e9 => ?_) (by decide) ?_
            · have e10 : z9 = 1 ∨ z9 = 2 ∨ z9 = 3 ∨ z9 = 4 ∨ z9 = 5 := by omega
              rcases e10 with e10 | e10 | e10 | e10 | e10
              · exact lv_neT b2 (by decide) (e9.trans e10)
              · exact lv_neT b3 (by decide) (e9.trans e10)
              · exact lv_neT b10 (by decide) (e9.trans e10)
              · exact lv_neT b11 (by decide) (e9.trans e10)
              · exact lv_neT b12 (by decide) (e9.trans e10)
            · refine lv_aload_n hx hb d_K_amount_95 rfl (lv_at hl 0 rfl) ?_
              refine lv_iload_n hx hb d_K_amount_96 rfl (lv_at hl 2 rfl) ?_
              refine clI0 (v := (f_K_downToLeast c0 p2 σ)) C hw (invV (As := [.int p2]) C hw (c_K_downToLeast g c0 hc0 p2 σ l) rfl wc_K_109 nd_K_downToLeast ⟨by decide, by decide⟩ (rc_K C hw hc0) rfl hl.1 rfl (Nat.le_of_ble_eq_true rfl) d_K_amount_97 ⟨Nat.le_refl _, Nat.le_refl _⟩) (fun H locs hw => ?_)
              exact retI C hw rfl (congrArg (fun z => (z, σ)) (Option.some.inj h)) d_K_amount_100
def f_K_taking (c0 : Nat) (p1 : Int32) (σ : St) : Option (Int32 × St) := (if p1 < 0 then some (0, σ) else (if p1 < (vI σ c0 0) then ((f_K_wants c0 p1 σ).bind fun q3 => ((f_K_fetchesFirst c0 p1 q3.1 q3.2).bind fun q5 => (((if q5 = false then some q3.2 else ((f_K_fetch c0 p1 q3.2).bind fun q12 => some q12)) : Option (St)).bind fun q7 => ((f_K_amount c0 p1 q3.1 q7).bind fun q15 => (((if q15 < 1 then some q7 else (if ok p1 6 = true then (if ok p1 6 = true then (st (sJ q7 (c0 + 4) (upd (vJ q7 (c0 + 4)) (nx p1) ((vJ q7 (c0 + 4) (nx p1)) + 1))) fun s24 => some s24) else none) else none)) : Option (St)).bind fun q17 => (st (sI q17 c0 8 ((vI q17 c0 8) - q15)) fun s28 => (st (sI s28 c0 13 (vI s28 c0 8)) fun s30 => (if (vI s30 c0 11) ≤ (vI s30 c0 8) then some (q15, s30) else ((f_K_fetch c0 p1 s30).bind fun q32 => some (q15, q32)))))))))) else some (0, σ)))
set_option maxHeartbeats 400000 in
set_option maxRecDepth 20000 in
theorem c_K_taking (g : GX) (c0 : Nat) (hc0 : tg BX c0 4) (p1 : Int32) (σ : St) (q : Int32 × St) (h : f_K_taking c0 p1 σ = some q) (l : Launch) : CT BX l y_K_taking (v_K_taking :: lwG) 6 [.ref (g.2.1 c0), .int p1] g σ (QI BX g q) := by
  refine mkC (cc := b_K_taking) (maxL := 4) (ret := (some .int)) rfl (by decide) rfl (Nat.le_of_ble_eq_true rfl) ?_
  intro p e s m args below meth c A ls C hl hw
  obtain ⟨hx, hb, hr, hml, hown, hts, hK, hE, hA, hlk⟩ := id C
  replace hl : lv_has ls 4 [(0, .ref (g.2.1 c0)), (1, .int p1)] := hl
  obtain ⟨H, hH⟩ : ∃ z, z = s.heap := ⟨_, rfl⟩
  rw [← hH] at hw ⊢
  obtain ⟨locs, hlo⟩ : ∃ z : List Loc, z = [] := ⟨_, rfl⟩
  rw [← hlo] at hw ⊢
  unfold f_K_taking at h
  refine lv_iload_n hx hb d_K_taking_0 rfl (lv_at hl 1 rfl) ?_
  refine lv_if_lt (tgt := 12) hx hb d_K_taking_1 (by decide) (fun b1 => ?_) (fun b1 => ?_)
  · replace h := ifp b1 h
    refine lv_iconst (v := 0) hx hb d_K_taking_12 (by decide) ?_
    exact retI C hw rfl (Option.some.inj h) d_K_taking_13
  · replace h := ifn b1 h
    refine lv_iload_n hx hb d_K_taking_4 rfl (lv_at hl 1 rfl) ?_
    refine lv_aload_n hx hb d_K_taking_5 rfl (lv_at hl 0 rfl) ?_
    refine fg_K_9 C hw hc0 d_K_taking_6 ?_
    refine lv_icmp_lt (tgt := 14) hx hb d_K_taking_9 (by decide) (fun b2 => ?_) (fun b2 => ?_)
    · replace h := ifp b2 h
      refine lv_aload_n hx hb d_K_taking_14 rfl (lv_at hl 0 rfl) ?_
      refine lv_iload_n hx hb d_K_taking_15 rfl (lv_at hl 1 rfl) ?_
      refine bnd h (fun q3 k4 h => ?_)
      refine clI C hw (invV (As := [.int p1]) C hw (c_K_wants g c0 hc0 p1 σ q3 k4 l) rfl wc_K_85 nd_K_wants ⟨by decide, by decide⟩ (rc_K C hw hc0) rfl hl.1 rfl (Nat.le_of_ble_eq_true rfl) d_K_taking_16 ⟨Nat.le_refl _, Nat.le_refl _⟩) (fun H locs hw => ?_)
      refine lv_istore_n (lv' := [(2, .int q3.1), (0, .ref (g.2.1 c0)), (1, .int p1)]) hx hb d_K_taking_19 rfl hl (by decide) rfl (fun ls hl => ?_)
      refine lv_aload_n hx hb d_K_taking_20 rfl (lv_at hl 1 rfl) ?_
      refine lv_iload_n hx hb d_K_taking_21 rfl (lv_at hl 2 rfl) ?_
      refine lv_iload_n hx hb d_K_taking_22 rfl (lv_at hl 0 rfl) ?_
      refine bnd h (fun q5 k6 h => ?_)
      refine clZ0 (v := q5) C hw (invV (As := [.int p1, .int q3.1]) C hw (c_K_fetchesFirst g c0 hc0 p1 q3.1 q3.2 q5 k6 l) rfl wc_K_89 nd_K_fetchesFirst ⟨by decide, by decide⟩ (rc_K C hw hc0) rfl hl.1 rfl (Nat.le_of_ble_eq_true rfl) d_K_taking_23 ⟨Nat.le_refl _, Nat.le_refl _⟩) (fun H locs hw => ?_)
      refine bnd h (fun q7 h8 h => ?_)
      have J9 : ∀ (H : Heap) (locs : List Loc) (ls : Array Slot), HW BX g A s q7 H locs → lv_has ls 4 [(0, .ref (g.2.1 c0)), (1, .int p1), (2, .int q3.1)] → W p l e (rmL 6) s m args below meth c H locs 0 0 (MQ below (QI BX g q A) args s 0 0 A) (F0 m 34 ls []) := by
        intro H locs ls hw hl
        refine lv_aload_n hx hb d_K_taking_34 rfl (lv_at hl 0 rfl) ?_
        refine lv_iload_n hx hb d_K_taking_35 rfl (lv_at hl 1 rfl) ?_
        refine lv_iload_n hx hb d_K_taking_36 rfl (lv_at hl 2 rfl) ?_
        refine bnd h (fun q15 k16 h => ?_)
        refine clI0 (v := q15) C hw (invV (As := [.int p1, .int q3.1]) C hw (c_K_amount g c0 hc0 p1 q3.1 q7 q15 k16 l) rfl wc_K_97 nd_K_amount ⟨by decide, by decide⟩ (rc_K C hw hc0) rfl hl.1 rfl (Nat.le_of_ble_eq_true rfl) d_K_taking_37 ⟨Nat.le_refl _, Nat.le_refl _⟩) (fun H locs hw => ?_)
        refine lv_istore_n (lv' := [(3, .int q15), (0, .ref (g.2.1 c0)), (1, .int p1), (2, .int q3.1)]) hx hb d_K_taking_40 rfl hl (by decide) rfl (fun ls hl => ?_)
        refine lv_iload_n hx hb d_K_taking_41 rfl (lv_at hl 0 rfl) ?_
        refine lv_iconst (v := 1) hx hb d_K_taking_42 (by decide) ?_
        refine bnd h (fun q17 h18 h => ?_)
        have J19 : ∀ (H : Heap) (locs : List Loc) (ls : Array Slot), HW BX g A s q17 H locs → lv_has ls 4 [(0, .ref (g.2.1 c0)), (1, .int p1), (3, .int q15)] → W p l e (rmL 6) s m args below meth c H locs 0 0 (MQ below (QI BX g q A) args s 0 0 A) (F0 m 56 ls []) := by
          intro H locs ls hw hl
          refine lv_aload_n hx hb d_K_taking_56 rfl (lv_at hl 0 rfl) ?_
          refine lv_dup hx hb d_K_taking_57 rfl ?_
          refine fg_K_37 C hw hc0 d_K_taking_58 ?_
          refine lv_iload_n hx hb d_K_taking_61 rfl (lv_at hl 2 rfl) ?_
          refine lv_isub hx hb d_K_taking_62 ?_
          refine ste h (fun s28 e35 h => ?_)
          refine fp_K_37 C hw hc0 d_K_taking_63 (fun H locs hw => ?_)
          replace hw := HWe hw e35
          refine lv_aload_n hx hb d_K_taking_66 rfl (lv_at hl 0 rfl) ?_
          refine lv_aload_n hx hb d_K_taking_67 rfl (lv_at hl 0 rfl) ?_
          refine fg_K_37 C hw hc0 d_K_taking_68 ?_
          refine ste h (fun s30 e34 h => ?_)
          refine fp_K_43 C hw hc0 d_K_taking_71 (fun H locs hw => ?_)
          replace hw := HWe hw e34
          refine lv_aload_n hx hb d_K_taking_74 rfl (lv_at hl 0 rfl) ?_
          refine fg_K_37 C hw hc0 d_K_taking_75 ?_
          refine lv_aload_n hx hb d_K_taking_78 rfl (lv_at hl 0 rfl) ?_
          refine fg_K_66 C hw hc0 d_K_taking_79 ?_
          refine lv_icmp_ge (tgt := 90) hx hb d_K_taking_82 (by decide) (fun b31 => ?_) (fun b31 => ?_)
          · replace h := ifp b31 h
            refine lv_iload_n hx hb d_K_taking_90 rfl (lv_at hl 2 rfl) ?_
            exact retI C hw rfl (Option.some.inj h) d_K_taking_91
          · replace h := ifn b31 h
            refine lv_aload_n hx hb d_K_taking_85 rfl (lv_at hl 0 rfl) ?_
            refine lv_iload_n hx hb d_K_taking_86 rfl (lv_at hl 1 rfl) ?_
            refine bnd h (fun q32 k33 h => ?_)
            refine clV C hw (invV (As := [.int p1]) C hw (c_K_fetch g c0 hc0 p1 s30 q32 k33 l) rfl wc_K_93 nd_K_fetch ⟨by decide, by decide⟩ (rc_K C hw hc0) rfl hl.1 rfl (Nat.le_of_ble_eq_true rfl) d_K_taking_87 ⟨Nat.le_refl _, Nat.le_refl _⟩) (fun H locs hw => ?_)
            refine lv_iload_n hx hb d_K_taking_90 rfl (lv_at hl 2 rfl) ?_
            exact retI C hw rfl (Option.some.inj h) d_K_taking_91
        refine lv_icmp_lt (tgt := 56) hx hb d_K_taking_43 (by decide) (fun b20 => ?_) (fun b20 => ?_)
        · replace h18 := ifp b20 h18
          have e21 := Option.some.inj h18
          subst e21
          exact J19 H locs ls hw (lv_sub hl [1, 2, 0] rfl)
        · replace h18 := ifn b20 h18
          refine lv_aload_n hx hb d_K_taking_46 rfl (lv_at hl 1 rfl) ?_
          refine fg_K_25 C hw hc0 d_K_taking_47 ?_
          refine lv_iload_n hx hb d_K_taking_50 rfl (lv_at hl 2 rfl) ?_
          refine lv_dup2_11 hx hb d_K_taking_51 rfl rfl ?_
          refine gde h18 (fun g22 h18 => ?_)
          refine ldI (n := 6) C hw (tK_4 hc0) (by decide) g22 d_K_taking_52 ?_
          refine lv_iconst (v := 1) hx hb d_K_taking_53 (by decide) ?_
          refine lv_iadd hx hb d_K_taking_54 ?_
          refine gde h18 (fun g23 h18 => ?_)
          refine ste h18 (fun s24 e26 h18 => ?_)
          refine stI (n := 6) C hw (tK_4 hc0) (by decide) g23 d_K_taking_55 (fun H locs hw => ?_)
          replace hw := HWe hw e26
          have e25 := Option.some.inj h18
          subst e25
          exact J19 H locs ls hw (lv_sub hl [1, 2, 0] rfl)
      refine ifB (tgt := 34) C d_K_taking_26 (by decide) (fun b10 => ?_) (fun b10 => ?_)
      · replace h8 := ifp b10 h8
        have e11 := Option.some.inj h8
        subst e11
        exact J9 H locs ls hw (lv_sub hl [1, 2, 0] rfl)
      · replace h8 := ifn b10 h8
        refine lv_aload_n hx hb d_K_taking_29 rfl (lv_at hl 1 rfl) ?_
        refine lv_iload_n hx hb d_K_taking_30 rfl (lv_at hl 2 rfl) ?_
        refine bnd h8 (fun q12 k13 h8 => ?_)
        refine clV C hw (invV (As := [.int p1]) C hw (c_K_fetch g c0 hc0 p1 q3.2 q12 k13 l) rfl wc_K_93 nd_K_fetch ⟨by decide, by decide⟩ (rc_K C hw hc0) rfl hl.1 rfl (Nat.le_of_ble_eq_true rfl) d_K_taking_31 ⟨Nat.le_refl _, Nat.le_refl _⟩) (fun H locs hw => ?_)
        have e14 := Option.some.inj h8
        subst e14
        exact J9 H locs ls hw (lv_sub hl [1, 2, 0] rfl)
    · replace h := ifn b2 h
      refine lv_iconst (v := 0) hx hb d_K_taking_12 (by decide) ?_
      exact retI C hw rfl (Option.some.inj h) d_K_taking_13
def f_K_go_l36 : Nat → Nat → Int32 → Int32 → Int32 → Int32 → Int32 → Int32 → St → Option (St)
  | 0, _, _, _, _, _, _, _, _ => none
  | n + 1, c0, x1, x2, x3, x4, x5, x6, σ => (if (vI σ c0 0) ≤ x6 then some σ else (if x6 = x2 then (f_K_go_l36 n c0 x1 x2 x3 x4 x5 (x6 + 1) σ) else (if x6 = x3 then (f_K_go_l36 n c0 x1 x2 x3 x4 x5 (x6 + 1) σ) else ((f_K_taking c0 x6 σ).bind fun q17 => (f_K_go_l36 n c0 x1 x2 x3 x4 x5 (x6 + 1) q17.2)))))
def f_K_go_l16 : Nat → Nat → Int32 → Int32 → Int32 → Int32 → Int32 → St → Option (St)
  | 0, _, _, _, _, _, _, _ => none
  | n + 1, c0, x1, x2, x3, x4, x5, σ => (if x1 ≤ x5 then some σ else (((if x2 = (-1) then some σ else ((f_K_taking c0 x2 σ).bind fun q10 => some q10.2)) : Option (St)).bind fun q5 => ((f_K_go_l36 FU c0 x1 x2 x3 x4 x5 0 q5).bind fun x_19 => (st (sI x_19 c0 9 ((vI x_19 c0 9) + 1)) fun s23 => (f_K_go_l16 n c0 x1 x2 x3 x4 (x5 + 1) s23)))))
def f_K_go (c0 : Nat) (p1 : Int32) (p2 : Int32) (p3 : Int32) (σ : St) : Option (Int32 × St) := ((f_X_sum (c0 + 5) (vI σ c0 0) σ).bind fun q1 => ((f_K_go_l16 FU c0 p1 p2 p3 q1 0 σ).bind fun x_27 => ((f_X_sum (c0 + 5) (vI x_27 c0 0) x_27).bind fun q30 => some ((q30 - q1), x_27))))
set_option maxHeartbeats 400000 in
set_option maxRecDepth 20000 in
theorem c_K_go (g : GX) (c0 : Nat) (hc0 : tg BX c0 4) (p1 : Int32) (p2 : Int32) (p3 : Int32) (σ : St) (q : Int32 × St) (h : f_K_go c0 p1 p2 p3 σ = some q) (l : Launch) : CT BX l y_K_go (v_K_go :: lwG) 7 [.ref (g.2.1 c0), .int p1, .int p2, .int p3] g σ (QI BX g q) := by
  refine mkC (cc := b_K_go) (maxL := 7) (ret := (some .int)) rfl (by decide) rfl (Nat.le_of_ble_eq_true rfl) ?_
  intro p e s m args below meth c A ls C hl hw
  obtain ⟨hx, hb, hr, hml, hown, hts, hK, hE, hA, hlk⟩ := id C
  replace hl : lv_has ls 7 [(0, .ref (g.2.1 c0)), (1, .int p1), (2, .int p2), (3, .int p3)] := hl
  obtain ⟨H, hH⟩ : ∃ z, z = s.heap := ⟨_, rfl⟩
  rw [← hH] at hw ⊢
  obtain ⟨locs, hlo⟩ : ∃ z : List Loc, z = [] := ⟨_, rfl⟩
  rw [← hlo] at hw ⊢
  unfold f_K_go at h
  refine lv_aload_n hx hb d_K_go_0 rfl (lv_at hl 0 rfl) ?_
  refine fg_K_28 C hw hc0 d_K_go_1 ?_
  refine lv_aload_n hx hb d_K_go_4 rfl (lv_at hl 0 rfl) ?_
  refine fg_K_9 C hw hc0 d_K_go_5 ?_
  refine bnd h (fun q1 k2 h => ?_)
  refine clI0 (v := q1) C hw (invSN (As := [.ref (g.2.1 (c0 + 5)), .int (vI σ c0 0)]) C hw (c_X_sum g (c0 + 5) (tK_5 hc0) (vI σ c0 0) σ q1 k2 l) rfl (nst_6 (hE rfl)) wc_K_115 nd_X_sum.2 ⟨by decide, by decide⟩ rfl hl.1 rfl (Nat.le_of_ble_eq_true rfl) d_K_go_8 ⟨Nat.le_refl _, Nat.le_refl _⟩) (fun H locs hw => ?_)
  refine lv_istore (lv' := [(4, .int q1), (0, .ref (g.2.1 c0)), (1, .int p1), (2, .int p2), (3, .int p3)]) hx hb d_K_go_11 hl (by decide) rfl (fun ls hl => ?_)
  refine lv_iconst (v := 0) hx hb d_K_go_13 (by decide) ?_
  refine lv_istore (lv' := [(5, .int 0), (4, .int q1), (0, .ref (g.2.1 c0)), (1, .int p1), (2, .int p2), (3, .int p3)]) hx hb d_K_go_14 hl (by decide) rfl (fun ls hl => ?_)
  have L3 : ∀ (c0 : Nat) (hc0 : tg BX c0 4) (x1 : Int32) (x2 : Int32) (x3 : Int32) (x4 : Int32) (n : Nat) (x5 : Int32) (σ : St) (H : Heap) (locs : List Loc) (ls : Array Slot), HW BX g A s σ H locs → lv_has ls 7 [(0, .ref (g.2.1 c0)), (1, .int x1), (2, .int x2), (3, .int x3), (4, .int x4), (5, .int x5)] → ∀ (ex : St), f_K_go_l16 n c0 x1 x2 x3 x4 x5 σ = some ex → (∀ (y : St), ex = y → ∀ (H : Heap) (locs : List Loc) (ls : Array Slot), HW BX g A s y H locs → lv_has ls 7 [(0, .ref (g.2.1 c0)), (4, .int x4)] → W p l e (rmL 7) s m args below meth c H locs 0 0 (MQ below (QI BX g q A) args s 0 0 A) (F0 m 86 ls [])) → (True) → W p l e (rmL 7) s m args below meth c H locs 0 0 (MQ below (QI BX g q A) args s 0 0 A) (F0 m 16 ls []) := by
    intro c0 hc0 x1 x2 x3 x4 n
    induction n with
    | zero =>
      intro x5 σ H locs ls hw hl ex h kx3 kr3
      cases h
    | succ n ih =>
      intro x5 σ H locs ls hw hl ex h kx3 kr3
      rw [f_K_go_l16] at h
      refine lv_iload hx hb d_K_go_16 (lv_at hl 5 rfl) ?_
      refine lv_iload_n hx hb d_K_go_18 rfl (lv_at hl 1 rfl) ?_
      refine lv_icmp_ge (tgt := 86) hx hb d_K_go_19 (by decide) (fun b4 => ?_) (fun b4 => ?_)
      · replace h := ifp b4 h
        exact kx3 _ (Option.some.inj h).symm H locs ls hw (lv_sub hl [0, 4] rfl)
      · replace h := ifn b4 h
        refine lv_iload_n hx hb d_K_go_22 rfl (lv_at hl 2 rfl) ?_
        refine lv_iconst (v := (-1)) hx hb d_K_go_23 (by decide) ?_
        refine bnd h (fun q5 h6 h => ?_)
        have J7 : ∀ (H : Heap) (locs : List Loc) (ls : Array Slot), HW BX g A s q5 H locs → lv_has ls 7 [(0, .ref (g.2.1 c0)), (1, .int x1), (2, .int x2), (3, .int x3), (4, .int x4), (5, .int x5)] → W p l e (rmL 7) s m args below meth c H locs 0 0 (MQ below (QI BX g q A) args s 0 0 A) (F0 m 33 ls []) := by
          intro H locs ls hw hl
          refine lv_iconst (v := 0) hx hb d_K_go_33 (by decide) ?_
          refine lv_istore (lv' := [(6, .int 0), (0, .ref (g.2.1 c0)), (1, .int x1), (2, .int x2), (3, .int x3), (4, .int x4), (5, .int x5)]) hx hb d_K_go_34 hl (by decide) rfl (fun ls hl => ?_)
          have L13 : ∀ (c0 : Nat) (hc0 : tg BX c0 4) (x1 : Int32) (x2 : Int32) (x3 : Int32) (x4 : Int32) (x5 : Int32) (n : Nat) (x6 : Int32) (σ : St) (H : Heap) (locs : List Loc) (ls : Array Slot), HW BX g A s σ H locs → lv_has ls 7 [(0, .ref (g.2.1 c0)), (1, .int x1), (2, .int x2), (3, .int x3), (4, .int x4), (5, .int x5), (6, .int x6)] → ∀ (ex : St), f_K_go_l36 n c0 x1 x2 x3 x4 x5 x6 σ = some ex → (∀ (y : St), ex = y → ∀ (H : Heap) (locs : List Loc) (ls : Array Slot), HW BX g A s y H locs → lv_has ls 7 [(0, .ref (g.2.1 c0)), (1, .int x1), (2, .int x2), (3, .int x3), (4, .int x4), (5, .int x5)] → W p l e (rmL 7) s m args below meth c H locs 0 0 (MQ below (QI BX g q A) args s 0 0 A) (F0 m 70 ls [])) → (True) → W p l e (rmL 7) s m args below meth c H locs 0 0 (MQ below (QI BX g q A) args s 0 0 A) (F0 m 36 ls []) := by
            intro c0 hc0 x1 x2 x3 x4 x5 n
            induction n with
            | zero =>
              intro x6 σ H locs ls hw hl ex h kx13 kr13
              cases h
            | succ n ih =>
              intro x6 σ H locs ls hw hl ex h kx13 kr13
              rw [f_K_go_l36] at h
              refine lv_iload hx hb d_K_go_36 (lv_at hl 6 rfl) ?_
              refine lv_aload_n hx hb d_K_go_38 rfl (lv_at hl 0 rfl) ?_
              refine fg_K_9 C hw hc0 d_K_go_39 ?_
              refine lv_icmp_ge (tgt := 70) hx hb d_K_go_42 (by decide) (fun b14 => ?_) (fun b14 => ?_)
              · replace h := ifp b14 h
                exact kx13 _ (Option.some.inj h).symm H locs ls hw (lv_sub hl [0, 1, 2, 3, 4, 5] rfl)
              · replace h := ifn b14 h
                refine lv_iload hx hb d_K_go_45 (lv_at hl 6 rfl) ?_
                refine lv_iload_n hx hb d_K_go_47 rfl (lv_at hl 2 rfl) ?_
                refine lv_icmp_eq (tgt := 64) hx hb d_K_go_48 (by decide) (fun b15 => ?_) (fun b15 => ?_)
                · replace h := ifp b15 h
                  refine lv_iinc (v := (x6 + 1)) (lv' := [(6, .int (x6 + 1)), (0, .ref (g.2.1 c0)), (1, .int x1), (2, .int x2), (3, .int x3), (4, .int x4), (5, .int x5)]) hx hb d_K_go_64 hl (k := 6) rfl rfl (by decide) rfl (fun ls hl => ?_)
                  refine lv_goto (tgt := 36) hx hb d_K_go_67 (by decide) ?_
                  exact ih (x6 + 1) σ H locs ls hw (lv_sub hl [1, 2, 3, 4, 5, 6, 0] rfl) ex h kx13 kr13
                · replace h := ifn b15 h
                  refine lv_iload hx hb d_K_go_51 (lv_at hl 6 rfl) ?_
                  refine lv_iload_n hx hb d_K_go_53 rfl (lv_at hl 3 rfl) ?_
                  refine lv_icmp_eq (tgt := 64) hx hb d_K_go_54 (by decide) (fun b16 => ?_) (fun b16 => ?_)
                  · replace h := ifp b16 h
                    refine lv_iinc (v := (x6 + 1)) (lv' := [(6, .int (x6 + 1)), (0, .ref (g.2.1 c0)), (1, .int x1), (2, .int x2), (3, .int x3), (4, .int x4), (5, .int x5)]) hx hb d_K_go_64 hl (k := 6) rfl rfl (by decide) rfl (fun ls hl => ?_)
                    refine lv_goto (tgt := 36) hx hb d_K_go_67 (by decide) ?_
                    exact ih (x6 + 1) σ H locs ls hw (lv_sub hl [1, 2, 3, 4, 5, 6, 0] rfl) ex h kx13 kr13
                  · replace h := ifn b16 h
                    refine lv_aload_n hx hb d_K_go_57 rfl (lv_at hl 0 rfl) ?_
                    refine lv_iload hx hb d_K_go_58 (lv_at hl 6 rfl) ?_
                    refine bnd h (fun q17 k18 h => ?_)
                    refine clI C hw (invV (As := [.int x6]) C hw (c_K_taking g c0 hc0 x6 σ q17 k18 l) rfl wc_K_119 nd_K_taking ⟨by decide, by decide⟩ (rc_K C hw hc0) rfl hl.1 rfl (Nat.le_of_ble_eq_true rfl) d_K_go_60 ⟨Nat.le_refl _, Nat.le_refl _⟩) (fun H locs hw => ?_)
                    refine lv_pop hx hb d_K_go_63 rfl ?_
                    refine lv_iinc (v := (x6 + 1)) (lv' := [(6, .int (x6 + 1)), (0, .ref (g.2.1 c0)), (1, .int x1), (2, .int x2), (3, .int x3), (4, .int x4), (5, .int x5)]) hx hb d_K_go_64 hl (k := 6) rfl rfl (by decide) rfl (fun ls hl => ?_)
                    refine lv_goto (tgt := 36) hx hb d_K_go_67 (by decide) ?_
                    exact ih (x6 + 1) q17.2 H locs ls hw (lv_sub hl [1, 2, 3, 4, 5, 6, 0] rfl) ex h kx13 kr13
          refine bnd h (fun x_19 k20 h => ?_)
          refine L13 c0 hc0 x1 x2 x3 x4 x5 FU 0 q5 H locs ls hw (lv_sub hl [1, 2, 3, 4, 5, 6, 0] rfl) x_19 k20 (fun y25 e26 H locs ls hw hl => ?_) trivial
          subst e26
          refine lv_aload_n hx hb d_K_go_70 rfl (lv_at hl 0 rfl) ?_
          refine lv_dup hx hb d_K_go_71 rfl ?_
          refine fg_K_40 C hw hc0 d_K_go_72 ?_
          refine lv_iconst (v := 1) hx hb d_K_go_75 (by decide) ?_
          refine lv_iadd hx hb d_K_go_76 ?_
          refine ste h (fun s23 e24 h => ?_)
          refine fp_K_40 C hw hc0 d_K_go_77 (fun H locs hw => ?_)
          replace hw := HWe hw e24
          refine lv_iinc (v := (x5 + 1)) (lv' := [(5, .int (x5 + 1)), (0, .ref (g.2.1 c0)), (1, .int x1), (2, .int x2), (3, .int x3), (4, .int x4)]) hx hb d_K_go_80 hl (k := 5) rfl rfl (by decide) rfl (fun ls hl => ?_)
          refine lv_goto (tgt := 16) hx hb d_K_go_83 (by decide) ?_
          exact ih (x5 + 1) s23 H locs ls hw (lv_sub hl [1, 2, 3, 4, 5, 0] rfl) ex h kx3 kr3
        refine lv_icmp_eq (tgt := 33) hx hb d_K_go_24 (by decide) (fun b8 => ?_) (fun b8 => ?_)
        · replace h6 := ifp b8 h6
          have e9 := Option.some.inj h6
          subst e9
          exact J7 H locs ls hw (lv_sub hl [0, 1, 2, 3, 4, 5] rfl)
        · replace h6 := ifn b8 h6
          refine lv_aload_n hx hb d_K_go_27 rfl (lv_at hl 0 rfl) ?_
          refine lv_iload_n hx hb d_K_go_28 rfl (lv_at hl 2 rfl) ?_
          refine bnd h6 (fun q10 k11 h6 => ?_)
          refine clI C hw (invV (As := [.int x2]) C hw (c_K_taking g c0 hc0 x2 σ q10 k11 l) rfl wc_K_119 nd_K_taking ⟨by decide, by decide⟩ (rc_K C hw hc0) rfl hl.1 rfl (Nat.le_of_ble_eq_true rfl) d_K_go_29 ⟨Nat.le_refl _, Nat.le_refl _⟩) (fun H locs hw => ?_)
          refine lv_pop hx hb d_K_go_32 rfl ?_
          have e12 := Option.some.inj h6
          subst e12
          exact J7 H locs ls hw (lv_sub hl [0, 1, 2, 3, 4, 5] rfl)
  refine bnd h (fun x_27 k28 h => ?_)
  refine L3 c0 hc0 p1 p2 p3 q1 FU 0 σ H locs ls hw (lv_sub hl [2, 3, 4, 5, 1, 0] rfl) x_27 k28 (fun y32 e33 H locs ls hw hl => ?_) trivial
  subst e33
  refine lv_aload_n hx hb d_K_go_86 rfl (lv_at hl 0 rfl) ?_
  refine fg_K_28 C hw hc0 d_K_go_87 ?_
  refine lv_aload_n hx hb d_K_go_90 rfl (lv_at hl 0 rfl) ?_
  refine fg_K_9 C hw hc0 d_K_go_91 ?_
  refine bnd h (fun q30 k31 h => ?_)
  refine clI0 (v := q30) C hw (invSN (As := [.ref (g.2.1 (c0 + 5)), .int (vI x_27 c0 0)]) C hw (c_X_sum g (c0 + 5) (tK_5 hc0) (vI x_27 c0 0) x_27 q30 k31 l) rfl (nst_6 (hE rfl)) wc_K_115 nd_X_sum.2 ⟨by decide, by decide⟩ rfl hl.1 rfl (Nat.le_of_ble_eq_true rfl) d_K_go_94 ⟨Nat.le_refl _, Nat.le_refl _⟩) (fun H locs hw => ?_)
  refine lv_iload hx hb d_K_go_97 (lv_at hl 1 rfl) ?_
  refine lv_isub hx hb d_K_go_99 ?_
  exact retI C hw rfl (Option.some.inj h) d_K_go_100
def f_K_becomes (c0 : Nat) (c1 : Nat) (σ : St) : Option (St) := (st (sI σ c0 0 (vI σ c1 0)) fun s2 => (if okc 0 6 6 = true then (if okc 0 6 6 = true then (st (sJ s2 (c0 + 1) (va_cpy (vJ s2 (c1 + 1)) (vJ s2 (c0 + 1)) (nx 0) (nx 0) (nx 6))) fun s5 => (if okc 0 6 6 = true then (if okc 0 6 6 = true then (st (sJ s5 (c0 + 2) (va_cpy (vJ s5 (c1 + 2)) (vJ s5 (c0 + 2)) (nx 0) (nx 0) (nx 6))) fun s8 => (if okc 0 6 6 = true then (if okc 0 6 6 = true then (st (sJ s8 (c0 + 3) (va_cpy (vJ s8 (c1 + 3)) (vJ s8 (c0 + 3)) (nx 0) (nx 0) (nx 6))) fun s11 => (if okc 0 6 6 = true then (if okc 0 6 6 = true then (st (sJ s11 (c0 + 4) (va_cpy (vJ s11 (c1 + 4)) (vJ s11 (c0 + 4)) (nx 0) (nx 0) (nx 6))) fun s14 => (if okc 0 6 6 = true then (if okc 0 6 6 = true then (st (sJ s14 (c0 + 5) (va_cpy (vJ s14 (c1 + 5)) (vJ s14 (c0 + 5)) (nx 0) (nx 0) (nx 6))) fun s17 => (if okc 0 6 6 = true then (if okc 0 6 6 = true then (st (sJ s17 (c0 + 6) (va_cpy (vJ s17 (c1 + 6)) (vJ s17 (c0 + 6)) (nx 0) (nx 0) (nx 6))) fun s20 => (if okc 0 24 24 = true then (if okc 0 24 24 = true then (st (sJ s20 (c0 + 7) (va_cpy (vJ s20 (c1 + 7)) (vJ s20 (c0 + 7)) (nx 0) (nx 0) (nx 24))) fun s23 => (st (sI s23 c0 8 (vI s23 c1 8)) fun s25 => (st (sI s25 c0 9 (vI s25 c1 9)) fun s27 => (if tgb BX (vH s27 c1) 1 = true then (st (sH s27 c0 (vH s27 c1)) fun s30 => (st (sI s30 c0 11 (vI s30 c1 11)) fun s32 => (st (sI s32 c0 12 (vI s32 c1 12)) fun s34 => some s34))) else none)))) else none) else none)) else none) else none)) else none) else none)) else none) else none)) else none) else none)) else none) else none)) else none) else none))
set_option maxHeartbeats 400000 in
set_option maxRecDepth 20000 in
theorem c_K_becomes (g : GX) (c0 : Nat) (hc0 : tg BX c0 4) (c1 : Nat) (hc1 : tg BX c1 4) (σ : St) (q : St) (h : f_K_becomes c0 c1 σ = some q) (l : Launch) : CT BX l y_K_becomes (v_K_becomes :: lwG) 1 [.ref (g.2.1 c0), .ref (g.2.1 c1)] g σ (QV BX g q) := by
  refine mkC (cc := b_K_becomes) (maxL := 2) (ret := none) rfl (by decide) rfl (Nat.le_of_ble_eq_true rfl) ?_
  intro p e s m args below meth c A ls C hl hw
  obtain ⟨hx, hb, hr, hml, hown, hts, hK, hE, hA, hlk⟩ := id C
  replace hl : lv_has ls 2 [(0, .ref (g.2.1 c0)), (1, .ref (g.2.1 c1))] := hl
  obtain ⟨H, hH⟩ : ∃ z, z = s.heap := ⟨_, rfl⟩
  rw [← hH] at hw ⊢
  obtain ⟨locs, hlo⟩ : ∃ z : List Loc, z = [] := ⟨_, rfl⟩
  rw [← hlo] at hw ⊢
  unfold f_K_becomes at h
  refine lv_aload_n hx hb d_K_becomes_0 rfl (lv_at hl 0 rfl) ?_
  refine lv_aload_n hx hb d_K_becomes_1 rfl (lv_at hl 1 rfl) ?_
  refine fg_K_9 C hw hc1 d_K_becomes_2 ?_
  refine ste h (fun s2 e47 h => ?_)
  refine fp_K_9 C hw hc0 d_K_becomes_5 (fun H locs hw => ?_)
  replace hw := HWe hw e47
  refine lv_aload_n hx hb d_K_becomes_8 rfl (lv_at hl 1 rfl) ?_
  refine fg_K_15 C hw hc1 d_K_becomes_9 ?_
  refine lv_iconst (v := 0) hx hb d_K_becomes_12 (by decide) ?_
  refine lv_aload_n hx hb d_K_becomes_13 rfl (lv_at hl 0 rfl) ?_
  refine fg_K_15 C hw hc0 d_K_becomes_14 ?_
  refine lv_iconst (v := 0) hx hb d_K_becomes_17 (by decide) ?_
  refine lv_aload_n hx hb d_K_becomes_18 rfl (lv_at hl 0 rfl) ?_
  refine fg_K_15 C hw hc0 d_K_becomes_19 ?_
  refine lnI (n := 6) (v := 6) C hw (tK_1 hc0) (by decide) (by decide) d_K_becomes_22 ?_
  refine gde h (fun g3 h => ?_)
  refine gde h (fun g4 h => ?_)
  refine ste h (fun s5 e46 h => ?_)
  refine cpI (n0 := 6) (n1 := 6) C hw wc_K_71 (tK_1 hc1) (by decide) (tK_1 hc0) (by decide) g3 g4 hl.1 (Nat.le_of_ble_eq_true rfl) (Nat.le_of_ble_eq_true rfl) d_K_becomes_23 (fun H locs hw => ?_)
  replace hw := HWe hw e46
  refine lv_aload_n hx hb d_K_becomes_26 rfl (lv_at hl 1 rfl) ?_
  refine fg_K_19 C hw hc1 d_K_becomes_27 ?_
  refine lv_iconst (v := 0) hx hb d_K_becomes_30 (by decide) ?_
  refine lv_aload_n hx hb d_K_becomes_31 rfl (lv_at hl 0 rfl) ?_
  refine fg_K_19 C hw hc0 d_K_becomes_32 ?_
  refine lv_iconst (v := 0) hx hb d_K_becomes_35 (by decide) ?_
  refine lv_aload_n hx hb d_K_becomes_36 rfl (lv_at hl 0 rfl) ?_
  refine fg_K_19 C hw hc0 d_K_becomes_37 ?_
  refine lnI (n := 6) (v := 6) C hw (tK_2 hc0) (by decide) (by decide) d_K_becomes_40 ?_
  refine gde h (fun g6 h => ?_)
  refine gde h (fun g7 h => ?_)
  refine ste h (fun s8 e45 h => ?_)
  refine cpI (n0 := 6) (n1 := 6) C hw wc_K_71 (tK_2 hc1) (by decide) (tK_2 hc0) (by decide) g6 g7 hl.1 (Nat.le_of_ble_eq_true rfl) (Nat.le_of_ble_eq_true rfl) d_K_becomes_41 (fun H locs hw => ?_)
  replace hw := HWe hw e45
  refine lv_aload_n hx hb d_K_becomes_44 rfl (lv_at hl 1 rfl) ?_
  refine fg_K_22 C hw hc1 d_K_becomes_45 ?_
  refine lv_iconst (v := 0) hx hb d_K_becomes_48 (by decide) ?_
  refine lv_aload_n hx hb d_K_becomes_49 rfl (lv_at hl 0 rfl) ?_
  refine fg_K_22 C hw hc0 d_K_becomes_50 ?_
  refine lv_iconst (v := 0) hx hb d_K_becomes_53 (by decide) ?_
  refine lv_aload_n hx hb d_K_becomes_54 rfl (lv_at hl 0 rfl) ?_
  refine fg_K_22 C hw hc0 d_K_becomes_55 ?_
  refine lnI (n := 6) (v := 6) C hw (tK_3 hc0) (by decide) (by decide) d_K_becomes_58 ?_
  refine gde h (fun g9 h => ?_)
  refine gde h (fun g10 h => ?_)
  refine ste h (fun s11 e44 h => ?_)
  refine cpI (n0 := 6) (n1 := 6) C hw wc_K_71 (tK_3 hc1) (by decide) (tK_3 hc0) (by decide) g9 g10 hl.1 (Nat.le_of_ble_eq_true rfl) (Nat.le_of_ble_eq_true rfl) d_K_becomes_59 (fun H locs hw => ?_)
  replace hw := HWe hw e44
  refine lv_aload_n hx hb d_K_becomes_62 rfl (lv_at hl 1 rfl) ?_
  refine fg_K_25 C hw hc1 d_K_becomes_63 ?_
  refine lv_iconst (v := 0) hx hb d_K_becomes_66 (by decide) ?_
  refine lv_aload_n hx hb d_K_becomes_67 rfl (lv_at hl 0 rfl) ?_
  refine fg_K_25 C hw hc0 d_K_becomes_68 ?_
  refine lv_iconst (v := 0) hx hb d_K_becomes_71 (by decide) ?_
  refine lv_aload_n hx hb d_K_becomes_72 rfl (lv_at hl 0 rfl) ?_
  refine fg_K_25 C hw hc0 d_K_becomes_73 ?_
  refine lnI (n := 6) (v := 6) C hw (tK_4 hc0) (by decide) (by decide) d_K_becomes_76 ?_
  refine gde h (fun g12 h => ?_)
  refine gde h (fun g13 h => ?_)
  refine ste h (fun s14 e43 h => ?_)
  refine cpI (n0 := 6) (n1 := 6) C hw wc_K_71 (tK_4 hc1) (by decide) (tK_4 hc0) (by decide) g12 g13 hl.1 (Nat.le_of_ble_eq_true rfl) (Nat.le_of_ble_eq_true rfl) d_K_becomes_77 (fun H locs hw => ?_)
  replace hw := HWe hw e43
  refine lv_aload_n hx hb d_K_becomes_80 rfl (lv_at hl 1 rfl) ?_
  refine fg_K_28 C hw hc1 d_K_becomes_81 ?_
  refine lv_iconst (v := 0) hx hb d_K_becomes_84 (by decide) ?_
  refine lv_aload_n hx hb d_K_becomes_85 rfl (lv_at hl 0 rfl) ?_
  refine fg_K_28 C hw hc0 d_K_becomes_86 ?_
  refine lv_iconst (v := 0) hx hb d_K_becomes_89 (by decide) ?_
  refine lv_aload_n hx hb d_K_becomes_90 rfl (lv_at hl 0 rfl) ?_
  refine fg_K_28 C hw hc0 d_K_becomes_91 ?_
  refine lnI (n := 6) (v := 6) C hw (tK_5 hc0) (by decide) (by decide) d_K_becomes_94 ?_
  refine gde h (fun g15 h => ?_)
  refine gde h (fun g16 h => ?_)
  refine ste h (fun s17 e42 h => ?_)
  refine cpI (n0 := 6) (n1 := 6) C hw wc_K_71 (tK_5 hc1) (by decide) (tK_5 hc0) (by decide) g15 g16 hl.1 (Nat.le_of_ble_eq_true rfl) (Nat.le_of_ble_eq_true rfl) d_K_becomes_95 (fun H locs hw => ?_)
  replace hw := HWe hw e42
  refine lv_aload_n hx hb d_K_becomes_98 rfl (lv_at hl 1 rfl) ?_
  refine fg_K_31 C hw hc1 d_K_becomes_99 ?_
  refine lv_iconst (v := 0) hx hb d_K_becomes_102 (by decide) ?_
  refine lv_aload_n hx hb d_K_becomes_103 rfl (lv_at hl 0 rfl) ?_
  refine fg_K_31 C hw hc0 d_K_becomes_104 ?_
  refine lv_iconst (v := 0) hx hb d_K_becomes_107 (by decide) ?_
  refine lv_aload_n hx hb d_K_becomes_108 rfl (lv_at hl 0 rfl) ?_
  refine fg_K_31 C hw hc0 d_K_becomes_109 ?_
  refine lnI (n := 6) (v := 6) C hw (tK_6 hc0) (by decide) (by decide) d_K_becomes_112 ?_
  refine gde h (fun g18 h => ?_)
  refine gde h (fun g19 h => ?_)
  refine ste h (fun s20 e41 h => ?_)
  refine cpI (n0 := 6) (n1 := 6) C hw wc_K_71 (tK_6 hc1) (by decide) (tK_6 hc0) (by decide) g18 g19 hl.1 (Nat.le_of_ble_eq_true rfl) (Nat.le_of_ble_eq_true rfl) d_K_becomes_113 (fun H locs hw => ?_)
  replace hw := HWe hw e41
  refine lv_aload_n hx hb d_K_becomes_116 rfl (lv_at hl 1 rfl) ?_
  refine fg_K_34 C hw hc1 d_K_becomes_117 ?_
  refine lv_iconst (v := 0) hx hb d_K_becomes_120 (by decide) ?_
  refine lv_aload_n hx hb d_K_becomes_121 rfl (lv_at hl 0 rfl) ?_
  refine fg_K_34 C hw hc0 d_K_becomes_122 ?_
  refine lv_iconst (v := 0) hx hb d_K_becomes_125 (by decide) ?_
  refine lv_aload_n hx hb d_K_becomes_126 rfl (lv_at hl 0 rfl) ?_
  refine fg_K_34 C hw hc0 d_K_becomes_127 ?_
  refine lnI (n := 24) (v := 24) C hw (tK_7 hc0) (by decide) (by decide) d_K_becomes_130 ?_
  refine gde h (fun g21 h => ?_)
  refine gde h (fun g22 h => ?_)
  refine ste h (fun s23 e40 h => ?_)
  refine cpI (n0 := 24) (n1 := 24) C hw wc_K_71 (tK_7 hc1) (by decide) (tK_7 hc0) (by decide) g21 g22 hl.1 (Nat.le_of_ble_eq_true rfl) (Nat.le_of_ble_eq_true rfl) d_K_becomes_131 (fun H locs hw => ?_)
  replace hw := HWe hw e40
  refine lv_aload_n hx hb d_K_becomes_134 rfl (lv_at hl 0 rfl) ?_
  refine lv_aload_n hx hb d_K_becomes_135 rfl (lv_at hl 1 rfl) ?_
  refine fg_K_37 C hw hc1 d_K_becomes_136 ?_
  refine ste h (fun s25 e39 h => ?_)
  refine fp_K_37 C hw hc0 d_K_becomes_139 (fun H locs hw => ?_)
  replace hw := HWe hw e39
  refine lv_aload_n hx hb d_K_becomes_142 rfl (lv_at hl 0 rfl) ?_
  refine lv_aload_n hx hb d_K_becomes_143 rfl (lv_at hl 1 rfl) ?_
  refine fg_K_40 C hw hc1 d_K_becomes_144 ?_
  refine ste h (fun s27 e38 h => ?_)
  refine fp_K_40 C hw hc0 d_K_becomes_147 (fun H locs hw => ?_)
  replace hw := HWe hw e38
  refine lv_aload_n hx hb d_K_becomes_150 rfl (lv_at hl 0 rfl) ?_
  refine lv_aload_n hx hb d_K_becomes_151 rfl (lv_at hl 1 rfl) ?_
  refine gde h (fun g28 h => ?_)
  refine fg_K_59 C hw hc1 d_K_becomes_152 ?_
  refine ste h (fun s30 e37 h => ?_)
  refine fp_K_59 C hw hc0 d_K_becomes_155 (fun H locs hw => ?_)
  replace hw := HWe hw e37
  refine lv_aload_n hx hb d_K_becomes_158 rfl (lv_at hl 0 rfl) ?_
  refine lv_aload_n hx hb d_K_becomes_159 rfl (lv_at hl 1 rfl) ?_
  refine fg_K_66 C hw hc1 d_K_becomes_160 ?_
  refine ste h (fun s32 e36 h => ?_)
  refine fp_K_66 C hw hc0 d_K_becomes_163 (fun H locs hw => ?_)
  replace hw := HWe hw e36
  refine lv_aload_n hx hb d_K_becomes_166 rfl (lv_at hl 0 rfl) ?_
  refine lv_aload_n hx hb d_K_becomes_167 rfl (lv_at hl 1 rfl) ?_
  refine fg_K_70 C hw hc1 d_K_becomes_168 ?_
  refine ste h (fun s34 e35 h => ?_)
  refine fp_K_70 C hw hc0 d_K_becomes_171 (fun H locs hw => ?_)
  replace hw := HWe hw e35
  exact retV C hw rfl (Option.some.inj h) d_K_becomes_174
