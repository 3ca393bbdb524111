/-! ===== read off the bytecode by a program: each method as a function, and its walk ===== -/
def f_X_pitied_l52 : Nat → Nat → Int32 → Int32 → St → Option (Int32)
  | 0, _, _, _, _ => none
  | n + 1, c0, x2, x3, σ => (if (vI σ 49 0) ≤ x3 then some x2 else ((f_X_fetchesMore c0 x3 σ).bind fun q9 => ((f_X_cupsMore c0 x2 σ).bind fun q11 => ((f_X_fetchesMore c0 x2 σ).bind fun q13 => ((f_X_cupsMore c0 x3 σ).bind fun q15 => (if (q9 * (q11 + 1)) ≤ (q13 * (q15 + 1)) then (f_X_pitied_l52 n c0 x2 (x3 + 1) σ) else (f_X_pitied_l52 n c0 x3 (x3 + 1) σ)))))))
def f_X_pitied (c0 : Nat) (p1 : Int32) (σ : St) : Option (Int32 × St) := (if (f_X_inside p1 1 60) = false then some ((-2), σ) else (if (vI σ 49 0) = 0 then some ((-5), σ) else ((f_K_becomes 67 49 σ).bind fun q3 => ((f_K_go 67 p1 (-1) (-1) q3).bind fun q5 => ((f_X_pitied_l52 FU c0 0 1 q5.2).bind fun x_18 => some (x_18, q5.2))))))
set_option maxHeartbeats 400000 in
set_option maxRecDepth 20000 in
theorem c_X_pitied (g : GX) (c0 : Nat) (hc0 : tg BX c0 0) (p1 : Int32) (σ : St) (q : Int32 × St) (h : f_X_pitied c0 p1 σ = some q) (l : Launch) : CT BX l y_X_pitied (v_X_pitied :: lwG) 8 [.ref (g.2.1 c0), .int p1] g σ (QI BX g q) := by
  refine mkC (cc := b_X_pitied) (maxL := 4) (ret := (some .int)) rfl (by decide) rfl (Nat.le_of_ble_eq_true rfl) ?_
  intro p e s m args below meth c A ls C hl hw
  obtain ⟨hx, hb, hr, hml, hown, hts, hK, hE, hA, hlk⟩ := id C
  replace hl : lv_has ls 4 [(0, .ref (g.2.1 c0)), (1, .int p1)] := hl
  obtain ⟨H, hH⟩ : ∃ z, z = s.heap := ⟨_, rfl⟩
  rw [← hH] at hw ⊢
  obtain ⟨locs, hlo⟩ : ∃ z : List Loc, z = [] := ⟨_, rfl⟩
  rw [← hlo] at hw ⊢
  unfold f_X_pitied at h
  refine lv_iload_n hx hb d_X_pitied_0 rfl (lv_at hl 1 rfl) ?_
  refine lv_iconst (v := 1) hx hb d_X_pitied_1 (by decide) ?_
  refine lv_bipush (v := 60) hx hb d_X_pitied_2 (by decide) ?_
  refine clZ0 (v := (f_X_inside p1 1 60)) C hw (invS (As := [.int p1, .int 1, .int 60]) C hw (c_X_inside g p1 1 60 σ l) rfl wc_X_83 nd_X_inside.2 ⟨by decide, by decide⟩ rfl hl.1 rfl (Nat.le_of_ble_eq_true rfl) d_X_pitied_4 ⟨Nat.le_refl _, Nat.le_refl _⟩) (fun H locs hw => ?_)
  refine ifnB (tgt := 13) C d_X_pitied_7 (by decide) (fun b1 => ?_) (fun b1 => ?_)
  · replace h := ifn b1 h
    refine lv_aload_n hx hb d_X_pitied_13 rfl (lv_at hl 0 rfl) ?_
    refine fg_X_23 C hw hc0 d_X_pitied_14 ?_
    refine fg_X_87 C hw tX_49 d_X_pitied_17 ?_
    refine lv_if_ne (tgt := 26) hx hb d_X_pitied_20 (by decide) (fun b2 => ?_) (fun b2 => ?_)
    · replace h := ifn b2 h
      refine lv_aload_n hx hb d_X_pitied_26 rfl (lv_at hl 0 rfl) ?_
      refine fg_X_30 C hw hc0 d_X_pitied_27 ?_
      refine lv_aload_n hx hb d_X_pitied_30 rfl (lv_at hl 0 rfl) ?_
      refine fg_X_23 C hw hc0 d_X_pitied_31 ?_
      refine bnd h (fun q3 k4 h => ?_)
      refine clV C hw (invV (As := [.ref (g.2.1 49)]) C hw (c_K_becomes g 67 tX_67 49 tX_49 σ q3 k4 l) rfl wc_X_165 nd_K_becomes ⟨by decide, by decide⟩ (rc_K C hw tX_67) rfl hl.1 rfl (Nat.le_of_ble_eq_true rfl) d_X_pitied_34 ⟨Nat.le_refl _, Nat.le_refl _⟩) (fun H locs hw => ?_)
      refine lv_aload_n hx hb d_X_pitied_37 rfl (lv_at hl 0 rfl) ?_
      refine fg_X_30 C hw hc0 d_X_pitied_38 ?_
      refine lv_iload_n hx hb d_X_pitied_41 rfl (lv_at hl 1 rfl) ?_
      refine lv_iconst (v := (-1)) hx hb d_X_pitied_42 (by decide) ?_
      refine lv_iconst (v := (-1)) hx hb d_X_pitied_43 (by decide) ?_
      refine bnd h (fun q5 k6 h => ?_)
      refine clI C hw (invV (As := [.int p1, .int (-1), .int (-1)]) C hw (c_K_go g 67 tX_67 p1 (-1) (-1) q3 q5 k6 l) rfl wc_X_162 nd_K_go ⟨by decide, by decide⟩ (rc_K C hw tX_67) rfl hl.1 rfl (Nat.le_of_ble_eq_true rfl) d_X_pitied_44 ⟨Nat.le_refl _, Nat.le_refl _⟩) (fun H locs hw => ?_)
      refine lv_pop hx hb d_X_pitied_47 rfl ?_
      refine lv_iconst (v := 0) hx hb d_X_pitied_48 (by decide) ?_
      refine lv_istore_n (lv' := [(2, .int 0), (0, .ref (g.2.1 c0)), (1, .int p1)]) hx hb d_X_pitied_49 rfl hl (by decide) rfl (fun ls hl => ?_)
      refine lv_iconst (v := 1) hx hb d_X_pitied_50 (by decide) ?_
      refine lv_istore_n (lv' := [(3, .int 1), (2, .int 0), (0, .ref (g.2.1 c0)), (1, .int p1)]) hx hb d_X_pitied_51 rfl hl (by decide) rfl (fun ls hl => ?_)
      have L7 : ∀ (c0 : Nat) (hc0 : tg BX c0 0) (n : Nat) (x2 : Int32) (x3 : Int32) (σ : St) (H : Heap) (locs : List Loc) (ls : Array Slot), HW BX g A s σ H locs → lv_has ls 4 [(0, .ref (g.2.1 c0)), (2, .int x2), (3, .int x3)] → ∀ (ex : Int32), f_X_pitied_l52 n c0 x2 x3 σ = some ex → (∀ (y : Int32), ex = y → ∀ (H : Heap) (locs : List Loc) (ls : Array Slot), HW BX g A s σ H locs → lv_has ls 4 [(2, .int y)] → W p l e (rmL 8) s m args below meth c H locs 0 0 (MQ below (QI BX g q A) args s 0 0 A) (F0 m 100 ls [])) → (True) → W p l e (rmL 8) s m args below meth c H locs 0 0 (MQ below (QI BX g q A) args s 0 0 A) (F0 m 52 ls []) := by
        intro c0 hc0 n
        induction n with
        | zero =>
          intro x2 x3 σ H locs ls hw hl ex h kx7 kr7
          cases h
        | succ n ih =>
          intro x2 x3 σ H locs ls hw hl ex h kx7 kr7
          rw [f_X_pitied_l52] at h
          refine lv_iload_n hx hb d_X_pitied_52 rfl (lv_at hl 2 rfl) ?_
          refine lv_aload_n hx hb d_X_pitied_53 rfl (lv_at hl 0 rfl) ?_
          refine fg_X_23 C hw hc0 d_X_pitied_54 ?_
          refine fg_X_87 C hw tX_49 d_X_pitied_57 ?_
          refine lv_icmp_ge (tgt := 100) hx hb d_X_pitied_60 (by decide) (fun b8 => ?_) (fun b8 => ?_)
          · replace h := ifp b8 h
            exact kx7 _ (Option.some.inj h).symm H locs ls hw (lv_sub hl [1] rfl)
          · replace h := ifn b8 h
            refine lv_aload_n hx hb d_X_pitied_63 rfl (lv_at hl 0 rfl) ?_
            refine lv_iload_n hx hb d_X_pitied_64 rfl (lv_at hl 2 rfl) ?_
            refine bnd h (fun q9 k10 h => ?_)
            refine clI0 (v := q9) C hw (invV (As := [.int x3]) C hw (c_X_fetchesMore g c0 hc0 x3 σ q9 k10 l) rfl wc_X_172 nd_X_fetchesMore ⟨by decide, by decide⟩ (rc_X C hw hc0) rfl hl.1 rfl (Nat.le_of_ble_eq_true rfl) d_X_pitied_65 ⟨Nat.le_refl _, Nat.le_refl _⟩) (fun H locs hw => ?_)
            refine lv_aload_n hx hb d_X_pitied_68 rfl (lv_at hl 0 rfl) ?_
            refine lv_iload_n hx hb d_X_pitied_69 rfl (lv_at hl 1 rfl) ?_
            refine bnd h (fun q11 k12 h => ?_)
            refine clI0 (v := q11) C hw (invV (As := [.int x2]) C hw (c_X_cupsMore g c0 hc0 x2 σ q11 k12 l) rfl wc_X_169 nd_X_cupsMore ⟨by decide, by decide⟩ (rc_X C hw hc0) rfl hl.1 rfl (Nat.le_of_ble_eq_true rfl) d_X_pitied_70 ⟨Nat.le_refl _, Nat.le_refl _⟩) (fun H locs hw => ?_)
            refine lv_iconst (v := 1) hx hb d_X_pitied_73 (by decide) ?_
            refine lv_iadd hx hb d_X_pitied_74 ?_
            refine lv_imul hx hb d_X_pitied_75 ?_
            refine lv_aload_n hx hb d_X_pitied_76 rfl (lv_at hl 0 rfl) ?_
            refine lv_iload_n hx hb d_X_pitied_77 rfl (lv_at hl 1 rfl) ?_
            refine bnd h (fun q13 k14 h => ?_)
            refine clI0 (v := q13) C hw (invV (As := [.int x2]) C hw (c_X_fetchesMore g c0 hc0 x2 σ q13 k14 l) rfl wc_X_172 nd_X_fetchesMore ⟨by decide, by decide⟩ (rc_X C hw hc0) rfl hl.1 rfl (Nat.le_of_ble_eq_true rfl) d_X_pitied_78 ⟨Nat.le_refl _, Nat.le_refl _⟩) (fun H locs hw => ?_)
            refine lv_aload_n hx hb d_X_pitied_81 rfl (lv_at hl 0 rfl) ?_
            refine lv_iload_n hx hb d_X_pitied_82 rfl (lv_at hl 2 rfl) ?_
            refine bnd h (fun q15 k16 h => ?_)
            refine clI0 (v := q15) C hw (invV (As := [.int x3]) C hw (c_X_cupsMore g c0 hc0 x3 σ q15 k16 l) rfl wc_X_169 nd_X_cupsMore ⟨by decide, by decide⟩ (rc_X C hw hc0) rfl hl.1 rfl (Nat.le_of_ble_eq_true rfl) d_X_pitied_83 ⟨Nat.le_refl _, Nat.le_refl _⟩) (fun H locs hw => ?_)
            refine lv_iconst (v := 1) hx hb d_X_pitied_86 (by decide) ?_
            refine lv_iadd hx hb d_X_pitied_87 ?_
            refine lv_imul hx hb d_X_pitied_88 ?_
            refine lv_icmp_le (tgt := 94) hx hb d_X_pitied_89 (by decide) (fun b17 => ?_) (fun b17 => ?_)
            · replace h := ifp b17 h
              refine lv_iinc (v := (x3 + 1)) (lv' := [(3, .int (x3 + 1)), (0, .ref (g.2.1 c0)), (2, .int x2)]) hx hb d_X_pitied_94 hl (k := 2) rfl rfl (by decide) rfl (fun ls hl => ?_)
              refine lv_goto (tgt := 52) hx hb d_X_pitied_97 (by decide) ?_
              exact ih x2 (x3 + 1) σ H locs ls hw (lv_sub hl [1, 2, 0] rfl) ex h kx7 kr7
            · replace h := ifn b17 h
              refine lv_iload_n hx hb d_X_pitied_92 rfl (lv_at hl 2 rfl) ?_
              refine lv_istore_n (lv' := [(2, .int x3), (0, .ref (g.2.1 c0)), (3, .int x3)]) hx hb d_X_pitied_93 rfl hl (by decide) rfl (fun ls hl => ?_)
              refine lv_iinc (v := (x3 + 1)) (lv' := [(3, .int (x3 + 1)), (2, .int x3), (0, .ref (g.2.1 c0))]) hx hb d_X_pitied_94 hl (k := 2) rfl rfl (by decide) rfl (fun ls hl => ?_)
              refine lv_goto (tgt := 52) hx hb d_X_pitied_97 (by decide) ?_
              exact ih x3 (x3 + 1) σ H locs ls hw (lv_sub hl [2, 1, 0] rfl) ex h kx7 kr7
      refine bnd h (fun x_18 k19 h => ?_)
      refine L7 c0 hc0 FU 0 1 q5.2 H locs ls hw (lv_sub hl [2, 1, 0] rfl) x_18 k19 (fun y21 e22 H locs ls hw hl => ?_) trivial
      subst e22
      refine lv_iload_n hx hb d_X_pitied_100 rfl (lv_at hl 0 rfl) ?_
      exact retI C hw rfl (Option.some.inj h) d_X_pitied_101
    · replace h := ifp b2 h
      refine lv_bipush (v := (-5)) hx hb d_X_pitied_23 (by decide) ?_
      exact retI C hw rfl (Option.some.inj h) d_X_pitied_25
  · replace h := ifp b1 h
    refine lv_bipush (v := (-2)) hx hb d_X_pitied_10 (by decide) ?_
    exact retI C hw rfl (Option.some.inj h) d_X_pitied_12
def f_X_see (c0 : Nat) (p1 : Int32) (p2 : Int32) (σ : St) : Option (Int32 × St) := (if p1 = (-1) then (st (sI σ 76 0 0) fun s15 => some (0, s15)) else (if (f_X_inside p1 0 990) = false then some ((-2), σ) else (if (f_X_inside p2 0 990) = false then some ((-2), σ) else (if (vI σ 76 0) < 6 then (if ok (vI σ 76 0) 6 = true then (st (sJ σ (76 + 1) (upd (vJ σ (76 + 1)) (nx (vI σ 76 0)) p1)) fun s6 => (if ok (vI s6 76 0) 6 = true then (st (sJ s6 (76 + 2) (upd (vJ s6 (76 + 2)) (nx (vI s6 76 0)) p2)) fun s8 => (st (sI s8 76 0 ((vI s8 76 0) + 1)) fun s10 => some ((vI s10 76 0), s10))) else none)) else none) else some ((-4), σ)))))
set_option maxHeartbeats 400000 in
set_option maxRecDepth 20000 in
theorem c_X_see (g : GX) (c0 : Nat) (hc0 : tg BX c0 0) (p1 : Int32) (p2 : Int32) (σ : St) (q : Int32 × St) (h : f_X_see c0 p1 p2 σ = some q) (l : Launch) : CT BX l y_X_see (v_X_see :: lwG) 2 [.ref (g.2.1 c0), .int p1, .int p2] g σ (QI BX g q) := by
  refine mkC (cc := b_X_see) (maxL := 3) (ret := (some .int)) rfl (by decide) rfl (Nat.le_of_ble_eq_true rfl) ?_
  intro p e s m args below meth c A ls C hl hw
  obtain ⟨hx, hb, hr, hml, hown, hts, hK, hE, hA, hlk⟩ := id C
  replace hl : lv_has ls 3 [(0, .ref (g.2.1 c0)), (1, .int p1), (2, .int p2)] := hl
  obtain ⟨H, hH⟩ : ∃ z, z = s.heap := ⟨_, rfl⟩
  rw [← hH] at hw ⊢
  obtain ⟨locs, hlo⟩ : ∃ z : List Loc, z = [] := ⟨_, rfl⟩
  rw [← hlo] at hw ⊢
  unfold f_X_see at h
  refine lv_iload_n hx hb d_X_see_0 rfl (lv_at hl 1 rfl) ?_
  refine lv_iconst (v := (-1)) hx hb d_X_see_1 (by decide) ?_
  refine lv_icmp_ne (tgt := 15) hx hb d_X_see_2 (by decide) (fun b1 => ?_) (fun b1 => ?_)
  · replace h := ifn b1 h
    refine lv_iload_n hx hb d_X_see_15 rfl (lv_at hl 1 rfl) ?_
    refine lv_iconst (v := 0) hx hb d_X_see_16 (by decide) ?_
    refine lv_sipush (v := 990) hx hb d_X_see_17 (by decide) ?_
    refine clZ0 (v := (f_X_inside p1 0 990)) C hw (invS (As := [.int p1, .int 0, .int 990]) C hw (c_X_inside g p1 0 990 σ l) rfl wc_X_83 nd_X_inside.2 ⟨by decide, by decide⟩ rfl hl.1 rfl (Nat.le_of_ble_eq_true rfl) d_X_see_20 ⟨Nat.le_refl _, Nat.le_refl _⟩) (fun H locs hw => ?_)
    refine ifB (tgt := 37) C d_X_see_23 (by decide) (fun b2 => ?_) (fun b2 => ?_)
    · replace h := ifp b2 h
      refine lv_bipush (v := (-2)) hx hb d_X_see_37 (by decide) ?_
      exact retI C hw rfl (Option.some.inj h) d_X_see_39
    · replace h := ifn b2 h
      refine lv_iload_n hx hb d_X_see_26 rfl (lv_at hl 2 rfl) ?_
      refine lv_iconst (v := 0) hx hb d_X_see_27 (by decide) ?_
      refine lv_sipush (v := 990) hx hb d_X_see_28 (by decide) ?_
      refine clZ0 (v := (f_X_inside p2 0 990)) C hw (invS (As := [.int p2, .int 0, .int 990]) C hw (c_X_inside g p2 0 990 σ l) rfl wc_X_83 nd_X_inside.2 ⟨by decide, by decide⟩ rfl hl.1 rfl (Nat.le_of_ble_eq_true rfl) d_X_see_31 ⟨Nat.le_refl _, Nat.le_refl _⟩) (fun H locs hw => ?_)
      refine ifnB (tgt := 40) C d_X_see_34 (by decide) (fun b3 => ?_) (fun b3 => ?_)
      · replace h := ifn b3 h
        refine lv_aload_n hx hb d_X_see_40 rfl (lv_at hl 0 rfl) ?_
        refine fg_X_36 C hw hc0 d_X_see_41 ?_
        refine fg_X_198 C hw tX_76 d_X_see_44 ?_
        refine lv_bipush (v := 6) hx hb d_X_see_47 (by decide) ?_
        refine lv_icmp_lt (tgt := 55) hx hb d_X_see_49 (by decide) (fun b4 => ?_) (fun b4 => ?_)
        · replace h := ifp b4 h
          refine lv_aload_n hx hb d_X_see_55 rfl (lv_at hl 0 rfl) ?_
          refine fg_X_36 C hw hc0 d_X_see_56 ?_
          refine fg_X_201 C hw tX_76 d_X_see_59 ?_
          refine lv_aload_n hx hb d_X_see_62 rfl (lv_at hl 0 rfl) ?_
          refine fg_X_36 C hw hc0 d_X_see_63 ?_
          refine fg_X_198 C hw tX_76 d_X_see_66 ?_
          refine lv_iload_n hx hb d_X_see_69 rfl (lv_at hl 1 rfl) ?_
          refine gde h (fun g5 h => ?_)
          refine ste h (fun s6 e13 h => ?_)
          refine stI (n := 6) C hw (tN_1 tX_76) (by decide) g5 d_X_see_70 (fun H locs hw => ?_)
          replace hw := HWe hw e13
          refine lv_aload_n hx hb d_X_see_71 rfl (lv_at hl 0 rfl) ?_
          refine fg_X_36 C hw hc0 d_X_see_72 ?_
          refine fg_X_204 C hw tX_76 d_X_see_75 ?_
          refine lv_aload_n hx hb d_X_see_78 rfl (lv_at hl 0 rfl) ?_
          refine fg_X_36 C hw hc0 d_X_see_79 ?_
          refine fg_X_198 C hw tX_76 d_X_see_82 ?_
          refine lv_iload_n hx hb d_X_see_85 rfl (lv_at hl 2 rfl) ?_
          refine gde h (fun g7 h => ?_)
          refine ste h (fun s8 e12 h => ?_)
          refine stI (n := 6) C hw (tN_2 tX_76) (by decide) g7 d_X_see_86 (fun H locs hw => ?_)
          replace hw := HWe hw e12
          refine lv_aload_n hx hb d_X_see_87 rfl (lv_at hl 0 rfl) ?_
          refine fg_X_36 C hw hc0 d_X_see_88 ?_
          refine lv_dup hx hb d_X_see_91 rfl ?_
          refine fg_X_198 C hw tX_76 d_X_see_92 ?_
          refine lv_iconst (v := 1) hx hb d_X_see_95 (by decide) ?_
          refine lv_iadd hx hb d_X_see_96 ?_
          refine ste h (fun s10 e11 h => ?_)
          refine fp_X_198 C hw tX_76 d_X_see_97 (fun H locs hw => ?_)
          replace hw := HWe hw e11
          refine lv_aload_n hx hb d_X_see_100 rfl (lv_at hl 0 rfl) ?_
          refine fg_X_36 C hw hc0 d_X_see_101 ?_
          refine fg_X_198 C hw tX_76 d_X_see_104 ?_
          exact retI C hw rfl (Option.some.inj h) d_X_see_107
        · replace h := ifn b4 h
          refine lv_bipush (v := (-4)) hx hb d_X_see_52 (by decide) ?_
          exact retI C hw rfl (Option.some.inj h) d_X_see_54
      · replace h := ifp b3 h
        refine lv_bipush (v := (-2)) hx hb d_X_see_37 (by decide) ?_
        exact retI C hw rfl (Option.some.inj h) d_X_see_39
  · replace h := ifp b1 h
    refine lv_aload_n hx hb d_X_see_5 rfl (lv_at hl 0 rfl) ?_
    refine fg_X_36 C hw hc0 d_X_see_6 ?_
    refine lv_iconst (v := 0) hx hb d_X_see_9 (by decide) ?_
    refine ste h (fun s15 e16 h => ?_)
    refine fp_X_198 C hw tX_76 d_X_see_10 (fun H locs hw => ?_)
    replace hw := HWe hw e16
    refine lv_iconst (v := 0) hx hb d_X_see_13 (by decide) ?_
    exact retI C hw rfl (Option.some.inj h) d_X_see_14
def f_X_leavesWhatIsSeen_l2 : Nat → Nat → Int32 → Int32 → St → Option ((St) ⊕ (Bool × St))
  | 0, _, _, _, _ => none
  | n + 1, c0, x1, x2, σ => (if (vI σ 76 0) ≤ x2 then some (Sum.inl σ) else ((f_K_becomes 67 49 σ).bind fun q3 => (if ok x2 6 = true then (st (sI q3 67 8 (vJ q3 (76 + 1) (nx x2))) fun s7 => ((f_K_taking 67 x1 s7).bind fun q8 => (if ok x2 6 = true then (if (vI q8.2 67 8) = (vJ q8.2 (76 + 2) (nx x2)) then (f_X_leavesWhatIsSeen_l2 n c0 x1 (x2 + 1) q8.2) else some (Sum.inr (false, q8.2))) else none))) else none)))
def f_X_leavesWhatIsSeen (c0 : Nat) (p1 : Int32) (σ : St) : Option (Bool × St) := ((f_X_leavesWhatIsSeen_l2 FU c0 p1 0 σ).bind fun x_13 => Sum.elim (fun y15 => some (true, y15)) (fun z => some z) x_13)
set_option maxHeartbeats 400000 in
set_option maxRecDepth 20000 in
theorem c_X_leavesWhatIsSeen (g : GX) (c0 : Nat) (hc0 : tg BX c0 0) (p1 : Int32) (σ : St) (q : Bool × St) (h : f_X_leavesWhatIsSeen c0 p1 σ = some q) (l : Launch) : CT BX l y_X_leavesWhatIsSeen (v_X_leavesWhatIsSeen :: lwG) 7 [.ref (g.2.1 c0), .int p1] g σ (QZ BX g q) := by
  refine mkC (cc := b_X_leavesWhatIsSeen) (maxL := 3) (ret := (some .boolean)) rfl (by decide) rfl (Nat.le_of_ble_eq_true rfl) ?_
  intro p e s m args below meth c A ls C hl hw
  obtain ⟨hx, hb, hr, hml, hown, hts, hK, hE, hA, hlk⟩ := id C
  replace hl : lv_has ls 3 [(0, .ref (g.2.1 c0)), (1, .int p1)] := hl
  obtain ⟨H, hH⟩ : ∃ z, z = s.heap := ⟨_, rfl⟩
  rw [← hH] at hw ⊢
  obtain ⟨locs, hlo⟩ : ∃ z : List Loc, z = [] := ⟨_, rfl⟩
  rw [← hlo] at hw ⊢
  unfold f_X_leavesWhatIsSeen at h
  refine lv_iconst (v := 0) hx hb d_X_leavesWhatIsSeen_0 (by decide) ?_
  refine lv_istore_n (lv' := [(2, .int 0), (0, .ref (g.2.1 c0)), (1, .int p1)]) hx hb d_X_leavesWhatIsSeen_1 rfl hl (by decide) rfl (fun ls hl => ?_)
  have L1 : ∀ (c0 : Nat) (hc0 : tg BX c0 0) (x1 : Int32) (n : Nat) (x2 : Int32) (σ : St) (H : Heap) (locs : List Loc) (ls : Array Slot), HW BX g A s σ H locs → lv_has ls 3 [(0, .ref (g.2.1 c0)), (1, .int x1), (2, .int x2)] → ∀ (ex : (St) ⊕ (Bool × St)), f_X_leavesWhatIsSeen_l2 n c0 x1 x2 σ = some ex → (∀ (y : St), ex = Sum.inl y → ∀ (H : Heap) (locs : List Loc) (ls : Array Slot), HW BX g A s y H locs → lv_has ls 3 [] → W p l e (rmL 7) s m args below meth c H locs 0 0 (MQ below (QZ BX g q A) args s 0 0 A) (F0 m 76 ls [])) → (∀ (z : Bool × St), ex = Sum.inr z → z = q) → W p l e (rmL 7) s m args below meth c H locs 0 0 (MQ below (QZ BX g q A) args s 0 0 A) (F0 m 2 ls []) := by
    intro c0 hc0 x1 n
    induction n with
    | zero =>
      intro x2 σ H locs ls hw hl ex h kx1 kr1
      cases h
    | succ n ih =>
      intro x2 σ H locs ls hw hl ex h kx1 kr1
      rw [f_X_leavesWhatIsSeen_l2] at h
      refine lv_iload_n hx hb d_X_leavesWhatIsSeen_2 rfl (lv_at hl 2 rfl) ?_
      refine lv_aload_n hx hb d_X_leavesWhatIsSeen_3 rfl (lv_at hl 0 rfl) ?_
      refine fg_X_36 C hw hc0 d_X_leavesWhatIsSeen_4 ?_
      refine fg_X_198 C hw tX_76 d_X_leavesWhatIsSeen_7 ?_
      refine lv_icmp_ge (tgt := 76) hx hb d_X_leavesWhatIsSeen_10 (by decide) (fun b2 => ?_) (fun b2 => ?_)
      · replace h := ifp b2 h
        exact kx1 _ (Option.some.inj h).symm H locs ls hw (lv_sub hl [] rfl)
      · replace h := ifn b2 h
        refine lv_aload_n hx hb d_X_leavesWhatIsSeen_13 rfl (lv_at hl 0 rfl) ?_
        refine fg_X_30 C hw hc0 d_X_leavesWhatIsSeen_14 ?_
        refine lv_aload_n hx hb d_X_leavesWhatIsSeen_17 rfl (lv_at hl 0 rfl) ?_
        refine fg_X_23 C hw hc0 d_X_leavesWhatIsSeen_18 ?_
        refine bnd h (fun q3 k4 h => ?_)
        refine clV C hw (invV (As := [.ref (g.2.1 49)]) C hw (c_K_becomes g 67 tX_67 49 tX_49 σ q3 k4 l) rfl wc_X_165 nd_K_becomes ⟨by decide, by decide⟩ (rc_K C hw tX_67) rfl hl.1 rfl (Nat.le_of_ble_eq_true rfl) d_X_leavesWhatIsSeen_21 ⟨Nat.le_refl _, Nat.le_refl _⟩) (fun H locs hw => ?_)
        refine lv_aload_n hx hb d_X_leavesWhatIsSeen_24 rfl (lv_at hl 0 rfl) ?_
        refine fg_X_30 C hw hc0 d_X_leavesWhatIsSeen_25 ?_
        refine lv_aload_n hx hb d_X_leavesWhatIsSeen_28 rfl (lv_at hl 0 rfl) ?_
        refine fg_X_36 C hw hc0 d_X_leavesWhatIsSeen_29 ?_
        refine fg_X_201 C hw tX_76 d_X_leavesWhatIsSeen_32 ?_
        refine lv_iload_n hx hb d_X_leavesWhatIsSeen_35 rfl (lv_at hl 2 rfl) ?_
        refine gde h (fun g5 h => ?_)
        refine ldI (n := 6) C hw (tN_1 tX_76) (by decide) g5 d_X_leavesWhatIsSeen_36 ?_
        refine ste h (fun s7 e12 h => ?_)
        refine fp_X_123 C hw tX_67 d_X_leavesWhatIsSeen_37 (fun H locs hw => ?_)
        replace hw := HWe hw e12
        refine lv_aload_n hx hb d_X_leavesWhatIsSeen_40 rfl (lv_at hl 0 rfl) ?_
        refine fg_X_30 C hw hc0 d_X_leavesWhatIsSeen_41 ?_
        refine lv_iload_n hx hb d_X_leavesWhatIsSeen_44 rfl (lv_at hl 1 rfl) ?_
        refine bnd h (fun q8 k9 h => ?_)
        refine clI C hw (invV (As := [.int x1]) C hw (c_K_taking g 67 tX_67 x1 s7 q8 k9 l) rfl wc_X_159 nd_K_taking ⟨by decide, by decide⟩ (rc_K C hw tX_67) rfl hl.1 rfl (Nat.le_of_ble_eq_true rfl) d_X_leavesWhatIsSeen_45 ⟨Nat.le_refl _, Nat.le_refl _⟩) (fun H locs hw => ?_)
        refine lv_pop hx hb d_X_leavesWhatIsSeen_48 rfl ?_
        refine lv_aload_n hx hb d_X_leavesWhatIsSeen_49 rfl (lv_at hl 0 rfl) ?_
        refine fg_X_30 C hw hc0 d_X_leavesWhatIsSeen_50 ?_
        refine fg_X_123 C hw tX_67 d_X_leavesWhatIsSeen_53 ?_
        refine lv_aload_n hx hb d_X_leavesWhatIsSeen_56 rfl (lv_at hl 0 rfl) ?_
        refine fg_X_36 C hw hc0 d_X_leavesWhatIsSeen_57 ?_
        refine fg_X_204 C hw tX_76 d_X_leavesWhatIsSeen_60 ?_
        refine lv_iload_n hx hb d_X_leavesWhatIsSeen_63 rfl (lv_at hl 2 rfl) ?_
        refine gde h (fun g10 h => ?_)
        refine ldI (n := 6) C hw (tN_2 tX_76) (by decide) g10 d_X_leavesWhatIsSeen_64 ?_
        refine lv_icmp_eq (tgt := 70) hx hb d_X_leavesWhatIsSeen_65 (by decide) (fun b11 => ?_) (fun b11 => ?_)
        · replace h := ifp b11 h
          refine lv_iinc (v := (x2 + 1)) (lv' := [(2, .int (x2 + 1)), (0, .ref (g.2.1 c0)), (1, .int x1)]) hx hb d_X_leavesWhatIsSeen_70 hl (k := 2) rfl rfl (by decide) rfl (fun ls hl => ?_)
          refine lv_goto (tgt := 2) hx hb d_X_leavesWhatIsSeen_73 (by decide) ?_
          exact ih (x2 + 1) q8.2 H locs ls hw (lv_sub hl [1, 2, 0] rfl) ex h kx1 kr1
        · replace h := ifn b11 h
          refine lv_iconst (v := 0) hx hb d_X_leavesWhatIsSeen_68 (by decide) ?_
          exact retZ (b := false) C hw rfl rfl (kr1 _ (Option.some.inj h).symm) d_X_leavesWhatIsSeen_69
  refine bnd h (fun x_13 k14 h => ?_)
  refine L1 c0 hc0 p1 FU 0 σ H locs ls hw (lv_sub hl [1, 2, 0] rfl) x_13 k14 (fun y15 e16 H locs ls hw hl => ?_) (fun z e16 => ?_)
  · rw [e16] at h
    replace h := sel h
    refine lv_iconst (v := 1) hx hb d_X_leavesWhatIsSeen_76 (by decide) ?_
    exact retZ (b := true) C hw rfl rfl (Option.some.inj h) d_X_leavesWhatIsSeen_77
  · rw [e16] at h
    replace h := ser h
    exact Option.some.inj h
def f_X_who_l4 : Nat → Nat → Int32 → Int32 → St → Option (Int32 × St)
  | 0, _, _, _, _ => none
  | n + 1, c0, x1, x2, σ => (if (vI σ 49 0) ≤ x2 then some (x1, σ) else ((f_X_leavesWhatIsSeen c0 x2 σ).bind fun q3 => (if q3.1 = false then (f_X_who_l4 n c0 x1 (x2 + 1) q3.2) else (f_X_who_l4 n c0 (x1 ||| (1 <<< (x2 &&& (31 : Int32)))) (x2 + 1) q3.2))))
def f_X_who (c0 : Nat) (σ : St) : Option (Int32 × St) := ((f_X_who_l4 FU c0 0 0 σ).bind fun x_6 => some (x_6.1, x_6.2))
set_option maxHeartbeats 400000 in
set_option maxRecDepth 20000 in
theorem c_X_who (g : GX) (c0 : Nat) (hc0 : tg BX c0 0) (σ : St) (q : Int32 × St) (h : f_X_who c0 σ = some q) (l : Launch) : CT BX l y_X_who (v_X_who :: lwG) 8 [.ref (g.2.1 c0)] g σ (QI BX g q) := by
  refine mkC (cc := b_X_who) (maxL := 3) (ret := (some .int)) rfl (by decide) rfl (Nat.le_of_ble_eq_true rfl) ?_
  intro p e s m args below meth c A ls C hl hw
  obtain ⟨hx, hb, hr, hml, hown, hts, hK, hE, hA, hlk⟩ := id C
  replace hl : lv_has ls 3 [(0, .ref (g.2.1 c0))] := hl
  obtain ⟨H, hH⟩ : ∃ z, z = s.heap := ⟨_, rfl⟩
  rw [← hH] at hw ⊢
  obtain ⟨locs, hlo⟩ : ∃ z : List Loc, z = [] := ⟨_, rfl⟩
  rw [← hlo] at hw ⊢
  unfold f_X_who at h
  refine lv_iconst (v := 0) hx hb d_X_who_0 (by decide) ?_
  refine lv_istore_n (lv' := [(1, .int 0), (0, .ref (g.2.1 c0))]) hx hb d_X_who_1 rfl hl (by decide) rfl (fun ls hl => ?_)
  refine lv_iconst (v := 0) hx hb d_X_who_2 (by decide) ?_
  refine lv_istore_n (lv' := [(2, .int 0), (1, .int 0), (0, .ref (g.2.1 c0))]) hx hb d_X_who_3 rfl hl (by decide) rfl (fun ls hl => ?_)
  have L1 : ∀ (c0 : Nat) (hc0 : tg BX c0 0) (n : Nat) (x1 : Int32) (x2 : Int32) (σ : St) (H : Heap) (locs : List Loc) (ls : Array Slot), HW BX g A s σ H locs → lv_has ls 3 [(0, .ref (g.2.1 c0)), (1, .int x1), (2, .int x2)] → ∀ (ex : Int32 × St), f_X_who_l4 n c0 x1 x2 σ = some ex → (∀ (y : Int32 × St), ex = y → ∀ (H : Heap) (locs : List Loc) (ls : Array Slot), HW BX g A s y.2 H locs → lv_has ls 3 [(1, .int y.1)] → W p l e (rmL 8) s m args below meth c H locs 0 0 (MQ below (QI BX g q A) args s 0 0 A) (F0 m 35 ls [])) → (True) → W p l e (rmL 8) s m args below meth c H locs 0 0 (MQ below (QI BX g q A) args s 0 0 A) (F0 m 4 ls []) := by
    intro c0 hc0 n
    induction n with
    | zero =>
      intro x1 x2 σ H locs ls hw hl ex h kx1 kr1
      cases h
    | succ n ih =>
      intro x1 x2 σ H locs ls hw hl ex h kx1 kr1
      rw [f_X_who_l4] at h
      refine lv_iload_n hx hb d_X_who_4 rfl (lv_at hl 2 rfl) ?_
      refine lv_aload_n hx hb d_X_who_5 rfl (lv_at hl 0 rfl) ?_
      refine fg_X_23 C hw hc0 d_X_who_6 ?_
      refine fg_X_87 C hw tX_49 d_X_who_9 ?_
      refine lv_icmp_ge (tgt := 35) hx hb d_X_who_12 (by decide) (fun b2 => ?_) (fun b2 => ?_)
      · replace h := ifp b2 h
        exact kx1 _ (Option.some.inj h).symm H locs ls hw (lv_sub hl [1] rfl)
      · replace h := ifn b2 h
        refine lv_aload_n hx hb d_X_who_15 rfl (lv_at hl 0 rfl) ?_
        refine lv_iload_n hx hb d_X_who_16 rfl (lv_at hl 2 rfl) ?_
        refine bnd h (fun q3 k4 h => ?_)
        refine clZ C hw (invV (As := [.int x2]) C hw (c_X_leavesWhatIsSeen g c0 hc0 x2 σ q3 k4 l) rfl wc_X_206 nd_X_leavesWhatIsSeen ⟨by decide, by decide⟩ (rc_X C hw hc0) rfl hl.1 rfl (Nat.le_of_ble_eq_true rfl) d_X_who_17 ⟨Nat.le_refl _, Nat.le_refl _⟩) (fun H locs hw => ?_)
        refine ifB (tgt := 29) C d_X_who_20 (by decide) (fun b5 => ?_) (fun b5 => ?_)
        · replace h := ifp b5 h
          refine lv_iinc (v := (x2 + 1)) (lv' := [(2, .int (x2 + 1)), (0, .ref (g.2.1 c0)), (1, .int x1)]) hx hb d_X_who_29 hl (k := 2) rfl rfl (by decide) rfl (fun ls hl => ?_)
          refine lv_goto (tgt := 4) hx hb d_X_who_32 (by decide) ?_
          exact ih x1 (x2 + 1) q3.2 H locs ls hw (lv_sub hl [1, 2, 0] rfl) ex h kx1 kr1
        · replace h := ifn b5 h
          refine lv_iload_n hx hb d_X_who_23 rfl (lv_at hl 1 rfl) ?_
          refine lv_iconst (v := 1) hx hb d_X_who_24 (by decide) ?_
          refine lv_iload_n hx hb d_X_who_25 rfl (lv_at hl 2 rfl) ?_
          refine lv_ishl hx hb d_X_who_26 ?_
          refine lv_ior hx hb d_X_who_27 ?_
          refine lv_istore_n (lv' := [(1, .int (x1 ||| (1 <<< (x2 &&& (31 : Int32))))), (0, .ref (g.2.1 c0)), (2, .int x2)]) hx hb d_X_who_28 rfl hl (by decide) rfl (fun ls hl => ?_)
          refine lv_iinc (v := (x2 + 1)) (lv' := [(2, .int (x2 + 1)), (1, .int (x1 ||| (1 <<< (x2 &&& (31 : Int32))))), (0, .ref (g.2.1 c0))]) hx hb d_X_who_29 hl (k := 2) rfl rfl (by decide) rfl (fun ls hl => ?_)
          refine lv_goto (tgt := 4) hx hb d_X_who_32 (by decide) ?_
          exact ih (x1 ||| (1 <<< (x2 &&& (31 : Int32)))) (x2 + 1) q3.2 H locs ls hw (lv_sub hl [2, 1, 0] rfl) ex h kx1 kr1
  refine bnd h (fun x_6 k7 h => ?_)
  refine L1 c0 hc0 FU 0 0 σ H locs ls hw (lv_sub hl [2, 1, 0] rfl) x_6 k7 (fun y9 e10 H locs ls hw hl => ?_) trivial
  subst e10
  refine lv_iload_n hx hb d_X_who_35 rfl (lv_at hl 0 rfl) ?_
  exact retI C hw rfl (Option.some.inj h) d_X_who_36
def f_X_lowest_l2 : Nat → Int32 → Int32 → Int32 → Int32 → Option ((Unit) ⊕ (Int64))
  | 0, _, _, _, _ => none
  | n + 1, x0, x1, x2, x3 => (if x3 ≤ 1 then some (Sum.inl ()) else (if x3 = 0 then none else (if (x0 % x3) = 0 then (if x3 = 0 then none else (if (x1 % x3) = 0 then (if x2 = 0 then (if x3 = 0 then none else some (Sum.inr ((x0 / x3)).toInt64)) else (if x3 = 0 then none else some (Sum.inr ((x1 / x3)).toInt64))) else (f_X_lowest_l2 n x0 x1 x2 (x3 + (-1))))) else (f_X_lowest_l2 n x0 x1 x2 (x3 + (-1))))))
def f_X_lowest (p0 : Int32) (p1 : Int32) (p2 : Int32) : Option (Int64) := ((f_X_lowest_l2 FU p0 p1 p2 p1).bind fun x_10 => Sum.elim (fun y12 => (if p2 = 0 then some (p0).toInt64 else some (p1).toInt64)) (fun z => some z) x_10)
set_option maxHeartbeats 400000 in
set_option maxRecDepth 20000 in
theorem c_X_lowest (g : GX) (p0 : Int32) (p1 : Int32) (p2 : Int32) (σ : St) (q : Int64) (h : f_X_lowest p0 p1 p2 = some q) (l : Launch) : CT BX l y_X_lowest (v_X_lowest :: lwG) 1 [.int p0, .int p1, .int p2] g σ (QL BX g (q, σ)) := by
  refine mkC (cc := b_X_lowest) (maxL := 4) (ret := (some .long)) rfl (by decide) rfl (Nat.le_of_ble_eq_true rfl) ?_
  intro p e s m args below meth c A ls C hl hw
  obtain ⟨hx, hb, hr, hml, hown, hts, hK, hE, hA, hlk⟩ := id C
  replace hl : lv_has ls 4 [(0, .int p0), (1, .int p1), (2, .int p2)] := hl
  obtain ⟨H, hH⟩ : ∃ z, z = s.heap := ⟨_, rfl⟩
  rw [← hH] at hw ⊢
  obtain ⟨locs, hlo⟩ : ∃ z : List Loc, z = [] := ⟨_, rfl⟩
  rw [← hlo] at hw ⊢
  unfold f_X_lowest at h
  refine lv_iload_n hx hb d_X_lowest_0 rfl (lv_at hl 1 rfl) ?_
  refine lv_istore_n (lv' := [(3, .int p1), (0, .int p0), (1, .int p1), (2, .int p2)]) hx hb d_X_lowest_1 rfl hl (by decide) rfl (fun ls hl => ?_)
  have L1 : ∀ (x0 : Int32) (x1 : Int32) (x2 : Int32) (n : Nat) (x3 : Int32) (σ : St) (H : Heap) (locs : List Loc) (ls : Array Slot), HW BX g A s σ H locs → lv_has ls 4 [(0, .int x0), (1, .int x1), (2, .int x2), (3, .int x3)] → ∀ (ex : (Unit) ⊕ (Int64)), f_X_lowest_l2 n x0 x1 x2 x3 = some ex → (∀ (y : Unit), ex = Sum.inl y → ∀ (H : Heap) (locs : List Loc) (ls : Array Slot), HW BX g A s σ H locs → lv_has ls 4 [(0, .int x0), (1, .int x1), (2, .int x2)] → W p l e (rmL 1) s m args below meth c H locs 0 0 (MQ below (QL BX g (q, σ) A) args s 0 0 A) (F0 m 41 ls [])) → (∀ (z : Int64), ex = Sum.inr z → z = q) → W p l e (rmL 1) s m args below meth c H locs 0 0 (MQ below (QL BX g (q, σ) A) args s 0 0 A) (F0 m 2 ls []) := by
    intro x0 x1 x2 n
    induction n with
    | zero =>
      intro x3 σ H locs ls hw hl ex h kx1 kr1
      cases h
    | succ n ih =>
      intro x3 σ H locs ls hw hl ex h kx1 kr1
      rw [f_X_lowest_l2] at h
      refine lv_iload_n hx hb d_X_lowest_2 rfl (lv_at hl 3 rfl) ?_
      refine lv_iconst (v := 1) hx hb d_X_lowest_3 (by decide) ?_
      refine lv_icmp_le (tgt := 41) hx hb d_X_lowest_4 (by decide) (fun b2 => ?_) (fun b2 => ?_)
      · replace h := ifp b2 h
        exact kx1 _ (Option.some.inj h).symm H locs ls hw (lv_sub hl [0, 1, 2] rfl)
      · replace h := ifn b2 h
        refine lv_iload_n hx hb d_X_lowest_7 rfl (lv_at hl 0 rfl) ?_
        refine lv_iload_n hx hb d_X_lowest_8 rfl (lv_at hl 3 rfl) ?_
        refine gdz h (fun g3 h => ?_)
        refine remR C g3 d_X_lowest_9 ?_
        refine lv_if_ne (tgt := 35) hx hb d_X_lowest_10 (by decide) (fun b4 => ?_) (fun b4 => ?_)
        · replace h := ifn b4 h
          refine lv_iinc (v := (x3 + (-1))) (lv' := [(3, .int (x3 + (-1))), (0, .int x0), (1, .int x1), (2, .int x2)]) hx hb d_X_lowest_35 hl (k := 3) rfl rfl (by decide) rfl (fun ls hl => ?_)
          refine lv_goto (tgt := 2) hx hb d_X_lowest_38 (by decide) ?_
          exact ih (x3 + (-1)) σ H locs ls hw (lv_sub hl [1, 2, 3, 0] rfl) ex h kx1 kr1
        · replace h := ifp b4 h
          refine lv_iload_n hx hb d_X_lowest_13 rfl (lv_at hl 1 rfl) ?_
          refine lv_iload_n hx hb d_X_lowest_14 rfl (lv_at hl 3 rfl) ?_
          refine gdz h (fun g5 h => ?_)
          refine remR C g5 d_X_lowest_15 ?_
          refine lv_if_ne (tgt := 35) hx hb d_X_lowest_16 (by decide) (fun b6 => ?_) (fun b6 => ?_)
          · replace h := ifn b6 h
            refine lv_iinc (v := (x3 + (-1))) (lv' := [(3, .int (x3 + (-1))), (0, .int x0), (1, .int x1), (2, .int x2)]) hx hb d_X_lowest_35 hl (k := 3) rfl rfl (by decide) rfl (fun ls hl => ?_)
            refine lv_goto (tgt := 2) hx hb d_X_lowest_38 (by decide) ?_
            exact ih (x3 + (-1)) σ H locs ls hw (lv_sub hl [1, 2, 3, 0] rfl) ex h kx1 kr1
          · replace h := ifp b6 h
            refine lv_iload_n hx hb d_X_lowest_19 rfl (lv_at hl 2 rfl) ?_
            refine lv_if_ne (tgt := 30) hx hb d_X_lowest_20 (by decide) (fun b7 => ?_) (fun b7 => ?_)
            · replace h := ifn b7 h
              refine lv_iload_n hx hb d_X_lowest_30 rfl (lv_at hl 1 rfl) ?_
              refine lv_iload_n hx hb d_X_lowest_31 rfl (lv_at hl 3 rfl) ?_
              refine gdz h (fun g8 h => ?_)
              refine lv_idiv hx hb d_X_lowest_32 g8 ?_
              refine lv_i2l hx hb d_X_lowest_33 rfl ?_
              exact retL C hw rfl (congrArg (fun z => (z, σ)) (kr1 _ (Option.some.inj h).symm)) d_X_lowest_34
            · replace h := ifp b7 h
              refine lv_iload_n hx hb d_X_lowest_23 rfl (lv_at hl 0 rfl) ?_
              refine lv_iload_n hx hb d_X_lowest_24 rfl (lv_at hl 3 rfl) ?_
              refine gdz h (fun g9 h => ?_)
              refine lv_idiv hx hb d_X_lowest_25 g9 ?_
              refine lv_i2l hx hb d_X_lowest_26 rfl ?_
              refine lv_goto (tgt := 34) hx hb d_X_lowest_27 (by decide) ?_
              exact retL C hw rfl (congrArg (fun z => (z, σ)) (kr1 _ (Option.some.inj h).symm)) d_X_lowest_34
  refine bnd h (fun x_10 k11 h => ?_)
  refine L1 p0 p1 p2 FU p1 σ H locs ls hw (lv_sub hl [1, 2, 3, 0] rfl) x_10 k11 (fun y12 e14 H locs ls hw hl => ?_) (fun z e14 => ?_)
  · rw [e14] at h
    replace h := sel h
    refine lv_iload_n hx hb d_X_lowest_41 rfl (lv_at hl 2 rfl) ?_
    refine lv_if_ne (tgt := 50) hx hb d_X_lowest_42 (by decide) (fun b13 => ?_) (fun b13 => ?_)
    · replace h := ifn b13 h
      refine lv_iload_n hx hb d_X_lowest_50 rfl (lv_at hl 1 rfl) ?_
      refine lv_i2l hx hb d_X_lowest_51 rfl ?_
      exact retL C hw rfl (congrArg (fun z => (z, σ)) (Option.some.inj h)) d_X_lowest_52
    · replace h := ifp b13 h
      refine lv_iload_n hx hb d_X_lowest_45 rfl (lv_at hl 0 rfl) ?_
      refine lv_i2l hx hb d_X_lowest_46 rfl ?_
      refine lv_goto (tgt := 52) hx hb d_X_lowest_47 (by decide) ?_
      exact retL C hw rfl (congrArg (fun z => (z, σ)) (Option.some.inj h)) d_X_lowest_52
  · rw [e14] at h
    replace h := ser h
    exact Option.some.inj h
def f_X_odds_l37 : Nat → Nat → Int32 → Int32 → Int32 → Int32 → Int32 → St → Option (Int32 × St)
  | 0, _, _, _, _, _, _, _ => none
  | n + 1, c0, x1, x2, x3, x4, x5, σ => (if (vI σ 49 0) ≤ x5 then some (x4, σ) else ((f_K_becomes 67 49 σ).bind fun q6 => ((f_K_go 67 x2 x5 (-1) q6).bind fun q8 => ((f_X_fetchesMore c0 x1 q8.2).bind fun q10 => (if q10 ≤ 0 then (f_X_odds_l37 n c0 x1 x2 x3 x4 (x5 + 1) q8.2) else (f_X_odds_l37 n c0 x1 x2 x3 (x4 + 1) (x5 + 1) q8.2))))))
def f_X_odds (c0 : Nat) (p1 : Int32) (p2 : Int32) (p3 : Int32) (σ : St) : Option (Int64 × St) := (if (f_X_isTaker c0 p1 σ) = false then some ((-9223372036854775808), σ) else (if (f_X_inside p2 0 30) = false then some ((-9223372036854775808), σ) else (if (f_X_inside p3 0 1) = false then some ((-9223372036854775808), σ) else ((f_X_odds_l37 FU c0 p1 p2 p3 0 0 σ).bind fun x_13 => ((f_X_lowest x_13.1 (vI x_13.2 49 0) p3).bind fun q16 => some (q16, x_13.2))))))
set_option maxHeartbeats 400000 in
set_option maxRecDepth 20000 in
theorem c_X_odds (g : GX) (c0 : Nat) (hc0 : tg BX c0 0) (p1 : Int32) (p2 : Int32) (p3 : Int32) (σ : St) (q : Int64 × St) (h : f_X_odds c0 p1 p2 p3 σ = some q) (l : Launch) : CT BX l y_X_odds (v_X_odds :: lwG) 8 [.ref (g.2.1 c0), .int p1, .int p2, .int p3] g σ (QL BX g q) := by
  refine mkC (cc := b_X_odds) (maxL := 6) (ret := (some .long)) rfl (by decide) rfl (Nat.le_of_ble_eq_true rfl) ?_
  intro p e s m args below meth c A ls C hl hw
  obtain ⟨hx, hb, hr, hml, hown, hts, hK, hE, hA, hlk⟩ := id C
  replace hl : lv_has ls 6 [(0, .ref (g.2.1 c0)), (1, .int p1), (2, .int p2), (3, .int p3)] := hl
  obtain ⟨H, hH⟩ : ∃ z, z = s.heap := ⟨_, rfl⟩
  rw [← hH] at hw ⊢
  obtain ⟨locs, hlo⟩ : ∃ z : List Loc, z = [] := ⟨_, rfl⟩
  rw [← hlo] at hw ⊢
  unfold f_X_odds at h
  refine lv_aload_n hx hb d_X_odds_0 rfl (lv_at hl 0 rfl) ?_
  refine lv_iload_n hx hb d_X_odds_1 rfl (lv_at hl 1 rfl) ?_
  refine clZ0 (v := (f_X_isTaker c0 p1 σ)) C hw (invV (As := [.int p1]) C hw (c_X_isTaker g c0 hc0 p1 σ l) rfl wc_X_94 nd_X_isTaker ⟨by decide, by decide⟩ (rc_X C hw hc0) rfl hl.1 rfl (Nat.le_of_ble_eq_true rfl) d_X_odds_2 ⟨Nat.le_refl _, Nat.le_refl _⟩) (fun H locs hw => ?_)
  refine ifB (tgt := 27) C d_X_odds_5 (by decide) (fun b1 => ?_) (fun b1 => ?_)
  · replace h := ifp b1 h
    refine lv_ldc2 (v := (-9223372036854775808)) hx hb hown (hts _ (inG 642 (by decide +kernel) (by decide +kernel))) d_X_odds_27 ?_
    exact retL C hw rfl (Option.some.inj h) d_X_odds_30
  · replace h := ifn b1 h
    refine lv_iload_n hx hb d_X_odds_8 rfl (lv_at hl 2 rfl) ?_
    refine lv_iconst (v := 0) hx hb d_X_odds_9 (by decide) ?_
    refine lv_bipush (v := 30) hx hb d_X_odds_10 (by decide) ?_
    refine clZ0 (v := (f_X_inside p2 0 30)) C hw (invS (As := [.int p2, .int 0, .int 30]) C hw (c_X_inside g p2 0 30 σ l) rfl wc_X_83 nd_X_inside.2 ⟨by decide, by decide⟩ rfl hl.1 rfl (Nat.le_of_ble_eq_true rfl) d_X_odds_12 ⟨Nat.le_refl _, Nat.le_refl _⟩) (fun H locs hw => ?_)
    refine ifB (tgt := 27) C d_X_odds_15 (by decide) (fun b2 => ?_) (fun b2 => ?_)
    · replace h := ifp b2 h
      refine lv_ldc2 (v := (-9223372036854775808)) hx hb hown (hts _ (inG 642 (by decide +kernel) (by decide +kernel))) d_X_odds_27 ?_
      exact retL C hw rfl (Option.some.inj h) d_X_odds_30
    · replace h := ifn b2 h
      refine lv_iload_n hx hb d_X_odds_18 rfl (lv_at hl 3 rfl) ?_
      refine lv_iconst (v := 0) hx hb d_X_odds_19 (by decide) ?_
      refine lv_iconst (v := 1) hx hb d_X_odds_20 (by decide) ?_
      refine clZ0 (v := (f_X_inside p3 0 1)) C hw (invS (As := [.int p3, .int 0, .int 1]) C hw (c_X_inside g p3 0 1 σ l) rfl wc_X_83 nd_X_inside.2 ⟨by decide, by decide⟩ rfl hl.1 rfl (Nat.le_of_ble_eq_true rfl) d_X_odds_21 ⟨Nat.le_refl _, Nat.le_refl _⟩) (fun H locs hw => ?_)
      refine ifnB (tgt := 31) C d_X_odds_24 (by decide) (fun b3 => ?_) (fun b3 => ?_)
      · replace h := ifn b3 h
        refine lv_iconst (v := 0) hx hb d_X_odds_31 (by decide) ?_
        refine lv_istore (lv' := [(4, .int 0), (0, .ref (g.2.1 c0)), (1, .int p1), (2, .int p2), (3, .int p3)]) hx hb d_X_odds_32 hl (by decide) rfl (fun ls hl => ?_)
        refine lv_iconst (v := 0) hx hb d_X_odds_34 (by decide) ?_
        refine lv_istore (lv' := [(5, .int 0), (4, .int 0), (0, .ref (g.2.1 c0)), (1, .int p1), (2, .int p2), (3, .int p3)]) hx hb d_X_odds_35 hl (by decide) rfl (fun ls hl => ?_)
        have L4 : ∀ (c0 : Nat) (hc0 : tg BX c0 0) (x1 : Int32) (x2 : Int32) (x3 : Int32) (n : Nat) (x4 : Int32) (x5 : Int32) (σ : St) (H : Heap) (locs : List Loc) (ls : Array Slot), HW BX g A s σ H locs → lv_has ls 6 [(0, .ref (g.2.1 c0)), (1, .int x1), (2, .int x2), (3, .int x3), (4, .int x4), (5, .int x5)] → ∀ (ex : Int32 × St), f_X_odds_l37 n c0 x1 x2 x3 x4 x5 σ = some ex → (∀ (y : Int32 × St), ex = y → ∀ (H : Heap) (locs : List Loc) (ls : Array Slot), HW BX g A s y.2 H locs → lv_has ls 6 [(0, .ref (g.2.1 c0)), (3, .int x3), (4, .int y.1)] → W p l e (rmL 8) s m args below meth c H locs 0 0 (MQ below (QL BX g q A) args s 0 0 A) (F0 m 89 ls [])) → (True) → W p l e (rmL 8) s m args below meth c H locs 0 0 (MQ below (QL BX g q A) args s 0 0 A) (F0 m 37 ls []) := by
          intro c0 hc0 x1 x2 x3 n
          induction n with
          | zero =>
            intro x4 x5 σ H locs ls hw hl ex h kx4 kr4
            cases h
          | succ n ih =>
            intro x4 x5 σ H locs ls hw hl ex h kx4 kr4
            rw [f_X_odds_l37] at h
            refine lv_iload hx hb d_X_odds_37 (lv_at hl 5 rfl) ?_
            refine lv_aload_n hx hb d_X_odds_39 rfl (lv_at hl 0 rfl) ?_
            refine fg_X_23 C hw hc0 d_X_odds_40 ?_
            refine fg_X_87 C hw tX_49 d_X_odds_43 ?_
            refine lv_icmp_ge (tgt := 89) hx hb d_X_odds_46 (by decide) (fun b5 => ?_) (fun b5 => ?_)
            · replace h := ifp b5 h
              exact kx4 _ (Option.some.inj h).symm H locs ls hw (lv_sub hl [0, 3, 4] rfl)
            · replace h := ifn b5 h
              refine lv_aload_n hx hb d_X_odds_49 rfl (lv_at hl 0 rfl) ?_
              refine fg_X_30 C hw hc0 d_X_odds_50 ?_
              refine lv_aload_n hx hb d_X_odds_53 rfl (lv_at hl 0 rfl) ?_
              refine fg_X_23 C hw hc0 d_X_odds_54 ?_
              refine bnd h (fun q6 k7 h => ?_)
              refine clV C hw (invV (As := [.ref (g.2.1 49)]) C hw (c_K_becomes g 67 tX_67 49 tX_49 σ q6 k7 l) rfl wc_X_165 nd_K_becomes ⟨by decide, by decide⟩ (rc_K C hw tX_67) rfl hl.1 rfl (Nat.le_of_ble_eq_true rfl) d_X_odds_57 ⟨Nat.le_refl _, Nat.le_refl _⟩) (fun H locs hw => ?_)
              refine lv_aload_n hx hb d_X_odds_60 rfl (lv_at hl 0 rfl) ?_
              refine fg_X_30 C hw hc0 d_X_odds_61 ?_
              refine lv_iload_n hx hb d_X_odds_64 rfl (lv_at hl 2 rfl) ?_
              refine lv_iload hx hb d_X_odds_65 (lv_at hl 5 rfl) ?_
              refine lv_iconst (v := (-1)) hx hb d_X_odds_67 (by decide) ?_
              refine bnd h (fun q8 k9 h => ?_)
              refine clI C hw (invV (As := [.int x2, .int x5, .int (-1)]) C hw (c_K_go g 67 tX_67 x2 x5 (-1) q6 q8 k9 l) rfl wc_X_162 nd_K_go ⟨by decide, by decide⟩ (rc_K C hw tX_67) rfl hl.1 rfl (Nat.le_of_ble_eq_true rfl) d_X_odds_68 ⟨Nat.le_refl _, Nat.le_refl _⟩) (fun H locs hw => ?_)
              refine lv_pop hx hb d_X_odds_71 rfl ?_
              refine lv_aload_n hx hb d_X_odds_72 rfl (lv_at hl 0 rfl) ?_
              refine lv_iload_n hx hb d_X_odds_73 rfl (lv_at hl 1 rfl) ?_
              refine bnd h (fun q10 k11 h => ?_)
              refine clI0 (v := q10) C hw (invV (As := [.int x1]) C hw (c_X_fetchesMore g c0 hc0 x1 q8.2 q10 k11 l) rfl wc_X_172 nd_X_fetchesMore ⟨by decide, by decide⟩ (rc_X C hw hc0) rfl hl.1 rfl (Nat.le_of_ble_eq_true rfl) d_X_odds_74 ⟨Nat.le_refl _, Nat.le_refl _⟩) (fun H locs hw => ?_)
              refine lv_if_le (tgt := 83) hx hb d_X_odds_77 (by decide) (fun b12 => ?_) (fun b12 => ?_)
              · replace h := ifp b12 h
                refine lv_iinc (v := (x5 + 1)) (lv' := [(5, .int (x5 + 1)), (0, .ref (g.2.1 c0)), (1, .int x1), (2, .int x2), (3, .int x3), (4, .int x4)]) hx hb d_X_odds_83 hl (k := 5) rfl rfl (by decide) rfl (fun ls hl => ?_)
                refine lv_goto (tgt := 37) hx hb d_X_odds_86 (by decide) ?_
                exact ih x4 (x5 + 1) q8.2 H locs ls hw (lv_sub hl [1, 2, 3, 4, 5, 0] rfl) ex h kx4 kr4
              · replace h := ifn b12 h
                refine lv_iinc (v := (x4 + 1)) (lv' := [(4, .int (x4 + 1)), (0, .ref (g.2.1 c0)), (1, .int x1), (2, .int x2), (3, .int x3), (5, .int x5)]) hx hb d_X_odds_80 hl (k := 4) rfl rfl (by decide) rfl (fun ls hl => ?_)
                refine lv_iinc (v := (x5 + 1)) (lv' := [(5, .int (x5 + 1)), (4, .int (x4 + 1)), (0, .ref (g.2.1 c0)), (1, .int x1), (2, .int x2), (3, .int x3)]) hx hb d_X_odds_83 hl (k := 5) rfl rfl (by decide) rfl (fun ls hl => ?_)
                refine lv_goto (tgt := 37) hx hb d_X_odds_86 (by decide) ?_
                exact ih (x4 + 1) (x5 + 1) q8.2 H locs ls hw (lv_sub hl [2, 3, 4, 5, 1, 0] rfl) ex h kx4 kr4
        refine bnd h (fun x_13 k14 h => ?_)
        refine L4 c0 hc0 p1 p2 p3 FU 0 0 σ H locs ls hw (lv_sub hl [2, 3, 4, 5, 1, 0] rfl) x_13 k14 (fun y18 e19 H locs ls hw hl => ?_) trivial
        subst e19
        refine lv_iload hx hb d_X_odds_89 (lv_at hl 2 rfl) ?_
        refine lv_aload_n hx hb d_X_odds_91 rfl (lv_at hl 0 rfl) ?_
        refine fg_X_23 C hw hc0 d_X_odds_92 ?_
        refine fg_X_87 C hw tX_49 d_X_odds_95 ?_
        refine lv_iload_n hx hb d_X_odds_98 rfl (lv_at hl 1 rfl) ?_
        refine bnd h (fun q16 k17 h => ?_)
        refine clL0 (v := q16) C hw (invS (As := [.int x_13.1, .int (vI x_13.2 49 0), .int p3]) C hw (c_X_lowest g x_13.1 (vI x_13.2 49 0) p3 x_13.2 q16 k17 l) rfl wc_X_211 nd_X_lowest.2 ⟨by decide, by decide⟩ rfl hl.1 rfl (Nat.le_of_ble_eq_true rfl) d_X_odds_99 ⟨Nat.le_refl _, Nat.le_refl _⟩) (fun H locs hw => ?_)
        exact retL C hw rfl (Option.some.inj h) d_X_odds_102
      · replace h := ifp b3 h
        refine lv_ldc2 (v := (-9223372036854775808)) hx hb hown (hts _ (inG 642 (by decide +kernel) (by decide +kernel))) d_X_odds_27 ?_
        exact retL C hw rfl (Option.some.inj h) d_X_odds_30
def f_X_mean_l39 : Nat → Nat → Int32 → Int32 → Int32 → Int32 → St → Option (Int32 × St)
  | 0, _, _, _, _, _, _ => none
  | n + 1, c0, x1, x2, x3, x4, σ => (if x1 ≤ x4 then some (x3, σ) else ((f_K_go 67 1 (-1) (-1) σ).bind fun q7 => (f_X_mean_l39 n c0 x1 x2 (x3 + (vI q7.2 67 8)) (x4 + 1) q7.2)))
def f_X_mean (c0 : Nat) (p1 : Int32) (p2 : Int32) (σ : St) : Option (Int64 × St) := (if (f_X_inside p1 1 60) = false then some ((-9223372036854775808), σ) else (if (f_X_inside p2 0 1) = false then some ((-9223372036854775808), σ) else ((f_K_becomes 67 49 σ).bind fun q3 => ((f_X_mean_l39 FU c0 p1 p2 0 0 q3).bind fun x_9 => ((f_X_lowest x_9.1 p1 p2).bind fun q12 => some (q12, x_9.2))))))
set_option maxHeartbeats 400000 in
set_option maxRecDepth 20000 in
theorem c_X_mean (g : GX) (c0 : Nat) (hc0 : tg BX c0 0) (p1 : Int32) (p2 : Int32) (σ : St) (q : Int64 × St) (h : f_X_mean c0 p1 p2 σ = some q) (l : Launch) : CT BX l y_X_mean (v_X_mean :: lwG) 8 [.ref (g.2.1 c0), .int p1, .int p2] g σ (QL BX g q) := by
  refine mkC (cc := b_X_mean) (maxL := 5) (ret := (some .long)) rfl (by decide) rfl (Nat.le_of_ble_eq_true rfl) ?_
  intro p e s m args below meth c A ls C hl hw
  obtain ⟨hx, hb, hr, hml, hown, hts, hK, hE, hA, hlk⟩ := id C
  replace hl : lv_has ls 5 [(0, .ref (g.2.1 c0)), (1, .int p1), (2, .int p2)] := hl
  obtain ⟨H, hH⟩ : ∃ z, z = s.heap := ⟨_, rfl⟩
  rw [← hH] at hw ⊢
  obtain ⟨locs, hlo⟩ : ∃ z : List Loc, z = [] := ⟨_, rfl⟩
  rw [← hlo] at hw ⊢
  unfold f_X_mean at h
  refine lv_iload_n hx hb d_X_mean_0 rfl (lv_at hl 1 rfl) ?_
  refine lv_iconst (v := 1) hx hb d_X_mean_1 (by decide) ?_
  refine lv_bipush (v := 60) hx hb d_X_mean_2 (by decide) ?_
  refine clZ0 (v := (f_X_inside p1 1 60)) C hw (invS (As := [.int p1, .int 1, .int 60]) C hw (c_X_inside g p1 1 60 σ l) rfl wc_X_83 nd_X_inside.2 ⟨by decide, by decide⟩ rfl hl.1 rfl (Nat.le_of_ble_eq_true rfl) d_X_mean_4 ⟨Nat.le_refl _, Nat.le_refl _⟩) (fun H locs hw => ?_)
  refine ifB (tgt := 19) C d_X_mean_7 (by decide) (fun b1 => ?_) (fun b1 => ?_)
  · replace h := ifp b1 h
    refine lv_ldc2 (v := (-9223372036854775808)) hx hb hown (hts _ (inG 642 (by decide +kernel) (by decide +kernel))) d_X_mean_19 ?_
    exact retL C hw rfl (Option.some.inj h) d_X_mean_22
  · replace h := ifn b1 h
    refine lv_iload_n hx hb d_X_mean_10 rfl (lv_at hl 2 rfl) ?_
    refine lv_iconst (v := 0) hx hb d_X_mean_11 (by decide) ?_
    refine lv_iconst (v := 1) hx hb d_X_mean_12 (by decide) ?_
    refine clZ0 (v := (f_X_inside p2 0 1)) C hw (invS (As := [.int p2, .int 0, .int 1]) C hw (c_X_inside g p2 0 1 σ l) rfl wc_X_83 nd_X_inside.2 ⟨by decide, by decide⟩ rfl hl.1 rfl (Nat.le_of_ble_eq_true rfl) d_X_mean_13 ⟨Nat.le_refl _, Nat.le_refl _⟩) (fun H locs hw => ?_)
    refine ifnB (tgt := 23) C d_X_mean_16 (by decide) (fun b2 => ?_) (fun b2 => ?_)
    · replace h := ifn b2 h
      refine lv_aload_n hx hb d_X_mean_23 rfl (lv_at hl 0 rfl) ?_
      refine fg_X_30 C hw hc0 d_X_mean_24 ?_
      refine lv_aload_n hx hb d_X_mean_27 rfl (lv_at hl 0 rfl) ?_
      refine fg_X_23 C hw hc0 d_X_mean_28 ?_
      refine bnd h (fun q3 k4 h => ?_)
      refine clV C hw (invV (As := [.ref (g.2.1 49)]) C hw (c_K_becomes g 67 tX_67 49 tX_49 σ q3 k4 l) rfl wc_X_165 nd_K_becomes ⟨by decide, by decide⟩ (rc_K C hw tX_67) rfl hl.1 rfl (Nat.le_of_ble_eq_true rfl) d_X_mean_31 ⟨Nat.le_refl _, Nat.le_refl _⟩) (fun H locs hw => ?_)
      refine lv_iconst (v := 0) hx hb d_X_mean_34 (by decide) ?_
      refine lv_istore_n (lv' := [(3, .int 0), (0, .ref (g.2.1 c0)), (1, .int p1), (2, .int p2)]) hx hb d_X_mean_35 rfl hl (by decide) rfl (fun ls hl => ?_)
      refine lv_iconst (v := 0) hx hb d_X_mean_36 (by decide) ?_
      refine lv_istore (lv' := [(4, .int 0), (3, .int 0), (0, .ref (g.2.1 c0)), (1, .int p1), (2, .int p2)]) hx hb d_X_mean_37 hl (by decide) rfl (fun ls hl => ?_)
      have L5 : ∀ (c0 : Nat) (hc0 : tg BX c0 0) (x1 : Int32) (x2 : Int32) (n : Nat) (x3 : Int32) (x4 : Int32) (σ : St) (H : Heap) (locs : List Loc) (ls : Array Slot), HW BX g A s σ H locs → lv_has ls 5 [(0, .ref (g.2.1 c0)), (1, .int x1), (2, .int x2), (3, .int x3), (4, .int x4)] → ∀ (ex : Int32 × St), f_X_mean_l39 n c0 x1 x2 x3 x4 σ = some ex → (∀ (y : Int32 × St), ex = y → ∀ (H : Heap) (locs : List Loc) (ls : Array Slot), HW BX g A s y.2 H locs → lv_has ls 5 [(1, .int x1), (2, .int x2), (3, .int y.1)] → W p l e (rmL 8) s m args below meth c H locs 0 0 (MQ below (QL BX g q A) args s 0 0 A) (F0 m 72 ls [])) → (True) → W p l e (rmL 8) s m args below meth c H locs 0 0 (MQ below (QL BX g q A) args s 0 0 A) (F0 m 39 ls []) := by
        intro c0 hc0 x1 x2 n
        induction n with
        | zero =>
          intro x3 x4 σ H locs ls hw hl ex h kx5 kr5
          cases h
        | succ n ih =>
          intro x3 x4 σ H locs ls hw hl ex h kx5 kr5
          rw [f_X_mean_l39] at h
          refine lv_iload hx hb d_X_mean_39 (lv_at hl 4 rfl) ?_
          refine lv_iload_n hx hb d_X_mean_41 rfl (lv_at hl 1 rfl) ?_
          refine lv_icmp_ge (tgt := 72) hx hb d_X_mean_42 (by decide) (fun b6 => ?_) (fun b6 => ?_)
          · replace h := ifp b6 h
            exact kx5 _ (Option.some.inj h).symm H locs ls hw (lv_sub hl [1, 2, 3] rfl)
          · replace h := ifn b6 h
            refine lv_aload_n hx hb d_X_mean_45 rfl (lv_at hl 0 rfl) ?_
            refine fg_X_30 C hw hc0 d_X_mean_46 ?_
            refine lv_iconst (v := 1) hx hb d_X_mean_49 (by decide) ?_
            refine lv_iconst (v := (-1)) hx hb d_X_mean_50 (by decide) ?_
            refine lv_iconst (v := (-1)) hx hb d_X_mean_51 (by decide) ?_
            refine bnd h (fun q7 k8 h => ?_)
            refine clI C hw (invV (As := [.int 1, .int (-1), .int (-1)]) C hw (c_K_go g 67 tX_67 1 (-1) (-1) σ q7 k8 l) rfl wc_X_162 nd_K_go ⟨by decide, by decide⟩ (rc_K C hw tX_67) rfl hl.1 rfl (Nat.le_of_ble_eq_true rfl) d_X_mean_52 ⟨Nat.le_refl _, Nat.le_refl _⟩) (fun H locs hw => ?_)
            refine lv_pop hx hb d_X_mean_55 rfl ?_
            refine lv_iload_n hx hb d_X_mean_56 rfl (lv_at hl 3 rfl) ?_
            refine lv_aload_n hx hb d_X_mean_57 rfl (lv_at hl 0 rfl) ?_
            refine fg_X_30 C hw hc0 d_X_mean_58 ?_
            refine fg_X_123 C hw tX_67 d_X_mean_61 ?_
            refine lv_iadd hx hb d_X_mean_64 ?_
            refine lv_istore_n (lv' := [(3, .int (x3 + (vI q7.2 67 8))), (0, .ref (g.2.1 c0)), (1, .int x1), (2, .int x2), (4, .int x4)]) hx hb d_X_mean_65 rfl hl (by decide) rfl (fun ls hl => ?_)
            refine lv_iinc (v := (x4 + 1)) (lv' := [(4, .int (x4 + 1)), (3, .int (x3 + (vI q7.2 67 8))), (0, .ref (g.2.1 c0)), (1, .int x1), (2, .int x2)]) hx hb d_X_mean_66 hl (k := 4) rfl rfl (by decide) rfl (fun ls hl => ?_)
            refine lv_goto (tgt := 39) hx hb d_X_mean_69 (by decide) ?_
            exact ih (x3 + (vI q7.2 67 8)) (x4 + 1) q7.2 H locs ls hw (lv_sub hl [2, 3, 4, 1, 0] rfl) ex h kx5 kr5
      refine bnd h (fun x_9 k10 h => ?_)
      refine L5 c0 hc0 p1 p2 FU 0 0 q3 H locs ls hw (lv_sub hl [2, 3, 4, 1, 0] rfl) x_9 k10 (fun y14 e15 H locs ls hw hl => ?_) trivial
      subst e15
      refine lv_iload_n hx hb d_X_mean_72 rfl (lv_at hl 2 rfl) ?_
      refine lv_iload_n hx hb d_X_mean_73 rfl (lv_at hl 0 rfl) ?_
      refine lv_iload_n hx hb d_X_mean_74 rfl (lv_at hl 1 rfl) ?_
      refine bnd h (fun q12 k13 h => ?_)
      refine clL0 (v := q12) C hw (invS (As := [.int x_9.1, .int p1, .int p2]) C hw (c_X_lowest g x_9.1 p1 p2 x_9.2 q12 k13 l) rfl wc_X_211 nd_X_lowest.2 ⟨by decide, by decide⟩ rfl hl.1 rfl (Nat.le_of_ble_eq_true rfl) d_X_mean_75 ⟨Nat.le_refl _, Nat.le_refl _⟩) (fun H locs hw => ?_)
      exact retL C hw rfl (Option.some.inj h) d_X_mean_78
    · replace h := ifp b2 h
      refine lv_ldc2 (v := (-9223372036854775808)) hx hb hown (hts _ (inG 642 (by decide +kernel) (by decide +kernel))) d_X_mean_19 ?_
      exact retL C hw rfl (Option.some.inj h) d_X_mean_22
def f_X_book (c0 : Nat) (p1 : Int32) (σ : St) : Option (Int32 × St) := (if p1 = (-1) then (st (sI σ 76 3 0) fun s11 => some (0, s11)) else (if (f_X_inside p1 0 999) = false then some ((-2), σ) else (if (vI σ 76 3) < 12 then (if ok (vI σ 76 3) 12 = true then (st (sJ σ (76 + 3) (upd (vJ σ (76 + 3)) (nx (vI σ 76 3)) p1)) fun s5 => (st (sI s5 76 3 ((vI s5 76 3) + 1)) fun s7 => some ((vI s7 76 3), s7))) else none) else some ((-4), σ))))
set_option maxHeartbeats 400000 in
set_option maxRecDepth 20000 in
theorem c_X_book (g : GX) (c0 : Nat) (hc0 : tg BX c0 0) (p1 : Int32) (σ : St) (q : Int32 × St) (h : f_X_book c0 p1 σ = some q) (l : Launch) : CT BX l y_X_book (v_X_book :: lwG) 2 [.ref (g.2.1 c0), .int p1] g σ (QI BX g q) := by
  refine mkC (cc := b_X_book) (maxL := 2) (ret := (some .int)) rfl (by decide) rfl (Nat.le_of_ble_eq_true rfl) ?_
  intro p e s m args below meth c A ls C hl hw
  obtain ⟨hx, hb, hr, hml, hown, hts, hK, hE, hA, hlk⟩ := id C
  replace hl : lv_has ls 2 [(0, .ref (g.2.1 c0)), (1, .int p1)] := hl
  obtain ⟨H, hH⟩ : ∃ z, z = s.heap := ⟨_, rfl⟩
  rw [← hH] at hw ⊢
  obtain ⟨locs, hlo⟩ : ∃ z : List Loc, z = [] := ⟨_, rfl⟩
  rw [← hlo] at hw ⊢
  unfold f_X_book at h
  refine lv_iload_n hx hb d_X_book_0 rfl (lv_at hl 1 rfl) ?_
  refine lv_iconst (v := (-1)) hx hb d_X_book_1 (by decide) ?_
  refine lv_icmp_ne (tgt := 15) hx hb d_X_book_2 (by decide) (fun b1 => ?_) (fun b1 => ?_)
  · replace h := ifn b1 h
    refine lv_iload_n hx hb d_X_book_15 rfl (lv_at hl 1 rfl) ?_
    refine lv_iconst (v := 0) hx hb d_X_book_16 (by decide) ?_
    refine lv_sipush (v := 999) hx hb d_X_book_17 (by decide) ?_
    refine clZ0 (v := (f_X_inside p1 0 999)) C hw (invS (As := [.int p1, .int 0, .int 999]) C hw (c_X_inside g p1 0 999 σ l) rfl wc_X_83 nd_X_inside.2 ⟨by decide, by decide⟩ rfl hl.1 rfl (Nat.le_of_ble_eq_true rfl) d_X_book_20 ⟨Nat.le_refl _, Nat.le_refl _⟩) (fun H locs hw => ?_)
    refine ifnB (tgt := 29) C d_X_book_23 (by decide) (fun b2 => ?_) (fun b2 => ?_)
    · replace h := ifn b2 h
      refine lv_aload_n hx hb d_X_book_29 rfl (lv_at hl 0 rfl) ?_
      refine fg_X_36 C hw hc0 d_X_book_30 ?_
      refine fg_X_215 C hw tX_76 d_X_book_33 ?_
      refine lv_bipush (v := 12) hx hb d_X_book_36 (by decide) ?_
      refine lv_icmp_lt (tgt := 44) hx hb d_X_book_38 (by decide) (fun b3 => ?_) (fun b3 => ?_)
      · replace h := ifp b3 h
        refine lv_aload_n hx hb d_X_book_44 rfl (lv_at hl 0 rfl) ?_
        refine fg_X_36 C hw hc0 d_X_book_45 ?_
        refine fg_X_218 C hw tX_76 d_X_book_48 ?_
        refine lv_aload_n hx hb d_X_book_51 rfl (lv_at hl 0 rfl) ?_
        refine fg_X_36 C hw hc0 d_X_book_52 ?_
        refine fg_X_215 C hw tX_76 d_X_book_55 ?_
        refine lv_iload_n hx hb d_X_book_58 rfl (lv_at hl 1 rfl) ?_
        refine gde h (fun g4 h => ?_)
        refine ste h (fun s5 e9 h => ?_)
        refine stI (n := 12) C hw (tN_3 tX_76) (by decide) g4 d_X_book_59 (fun H locs hw => ?_)
        replace hw := HWe hw e9
        refine lv_aload_n hx hb d_X_book_60 rfl (lv_at hl 0 rfl) ?_
        refine fg_X_36 C hw hc0 d_X_book_61 ?_
        refine lv_dup hx hb d_X_book_64 rfl ?_
        refine fg_X_215 C hw tX_76 d_X_book_65 ?_
        refine lv_iconst (v := 1) hx hb d_X_book_68 (by decide) ?_
        refine lv_iadd hx hb d_X_book_69 ?_
        refine ste h (fun s7 e8 h => ?_)
        refine fp_X_215 C hw tX_76 d_X_book_70 (fun H locs hw => ?_)
        replace hw := HWe hw e8
        refine lv_aload_n hx hb d_X_book_73 rfl (lv_at hl 0 rfl) ?_
        refine fg_X_36 C hw hc0 d_X_book_74 ?_
        refine fg_X_215 C hw tX_76 d_X_book_77 ?_
        exact retI C hw rfl (Option.some.inj h) d_X_book_80
      · replace h := ifn b3 h
        refine lv_bipush (v := (-4)) hx hb d_X_book_41 (by decide) ?_
        exact retI C hw rfl (Option.some.inj h) d_X_book_43
    · replace h := ifp b2 h
      refine lv_bipush (v := (-2)) hx hb d_X_book_26 (by decide) ?_
      exact retI C hw rfl (Option.some.inj h) d_X_book_28
  · replace h := ifp b1 h
    refine lv_aload_n hx hb d_X_book_5 rfl (lv_at hl 0 rfl) ?_
    refine fg_X_36 C hw hc0 d_X_book_6 ?_
    refine lv_iconst (v := 0) hx hb d_X_book_9 (by decide) ?_
    refine ste h (fun s11 e12 h => ?_)
    refine fp_X_215 C hw tX_76 d_X_book_10 (fun H locs hw => ?_)
    replace hw := HWe hw e12
    refine lv_iconst (v := 0) hx hb d_X_book_13 (by decide) ?_
    exact retI C hw rfl (Option.some.inj h) d_X_book_14
def f_X_looked_l13 : Nat → Nat → Int32 → St → Option ((St) ⊕ (Int32 × St))
  | 0, _, _, _ => none
  | n + 1, c0, x1, σ => (if (vI σ 76 3) ≤ x1 then some (Sum.inl σ) else ((f_K_go 67 1 (-1) (-1) σ).bind fun q5 => (if ok x1 12 = true then (if (vI q5.2 67 8) = (vJ q5.2 (76 + 3) (nx x1)) then (f_X_looked_l13 n c0 (x1 + 1) q5.2) else some (Sum.inr (x1, q5.2))) else none)))
def f_X_looked (c0 : Nat) (σ : St) : Option (Int32 × St) := ((f_K_becomes 67 49 σ).bind fun q1 => ((f_X_looked_l13 FU c0 0 q1).bind fun x_9 => Sum.elim (fun y11 => some ((-5), y11)) (fun z => some z) x_9))
set_option maxHeartbeats 400000 in
set_option maxRecDepth 20000 in
theorem c_X_looked (g : GX) (c0 : Nat) (hc0 : tg BX c0 0) (σ : St) (q : Int32 × St) (h : f_X_looked c0 σ = some q) (l : Launch) : CT BX l y_X_looked (v_X_looked :: lwG) 8 [.ref (g.2.1 c0)] g σ (QI BX g q) := by
  refine mkC (cc := b_X_looked) (maxL := 2) (ret := (some .int)) rfl (by decide) rfl (Nat.le_of_ble_eq_true rfl) ?_
  intro p e s m args below meth c A ls C hl hw
  obtain ⟨hx, hb, hr, hml, hown, hts, hK, hE, hA, hlk⟩ := id C
  replace hl : lv_has ls 2 [(0, .ref (g.2.1 c0))] := hl
  obtain ⟨H, hH⟩ : ∃ z, z = s.heap := ⟨_, rfl⟩
  rw [← hH] at hw ⊢
  obtain ⟨locs, hlo⟩ : ∃ z : List Loc, z = [] := ⟨_, rfl⟩
  rw [← hlo] at hw ⊢
  unfold f_X_looked at h
  refine lv_aload_n hx hb d_X_looked_0 rfl (lv_at hl 0 rfl) ?_
  refine fg_X_30 C hw hc0 d_X_looked_1 ?_
  refine lv_aload_n hx hb d_X_looked_4 rfl (lv_at hl 0 rfl) ?_
  refine fg_X_23 C hw hc0 d_X_looked_5 ?_
  refine bnd h (fun q1 k2 h => ?_)
  refine clV C hw (invV (As := [.ref (g.2.1 49)]) C hw (c_K_becomes g 67 tX_67 49 tX_49 σ q1 k2 l) rfl wc_X_165 nd_K_becomes ⟨by decide, by decide⟩ (rc_K C hw tX_67) rfl hl.1 rfl (Nat.le_of_ble_eq_true rfl) d_X_looked_8 ⟨Nat.le_refl _, Nat.le_refl _⟩) (fun H locs hw => ?_)
  refine lv_iconst (v := 0) hx hb d_X_looked_11 (by decide) ?_
  refine lv_istore_n (lv' := [(1, .int 0), (0, .ref (g.2.1 c0))]) hx hb d_X_looked_12 rfl hl (by decide) rfl (fun ls hl => ?_)
  have L3 : ∀ (c0 : Nat) (hc0 : tg BX c0 0) (n : Nat) (x1 : Int32) (σ : St) (H : Heap) (locs : List Loc) (ls : Array Slot), HW BX g A s σ H locs → lv_has ls 2 [(0, .ref (g.2.1 c0)), (1, .int x1)] → ∀ (ex : (St) ⊕ (Int32 × St)), f_X_looked_l13 n c0 x1 σ = some ex → (∀ (y : St), ex = Sum.inl y → ∀ (H : Heap) (locs : List Loc) (ls : Array Slot), HW BX g A s y H locs → lv_has ls 2 [] → W p l e (rmL 8) s m args below meth c H locs 0 0 (MQ below (QI BX g q A) args s 0 0 A) (F0 m 62 ls [])) → (∀ (z : Int32 × St), ex = Sum.inr z → z = q) → W p l e (rmL 8) s m args below meth c H locs 0 0 (MQ below (QI BX g q A) args s 0 0 A) (F0 m 13 ls []) := by
    intro c0 hc0 n
    induction n with
    | zero =>
      intro x1 σ H locs ls hw hl ex h kx3 kr3
      cases h
    | succ n ih =>
      intro x1 σ H locs ls hw hl ex h kx3 kr3
      rw [f_X_looked_l13] at h
      refine lv_iload_n hx hb d_X_looked_13 rfl (lv_at hl 1 rfl) ?_
      refine lv_aload_n hx hb d_X_looked_14 rfl (lv_at hl 0 rfl) ?_
      refine fg_X_36 C hw hc0 d_X_looked_15 ?_
      refine fg_X_215 C hw tX_76 d_X_looked_18 ?_
      refine lv_icmp_ge (tgt := 62) hx hb d_X_looked_21 (by decide) (fun b4 => ?_) (fun b4 => ?_)
      · replace h := ifp b4 h
        exact kx3 _ (Option.some.inj h).symm H locs ls hw (lv_sub hl [] rfl)
      · replace h := ifn b4 h
        refine lv_aload_n hx hb d_X_looked_24 rfl (lv_at hl 0 rfl) ?_
        refine fg_X_30 C hw hc0 d_X_looked_25 ?_
        refine lv_iconst (v := 1) hx hb d_X_looked_28 (by decide) ?_
        refine lv_iconst (v := (-1)) hx hb d_X_looked_29 (by decide) ?_
        refine lv_iconst (v := (-1)) hx hb d_X_looked_30 (by decide) ?_
        refine bnd h (fun q5 k6 h => ?_)
        refine clI C hw (invV (As := [.int 1, .int (-1), .int (-1)]) C hw (c_K_go g 67 tX_67 1 (-1) (-1) σ q5 k6 l) rfl wc_X_162 nd_K_go ⟨by decide, by decide⟩ (rc_K C hw tX_67) rfl hl.1 rfl (Nat.le_of_ble_eq_true rfl) d_X_looked_31 ⟨Nat.le_refl _, Nat.le_refl _⟩) (fun H locs hw => ?_)
        refine lv_pop hx hb d_X_looked_34 rfl ?_
        refine lv_aload_n hx hb d_X_looked_35 rfl (lv_at hl 0 rfl) ?_
        refine fg_X_30 C hw hc0 d_X_looked_36 ?_
        refine fg_X_123 C hw tX_67 d_X_looked_39 ?_
        refine lv_aload_n hx hb d_X_looked_42 rfl (lv_at hl 0 rfl) ?_
        refine fg_X_36 C hw hc0 d_X_looked_43 ?_
        refine fg_X_218 C hw tX_76 d_X_looked_46 ?_
        refine lv_iload_n hx hb d_X_looked_49 rfl (lv_at hl 1 rfl) ?_
        refine gde h (fun g7 h => ?_)
        refine ldI (n := 12) C hw (tN_3 tX_76) (by decide) g7 d_X_looked_50 ?_
        refine lv_icmp_eq (tgt := 56) hx hb d_X_looked_51 (by decide) (fun b8 => ?_) (fun b8 => ?_)
        · replace h := ifp b8 h
          refine lv_iinc (v := (x1 + 1)) (lv' := [(1, .int (x1 + 1)), (0, .ref (g.2.1 c0))]) hx hb d_X_looked_56 hl (k := 1) rfl rfl (by decide) rfl (fun ls hl => ?_)
          refine lv_goto (tgt := 13) hx hb d_X_looked_59 (by decide) ?_
          exact ih (x1 + 1) q5.2 H locs ls hw (lv_sub hl [1, 0] rfl) ex h kx3 kr3
        · replace h := ifn b8 h
          refine lv_iload_n hx hb d_X_looked_54 rfl (lv_at hl 1 rfl) ?_
          exact retI C hw rfl (kr3 _ (Option.some.inj h).symm) d_X_looked_55
  refine bnd h (fun x_9 k10 h => ?_)
  refine L3 c0 hc0 FU 0 q1 H locs ls hw (lv_sub hl [1, 0] rfl) x_9 k10 (fun y11 e12 H locs ls hw hl => ?_) (fun z e12 => ?_)
  · rw [e12] at h
    replace h := sel h
    refine lv_bipush (v := (-5)) hx hb d_X_looked_62 (by decide) ?_
    exact retI C hw rfl (Option.some.inj h) d_X_looked_64
  · rw [e12] at h
    replace h := ser h
    exact Option.some.inj h
def f_X_isTape (p0 : Int32) : Bool := (f_X_inside p0 0 5)
set_option maxHeartbeats 400000 in
set_option maxRecDepth 20000 in
theorem c_X_isTape (g : GX) (p0 : Int32) (σ : St) (l : Launch) : CT BX l y_X_isTape (v_X_isTape :: lwG) 2 [.int p0] g σ (QZ BX g (f_X_isTape p0, σ)) := by
  generalize h : f_X_isTape p0 = q
  refine mkC (cc := b_X_isTape) (maxL := 1) (ret := (some .boolean)) rfl (by decide) rfl (Nat.le_of_ble_eq_true rfl) ?_
  intro p e s m args below meth c A ls C hl hw
  obtain ⟨hx, hb, hr, hml, hown, hts, hK, hE, hA, hlk⟩ := id C
  replace hl : lv_has ls 1 [(0, .int p0)] := hl
  obtain ⟨H, hH⟩ : ∃ z, z = s.heap := ⟨_, rfl⟩
  rw [← hH] at hw ⊢
  obtain ⟨locs, hlo⟩ : ∃ z : List Loc, z = [] := ⟨_, rfl⟩
  rw [← hlo] at hw ⊢
  unfold f_X_isTape at h
  refine lv_iload_n hx hb d_X_isTape_0 rfl (lv_at hl 0 rfl) ?_
  refine lv_iconst (v := 0) hx hb d_X_isTape_1 (by decide) ?_
  refine lv_iconst (v := 5) hx hb d_X_isTape_2 (by decide) ?_
  refine clZ0 (v := (f_X_inside p0 0 5)) C hw (invS (As := [.int p0, .int 0, .int 5]) C hw (c_X_inside g p0 0 5 σ l) rfl wc_X_83 nd_X_inside.2 ⟨by decide, by decide⟩ rfl hl.1 rfl (Nat.le_of_ble_eq_true rfl) d_X_isTape_3 ⟨Nat.le_refl _, Nat.le_refl _⟩) (fun H locs hw => ?_)
  exact retZ (b := (f_X_inside p0 0 5)) C hw rfl rfl (congrArg (fun z => (z, σ)) h) d_X_isTape_6
def f_X_judge_l38 : Nat → Nat → Int32 → Nat → Int32 → St → Option ((Unit) ⊕ (Int32))
  | 0, _, _, _, _, _ => none
  | n + 1, c0, x2, c3, x4, σ => (if (vI σ 49 0) ≤ x4 then some (Sum.inl ()) else (if x2 < 0 then some (Sum.inr (100 + x4)) else (if x2 < ((vI σ c3 1) - x4) then (if ok (x2 + x4) 60 = true then (if ok x4 6 = true then (if (lg_cmp (vL σ (c3 + 1) (nx (x2 + x4))) ((vJ σ (49 + 5) (nx x4))).toInt64) = 0 then (f_X_judge_l38 n c0 x2 c3 (x4 + 1) σ) else some (Sum.inr x4)) else none) else none) else some (Sum.inr (100 + x4)))))
def f_X_judge (c0 : Nat) (p1 : Int32) (p2 : Int32) (σ : St) : Option (Int32) := (if (f_X_isTape p1) = false then some (-1) else (if ok p1 6 = true then (if (vI σ (92 + 2 * nx p1) 0) = (-1) then ((f_X_judge_l38 FU c0 p2 (92 + 2 * nx p1) 0 σ).bind fun x_11 => Sum.elim (fun y13 => some (-5)) (fun z => some z) x_11) else (if (vI σ (92 + 2 * nx p1) 0) = 2 then ((f_X_judge_l38 FU c0 p2 (92 + 2 * nx p1) 0 σ).bind fun x_23 => Sum.elim (fun y25 => some (-5)) (fun z => some z) x_23) else some (-12))) else none))
set_option maxHeartbeats 400000 in
set_option maxRecDepth 20000 in
theorem c_X_judge (g : GX) (c0 : Nat) (hc0 : tg BX c0 0) (p1 : Int32) (p2 : Int32) (σ : St) (q : Int32) (h : f_X_judge c0 p1 p2 σ = some q) (l : Launch) : CT BX l y_X_judge (v_X_judge :: lwG) 3 [.ref (g.2.1 c0), .int p1, .int p2] g σ (QI BX g (q, σ)) := by
  refine mkC (cc := b_X_judge) (maxL := 5) (ret := (some .int)) rfl (by decide) rfl (Nat.le_of_ble_eq_true rfl) ?_
  intro p e s m args below meth c A ls C hl hw
  obtain ⟨hx, hb, hr, hml, hown, hts, hK, hE, hA, hlk⟩ := id C
  replace hl : lv_has ls 5 [(0, .ref (g.2.1 c0)), (1, .int p1), (2, .int p2)] := hl
  obtain ⟨H, hH⟩ : ∃ z, z = s.heap := ⟨_, rfl⟩
  rw [← hH] at hw ⊢
  obtain ⟨locs, hlo⟩ : ∃ z : List Loc, z = [] := ⟨_, rfl⟩
  rw [← hlo] at hw ⊢
  unfold f_X_judge at h
  refine lv_iload_n hx hb d_X_judge_0 rfl (lv_at hl 1 rfl) ?_
  refine clZ0 (v := (f_X_isTape p1)) C hw (invS (As := [.int p1]) C hw (c_X_isTape g p1 σ l) rfl wc_X_221 nd_X_isTape.2 ⟨by decide, by decide⟩ rfl hl.1 rfl (Nat.le_of_ble_eq_true rfl) d_X_judge_1 ⟨Nat.le_refl _, Nat.le_refl _⟩) (fun H locs hw => ?_)
  refine ifnB (tgt := 9) C d_X_judge_4 (by decide) (fun b1 => ?_) (fun b1 => ?_)
  · replace h := ifn b1 h
    refine lv_aload_n hx hb d_X_judge_9 rfl (lv_at hl 0 rfl) ?_
    refine fg_X_78 C hw hc0 d_X_judge_10 ?_
    refine lv_iload_n hx hb d_X_judge_13 rfl (lv_at hl 1 rfl) ?_
    refine gde h (fun g2 h => ?_)
    refine ldT C hw tX_91 g2 d_X_judge_14 ?_
    refine lv_astore_n (lv' := [(3, .ref (g.2.1 (92 + 2 * nx p1))), (0, .ref (g.2.1 c0)), (1, .int p1), (2, .int p2)]) hx hb d_X_judge_15 rfl hl (by decide) rfl (fun ls hl => ?_)
    refine lv_aload_n hx hb d_X_judge_16 rfl (lv_at hl 0 rfl) ?_
    refine fg_X_224 C hw (tTi g2) d_X_judge_17 ?_
    refine lv_iconst (v := (-1)) hx hb d_X_judge_20 (by decide) ?_
    refine lv_icmp_eq (tgt := 35) hx hb d_X_judge_21 (by decide) (fun b3 => ?_) (fun b3 => ?_)
    · replace h := ifp b3 h
      refine lv_iconst (v := 0) hx hb d_X_judge_35 (by decide) ?_
      refine lv_istore (lv' := [(4, .int 0), (3, .ref (g.2.1 (92 + 2 * nx p1))), (0, .ref (g.2.1 c0)), (1, .int p1), (2, .int p2)]) hx hb d_X_judge_36 hl (by decide) rfl (fun ls hl => ?_)
      have L4 : ∀ (c0 : Nat) (hc0 : tg BX c0 0) (x2 : Int32) (c3 : Nat) (hc3 : tg BX c3 16) (n : Nat) (x4 : Int32) (σ : St) (H : Heap) (locs : List Loc) (ls : Array Slot), HW BX g A s σ H locs → lv_has ls 5 [(0, .ref (g.2.1 c0)), (2, .int x2), (3, .ref (g.2.1 c3)), (4, .int x4)] → ∀ (ex : (Unit) ⊕ (Int32)), f_X_judge_l38 n c0 x2 c3 x4 σ = some ex → (∀ (y : Unit), ex = Sum.inl y → ∀ (H : Heap) (locs : List Loc) (ls : Array Slot), HW BX g A s σ H locs → lv_has ls 5 [] → W p l e (rmL 3) s m args below meth c H locs 0 0 (MQ below (QI BX g (q, σ) A) args s 0 0 A) (F0 m 104 ls [])) → (∀ (z : Int32), ex = Sum.inr z → z = q) → W p l e (rmL 3) s m args below meth c H locs 0 0 (MQ below (QI BX g (q, σ) A) args s 0 0 A) (F0 m 38 ls []) := by
        intro c0 hc0 x2 c3 hc3 n
        induction n with
        | zero =>
          intro x4 σ H locs ls hw hl ex h kx4 kr4
          cases h
        | succ n ih =>
          intro x4 σ H locs ls hw hl ex h kx4 kr4
          rw [f_X_judge_l38] at h
          refine lv_iload hx hb d_X_judge_38 (lv_at hl 3 rfl) ?_
          refine lv_aload_n hx hb d_X_judge_40 rfl (lv_at hl 0 rfl) ?_
          refine fg_X_23 C hw hc0 d_X_judge_41 ?_
          refine fg_X_87 C hw tX_49 d_X_judge_44 ?_
          refine lv_icmp_ge (tgt := 104) hx hb d_X_judge_47 (by decide) (fun b5 => ?_) (fun b5 => ?_)
          · replace h := ifp b5 h
            exact kx4 _ (Option.some.inj h).symm H locs ls hw (lv_sub hl [] rfl)
          · replace h := ifn b5 h
            refine lv_iload_n hx hb d_X_judge_50 rfl (lv_at hl 1 rfl) ?_
            refine lv_if_lt (tgt := 65) hx hb d_X_judge_51 (by decide) (fun b6 => ?_) (fun b6 => ?_)
            · replace h := ifp b6 h
              refine lv_bipush (v := 100) hx hb d_X_judge_65 (by decide) ?_
              refine lv_iload hx hb d_X_judge_67 (lv_at hl 3 rfl) ?_
              refine lv_iadd hx hb d_X_judge_69 ?_
              exact retI C hw rfl (congrArg (fun z => (z, σ)) (kr4 _ (Option.some.inj h).symm)) d_X_judge_70
            · replace h := ifn b6 h
              refine lv_iload_n hx hb d_X_judge_54 rfl (lv_at hl 1 rfl) ?_
              refine lv_aload_n hx hb d_X_judge_55 rfl (lv_at hl 2 rfl) ?_
              refine fg_X_227 C hw hc3 d_X_judge_56 ?_
              refine lv_iload hx hb d_X_judge_59 (lv_at hl 3 rfl) ?_
              refine lv_isub hx hb d_X_judge_61 ?_
              refine lv_icmp_lt (tgt := 71) hx hb d_X_judge_62 (by decide) (fun b7 => ?_) (fun b7 => ?_)
              · replace h := ifp b7 h
                refine lv_aload_n hx hb d_X_judge_71 rfl (lv_at hl 2 rfl) ?_
                refine fg_X_230 C hw hc3 d_X_judge_72 ?_
                refine lv_iload_n hx hb d_X_judge_75 rfl (lv_at hl 1 rfl) ?_
                refine lv_iload hx hb d_X_judge_76 (lv_at hl 3 rfl) ?_
                refine lv_iadd hx hb d_X_judge_78 ?_
                refine gde h (fun g8 h => ?_)
                refine ldL (n := 60) C hw (tT_1 hc3) (by decide) g8 d_X_judge_79 ?_
                refine lv_aload_n hx hb d_X_judge_80 rfl (lv_at hl 0 rfl) ?_
                refine fg_X_23 C hw hc0 d_X_judge_81 ?_
                refine fg_X_110 C hw tX_49 d_X_judge_84 ?_
                refine lv_iload hx hb d_X_judge_87 (lv_at hl 3 rfl) ?_
                refine gde h (fun g9 h => ?_)
                refine ldI (n := 6) C hw (tK_5 tX_49) (by decide) g9 d_X_judge_89 ?_
                refine lv_i2l hx hb d_X_judge_90 rfl ?_
                refine W.lcmp hx hb d_X_judge_91 ?_
                refine lv_if_eq (tgt := 98) hx hb d_X_judge_92 (by decide) (fun b10 => ?_) (fun b10 => ?_)
                · replace h := ifp b10 h
                  refine lv_iinc (v := (x4 + 1)) (lv' := [(4, .int (x4 + 1)), (0, .ref (g.2.1 c0)), (2, .int x2), (3, .ref (g.2.1 c3))]) hx hb d_X_judge_98 hl (k := 3) rfl rfl (by decide) rfl (fun ls hl => ?_)
                  refine lv_goto (tgt := 38) hx hb d_X_judge_101 (by decide) ?_
                  exact ih (x4 + 1) σ H locs ls hw (lv_sub hl [1, 2, 3, 0] rfl) ex h kx4 kr4
                · replace h := ifn b10 h
                  refine lv_iload hx hb d_X_judge_95 (lv_at hl 3 rfl) ?_
                  exact retI C hw rfl (congrArg (fun z => (z, σ)) (kr4 _ (Option.some.inj h).symm)) d_X_judge_97
              · replace h := ifn b7 h
                refine lv_bipush (v := 100) hx hb d_X_judge_65 (by decide) ?_
                refine lv_iload hx hb d_X_judge_67 (lv_at hl 3 rfl) ?_
                refine lv_iadd hx hb d_X_judge_69 ?_
                exact retI C hw rfl (congrArg (fun z => (z, σ)) (kr4 _ (Option.some.inj h).symm)) d_X_judge_70
      refine bnd h (fun x_11 k12 h => ?_)
      refine L4 c0 hc0 p2 (92 + 2 * nx p1) (tTi g2) FU 0 σ H locs ls hw (lv_sub hl [2, 4, 1, 0] rfl) x_11 k12 (fun y13 e14 H locs ls hw hl => ?_) (fun z e14 => ?_)
      · rw [e14] at h
        replace h := sel h
        refine lv_bipush (v := (-5)) hx hb d_X_judge_104 (by decide) ?_
        exact retI C hw rfl (congrArg (fun z => (z, σ)) (Option.some.inj h)) d_X_judge_106
      · rw [e14] at h
        replace h := ser h
        exact Option.some.inj h
    · replace h := ifn b3 h
      refine lv_aload_n hx hb d_X_judge_24 rfl (lv_at hl 0 rfl) ?_
      refine fg_X_224 C hw (tTi g2) d_X_judge_25 ?_
      refine lv_iconst (v := 2) hx hb d_X_judge_28 (by decide) ?_
      refine lv_icmp_eq (tgt := 35) hx hb d_X_judge_29 (by decide) (fun b15 => ?_) (fun b15 => ?_)
      · replace h := ifp b15 h
        refine lv_iconst (v := 0) hx hb d_X_judge_35 (by decide) ?_
        refine lv_istore (lv' := [(4, .int 0), (3, .ref (g.2.1 (92 + 2 * nx p1))), (0, .ref (g.2.1 c0)), (1, .int p1), (2, .int p2)]) hx hb d_X_judge_36 hl (by decide) rfl (fun ls hl => ?_)
        have L16 : ∀ (c0 : Nat) (hc0 : tg BX c0 0) (x2 : Int32) (c3 : Nat) (hc3 : tg BX c3 16) (n : Nat) (x4 : Int32) (σ : St) (H : Heap) (locs : List Loc) (ls : Array Slot), HW BX g A s σ H locs → lv_has ls 5 [(0, .ref (g.2.1 c0)), (2, .int x2), (3, .ref (g.2.1 c3)), (4, .int x4)] → ∀ (ex : (Unit) ⊕ (Int32)), f_X_judge_l38 n c0 x2 c3 x4 σ = some ex → (∀ (y : Unit), ex = Sum.inl y → ∀ (H : Heap) (locs : List Loc) (ls : Array Slot), HW BX g A s σ H locs → lv_has ls 5 [] → W p l e (rmL 3) s m args below meth c H locs 0 0 (MQ below (QI BX g (q, σ) A) args s 0 0 A) (F0 m 104 ls [])) → (∀ (z : Int32), ex = Sum.inr z → z = q) → W p l e (rmL 3) s m args below meth c H locs 0 0 (MQ below (QI BX g (q, σ) A) args s 0 0 A) (F0 m 38 ls []) := by
          intro c0 hc0 x2 c3 hc3 n
          induction n with
          | zero =>
            intro x4 σ H locs ls hw hl ex h kx16 kr16
            cases h
          | succ n ih =>
            intro x4 σ H locs ls hw hl ex h kx16 kr16
            rw [f_X_judge_l38] at h
            refine lv_iload hx hb d_X_judge_38 (lv_at hl 3 rfl) ?_
            refine lv_aload_n hx hb d_X_judge_40 rfl (lv_at hl 0 rfl) ?_
            refine fg_X_23 C hw hc0 d_X_judge_41 ?_
            refine fg_X_87 C hw tX_49 d_X_judge_44 ?_
            refine lv_icmp_ge (tgt := 104) hx hb d_X_judge_47 (by decide) (fun b17 => ?_) (fun b17 => ?_)
            · replace h := ifp b17 h
              exact kx16 _ (Option.some.inj h).symm H locs ls hw (lv_sub hl [] rfl)
            · replace h := ifn b17 h
              refine lv_iload_n hx hb d_X_judge_50 rfl (lv_at hl 1 rfl) ?_
              refine lv_if_lt (tgt := 65) hx hb d_X_judge_51 (by decide) (fun b18 => ?_) (fun b18 => ?_)
              · replace h := ifp b18 h
                refine lv_bipush (v := 100) hx hb d_X_judge_65 (by decide) ?_
                refine lv_iload hx hb d_X_judge_67 (lv_at hl 3 rfl) ?_
                refine lv_iadd hx hb d_X_judge_69 ?_
                exact retI C hw rfl (congrArg (fun z => (z, σ)) (kr16 _ (Option.some.inj h).symm)) d_X_judge_70
              · replace h := ifn b18 h
                refine lv_iload_n hx hb d_X_judge_54 rfl (lv_at hl 1 rfl) ?_
                refine lv_aload_n hx hb d_X_judge_55 rfl (lv_at hl 2 rfl) ?_
                refine fg_X_227 C hw hc3 d_X_judge_56 ?_
                refine lv_iload hx hb d_X_judge_59 (lv_at hl 3 rfl) ?_
                refine lv_isub hx hb d_X_judge_61 ?_
                refine lv_icmp_lt (tgt := 71) hx hb d_X_judge_62 (by decide) (fun b19 => ?_) (fun b19 => ?_)
                · replace h := ifp b19 h
                  refine lv_aload_n hx hb d_X_judge_71 rfl (lv_at hl 2 rfl) ?_
                  refine fg_X_230 C hw hc3 d_X_judge_72 ?_
                  refine lv_iload_n hx hb d_X_judge_75 rfl (lv_at hl 1 rfl) ?_
                  refine lv_iload hx hb d_X_judge_76 (lv_at hl 3 rfl) ?_
                  refine lv_iadd hx hb d_X_judge_78 ?_
                  refine gde h (fun g20 h => ?_)
                  refine ldL (n := 60) C hw (tT_1 hc3) (by decide) g20 d_X_judge_79 ?_
                  refine lv_aload_n hx hb d_X_judge_80 rfl (lv_at hl 0 rfl) ?_
                  refine fg_X_23 C hw hc0 d_X_judge_81 ?_
                  refine fg_X_110 C hw tX_49 d_X_judge_84 ?_
                  refine lv_iload hx hb d_X_judge_87 (lv_at hl 3 rfl) ?_
                  refine gde h (fun g21 h => ?_)
                  refine ldI (n := 6) C hw (tK_5 tX_49) (by decide) g21 d_X_judge_89 ?_
                  refine lv_i2l hx hb d_X_judge_90 rfl ?_
                  refine W.lcmp hx hb d_X_judge_91 ?_
                  refine lv_if_eq (tgt := 98) hx hb d_X_judge_92 (by decide) (fun b22 => ?_) (fun b22 => ?_)
                  · replace h := ifp b22 h
                    refine lv_iinc (v := (x4 + 1)) (lv' := [(4, .int (x4 + 1)), (0, .ref (g.2.1 c0)), (2, .int x2), (3, .ref (g.2.1 c3))]) hx hb d_X_judge_98 hl (k := 3) rfl rfl (by decide) rfl (fun ls hl => ?_)
                    refine lv_goto (tgt := 38) hx hb d_X_judge_101 (by decide) ?_
                    exact ih (x4 + 1) σ H locs ls hw (lv_sub hl [1, 2, 3, 0] rfl) ex h kx16 kr16
                  · replace h := ifn b22 h
                    refine lv_iload hx hb d_X_judge_95 (lv_at hl 3 rfl) ?_
                    exact retI C hw rfl (congrArg (fun z => (z, σ)) (kr16 _ (Option.some.inj h).symm)) d_X_judge_97
                · replace h := ifn b19 h
                  refine lv_bipush (v := 100) hx hb d_X_judge_65 (by decide) ?_
                  refine lv_iload hx hb d_X_judge_67 (lv_at hl 3 rfl) ?_
                  refine lv_iadd hx hb d_X_judge_69 ?_
                  exact retI C hw rfl (congrArg (fun z => (z, σ)) (kr16 _ (Option.some.inj h).symm)) d_X_judge_70
        refine bnd h (fun x_23 k24 h => ?_)
        refine L16 c0 hc0 p2 (92 + 2 * nx p1) (tTi g2) FU 0 σ H locs ls hw (lv_sub hl [2, 4, 1, 0] rfl) x_23 k24 (fun y25 e26 H locs ls hw hl => ?_) (fun z e26 => ?_)
        · rw [e26] at h
          replace h := sel h
          refine lv_bipush (v := (-5)) hx hb d_X_judge_104 (by decide) ?_
          exact retI C hw rfl (congrArg (fun z => (z, σ)) (Option.some.inj h)) d_X_judge_106
        · rw [e26] at h
          replace h := ser h
          exact Option.some.inj h
      · replace h := ifn b15 h
        refine lv_bipush (v := (-12)) hx hb d_X_judge_32 (by decide) ?_
        exact retI C hw rfl (congrArg (fun z => (z, σ)) (Option.some.inj h)) d_X_judge_34
  · replace h := ifp b1 h
    refine lv_iconst (v := (-1)) hx hb d_X_judge_7 (by decide) ?_
    exact retI C hw rfl (congrArg (fun z => (z, σ)) (Option.some.inj h)) d_X_judge_8
def f_N_become (c0 : Nat) (c1 : Nat) (σ : St) : Option (St) := (st (sI σ c0 0 (vI σ c1 0)) fun s2 => (if okc 0 6 6 = true then (if okc 0 6 6 = true then (st (sJ s2 (c0 + 1) (va_cpy (vJ s2 (c1 + 1)) (vJ s2 (c0 + 1)) (nx 0) (nx 0) (nx 6))) fun s5 => (if okc 0 6 6 = true then (if okc 0 6 6 = true then (st (sJ s5 (c0 + 2) (va_cpy (vJ s5 (c1 + 2)) (vJ s5 (c0 + 2)) (nx 0) (nx 0) (nx 6))) fun s8 => (st (sI s8 c0 3 (vI s8 c1 3)) fun s10 => (if okc 0 12 12 = true then (if okc 0 12 12 = true then (st (sJ s10 (c0 + 3) (va_cpy (vJ s10 (c1 + 3)) (vJ s10 (c0 + 3)) (nx 0) (nx 0) (nx 12))) fun s13 => some s13) else none) else none))) else none) else none)) else none) else none))
set_option maxHeartbeats 400000 in
set_option maxRecDepth 20000 in
theorem c_N_become (g : GX) (c0 : Nat) (hc0 : tg BX c0 7) (c1 : Nat) (hc1 : tg BX c1 7) (σ : St) (q : St) (h : f_N_become c0 c1 σ = some q) (l : Launch) : CT BX l y_N_become (v_N_become :: lwG) 1 [.ref (g.2.1 c0), .ref (g.2.1 c1)] g σ (QV BX g q) := by
  refine mkC (cc := b_N_become) (maxL := 2) (ret := none) rfl (by decide) rfl (Nat.le_of_ble_eq_true rfl) ?_
  intro p e s m args below meth c A ls C hl hw
  obtain ⟨hx, hb, hr, hml, hown, hts, hK, hE, hA, hlk⟩ := id C
  replace hl : lv_has ls 2 [(0, .ref (g.2.1 c0)), (1, .ref (g.2.1 c1))] := hl
  obtain ⟨H, hH⟩ : ∃ z, z = s.heap := ⟨_, rfl⟩
  rw [← hH] at hw ⊢
  obtain ⟨locs, hlo⟩ : ∃ z : List Loc, z = [] := ⟨_, rfl⟩
  rw [← hlo] at hw ⊢
  unfold f_N_become at h
  refine lv_aload_n hx hb d_N_become_0 rfl (lv_at hl 0 rfl) ?_
  refine lv_aload_n hx hb d_N_become_1 rfl (lv_at hl 1 rfl) ?_
  refine fg_N_9 C hw hc1 d_N_become_2 ?_
  refine ste h (fun s2 e18 h => ?_)
  refine fp_N_9 C hw hc0 d_N_become_5 (fun H locs hw => ?_)
  replace hw := HWe hw e18
  refine lv_aload_n hx hb d_N_become_8 rfl (lv_at hl 1 rfl) ?_
  refine fg_N_15 C hw hc1 d_N_become_9 ?_
  refine lv_iconst (v := 0) hx hb d_N_become_12 (by decide) ?_
  refine lv_aload_n hx hb d_N_become_13 rfl (lv_at hl 0 rfl) ?_
  refine fg_N_15 C hw hc0 d_N_become_14 ?_
  refine lv_iconst (v := 0) hx hb d_N_become_17 (by decide) ?_
  refine lv_aload_n hx hb d_N_become_18 rfl (lv_at hl 0 rfl) ?_
  refine fg_N_15 C hw hc0 d_N_become_19 ?_
  refine lnI (n := 6) (v := 6) C hw (tN_1 hc0) (by decide) (by decide) d_N_become_22 ?_
  refine gde h (fun g3 h => ?_)
  refine gde h (fun g4 h => ?_)
  refine ste h (fun s5 e17 h => ?_)
  refine cpI (n0 := 6) (n1 := 6) C hw wc_N_28 (tN_1 hc1) (by decide) (tN_1 hc0) (by decide) g3 g4 hl.1 (Nat.le_of_ble_eq_true rfl) (Nat.le_of_ble_eq_true rfl) d_N_become_23 (fun H locs hw => ?_)
  replace hw := HWe hw e17
  refine lv_aload_n hx hb d_N_become_26 rfl (lv_at hl 1 rfl) ?_
  refine fg_N_19 C hw hc1 d_N_become_27 ?_
  refine lv_iconst (v := 0) hx hb d_N_become_30 (by decide) ?_
  refine lv_aload_n hx hb d_N_become_31 rfl (lv_at hl 0 rfl) ?_
  refine fg_N_19 C hw hc0 d_N_become_32 ?_
  refine lv_iconst (v := 0) hx hb d_N_become_35 (by decide) ?_
  refine lv_aload_n hx hb d_N_become_36 rfl (lv_at hl 0 rfl) ?_
  refine fg_N_19 C hw hc0 d_N_become_37 ?_
  refine lnI (n := 6) (v := 6) C hw (tN_2 hc0) (by decide) (by decide) d_N_become_40 ?_
  refine gde h (fun g6 h => ?_)
  refine gde h (fun g7 h => ?_)
  refine ste h (fun s8 e16 h => ?_)
  refine cpI (n0 := 6) (n1 := 6) C hw wc_N_28 (tN_2 hc1) (by decide) (tN_2 hc0) (by decide) g6 g7 hl.1 (Nat.le_of_ble_eq_true rfl) (Nat.le_of_ble_eq_true rfl) d_N_become_41 (fun H locs hw => ?_)
  replace hw := HWe hw e16
  refine lv_aload_n hx hb d_N_become_44 rfl (lv_at hl 0 rfl) ?_
  refine lv_aload_n hx hb d_N_become_45 rfl (lv_at hl 1 rfl) ?_
  refine fg_N_22 C hw hc1 d_N_become_46 ?_
  refine ste h (fun s10 e15 h => ?_)
  refine fp_N_22 C hw hc0 d_N_become_49 (fun H locs hw => ?_)
  replace hw := HWe hw e15
  refine lv_aload_n hx hb d_N_become_52 rfl (lv_at hl 1 rfl) ?_
  refine fg_N_25 C hw hc1 d_N_become_53 ?_
  refine lv_iconst (v := 0) hx hb d_N_become_56 (by decide) ?_
  refine lv_aload_n hx hb d_N_become_57 rfl (lv_at hl 0 rfl) ?_
  refine fg_N_25 C hw hc0 d_N_become_58 ?_
  refine lv_iconst (v := 0) hx hb d_N_become_61 (by decide) ?_
  refine lv_aload_n hx hb d_N_become_62 rfl (lv_at hl 0 rfl) ?_
  refine fg_N_25 C hw hc0 d_N_become_63 ?_
  refine lnI (n := 12) (v := 12) C hw (tN_3 hc0) (by decide) (by decide) d_N_become_66 ?_
  refine gde h (fun g11 h => ?_)
  refine gde h (fun g12 h => ?_)
  refine ste h (fun s13 e14 h => ?_)
  refine cpI (n0 := 12) (n1 := 12) C hw wc_N_28 (tN_3 hc1) (by decide) (tN_3 hc0) (by decide) g11 g12 hl.1 (Nat.le_of_ble_eq_true rfl) (Nat.le_of_ble_eq_true rfl) d_N_become_67 (fun H locs hw => ?_)
  replace hw := HWe hw e14
  exact retV C hw rfl (Option.some.inj h) d_N_become_70
def f_X_image (c0 : Nat) (σ : St) : Option (Int32 × St) := ((f_K_becomes 58 49 σ).bind fun q1 => ((f_N_become 80 76 q1).bind fun q3 => (st (sI q3 c0 6 1) fun s6 => some ((vI s6 49 0), s6))))
set_option maxHeartbeats 400000 in
set_option maxRecDepth 20000 in
theorem c_X_image (g : GX) (c0 : Nat) (hc0 : tg BX c0 0) (σ : St) (q : Int32 × St) (h : f_X_image c0 σ = some q) (l : Launch) : CT BX l y_X_image (v_X_image :: lwG) 2 [.ref (g.2.1 c0)] g σ (QI BX g q) := by
  refine mkC (cc := b_X_image) (maxL := 1) (ret := (some .int)) rfl (by decide) rfl (Nat.le_of_ble_eq_true rfl) ?_
  intro p e s m args below meth c A ls C hl hw
  obtain ⟨hx, hb, hr, hml, hown, hts, hK, hE, hA, hlk⟩ := id C
  replace hl : lv_has ls 1 [(0, .ref (g.2.1 c0))] := hl
  obtain ⟨H, hH⟩ : ∃ z, z = s.heap := ⟨_, rfl⟩
  rw [← hH] at hw ⊢
  obtain ⟨locs, hlo⟩ : ∃ z : List Loc, z = [] := ⟨_, rfl⟩
  rw [← hlo] at hw ⊢
  unfold f_X_image at h
  refine lv_aload_n hx hb d_X_image_0 rfl (lv_at hl 0 rfl) ?_
  refine fg_X_27 C hw hc0 d_X_image_1 ?_
  refine lv_aload_n hx hb d_X_image_4 rfl (lv_at hl 0 rfl) ?_
  refine fg_X_23 C hw hc0 d_X_image_5 ?_
  refine bnd h (fun q1 k2 h => ?_)
  refine clV C hw (invV (As := [.ref (g.2.1 49)]) C hw (c_K_becomes g 58 tX_58 49 tX_49 σ q1 k2 l) rfl wc_X_165 nd_K_becomes ⟨by decide, by decide⟩ (rc_K C hw tX_58) rfl hl.1 rfl (Nat.le_of_ble_eq_true rfl) d_X_image_8 ⟨Nat.le_refl _, Nat.le_refl _⟩) (fun H locs hw => ?_)
  refine lv_aload_n hx hb d_X_image_11 rfl (lv_at hl 0 rfl) ?_
  refine fg_X_40 C hw hc0 d_X_image_12 ?_
  refine lv_aload_n hx hb d_X_image_15 rfl (lv_at hl 0 rfl) ?_
  refine fg_X_36 C hw hc0 d_X_image_16 ?_
  refine bnd h (fun q3 k4 h => ?_)
  refine clV C hw (invV (As := [.ref (g.2.1 76)]) C hw (c_N_become g 80 tX_80 76 tX_76 q1 q3 k4 l) rfl wc_X_234 nd_N_become ⟨by decide, by decide⟩ (rc_N C hw tX_80) rfl hl.1 rfl (Nat.le_of_ble_eq_true rfl) d_X_image_19 ⟨Nat.le_refl _, Nat.le_refl _⟩) (fun H locs hw => ?_)
  refine lv_aload_n hx hb d_X_image_22 rfl (lv_at hl 0 rfl) ?_
  refine lv_iconst (v := 1) hx hb d_X_image_23 (by decide) ?_
  refine ste h (fun s6 e7 h => ?_)
  refine fp_X_43 C hw hc0 (by decide) d_X_image_24 (fun H locs hw => ?_)
  replace hw := HWe hw e7
  refine lv_aload_n hx hb d_X_image_27 rfl (lv_at hl 0 rfl) ?_
  refine fg_X_23 C hw hc0 d_X_image_28 ?_
  refine fg_X_87 C hw tX_49 d_X_image_31 ?_
  exact retI C hw rfl (Option.some.inj h) d_X_image_34
def f_X_undo (c0 : Nat) (σ : St) : Option (Int32 × St) := (if (vI σ c0 6) = 0 then some ((-3), σ) else ((f_K_becomes 49 58 σ).bind fun q2 => ((f_N_become 76 80 q2).bind fun q4 => some ((vI q4 49 0), q4))))
set_option maxHeartbeats 400000 in
set_option maxRecDepth 20000 in
theorem c_X_undo (g : GX) (c0 : Nat) (hc0 : tg BX c0 0) (σ : St) (q : Int32 × St) (h : f_X_undo c0 σ = some q) (l : Launch) : CT BX l y_X_undo (v_X_undo :: lwG) 2 [.ref (g.2.1 c0)] g σ (QI BX g q) := by
  refine mkC (cc := b_X_undo) (maxL := 1) (ret := (some .int)) rfl (by decide) rfl (Nat.le_of_ble_eq_true rfl) ?_
  intro p e s m args below meth c A ls C hl hw
  obtain ⟨hx, hb, hr, hml, hown, hts, hK, hE, hA, hlk⟩ := id C
  replace hl : lv_has ls 1 [(0, .ref (g.2.1 c0))] := hl
  obtain ⟨H, hH⟩ : ∃ z, z = s.heap := ⟨_, rfl⟩
  rw [← hH] at hw ⊢
  obtain ⟨locs, hlo⟩ : ∃ z : List Loc, z = [] := ⟨_, rfl⟩
  rw [← hlo] at hw ⊢
  unfold f_X_undo at h
  refine lv_aload_n hx hb d_X_undo_0 rfl (lv_at hl 0 rfl) ?_
  refine fg_X_43 C hw hc0 d_X_undo_1 ?_
  refine lv_if_ne (tgt := 10) hx hb d_X_undo_4 (by decide) (fun b1 => ?_) (fun b1 => ?_)
  · replace h := ifn b1 h
    refine lv_aload_n hx hb d_X_undo_10 rfl (lv_at hl 0 rfl) ?_
    refine fg_X_23 C hw hc0 d_X_undo_11 ?_
    refine lv_aload_n hx hb d_X_undo_14 rfl (lv_at hl 0 rfl) ?_
    refine fg_X_27 C hw hc0 d_X_undo_15 ?_
    refine bnd h (fun q2 k3 h => ?_)
    refine clV C hw (invV (As := [.ref (g.2.1 58)]) C hw (c_K_becomes g 49 tX_49 58 tX_58 σ q2 k3 l) rfl wc_X_165 nd_K_becomes ⟨by decide, by decide⟩ (rc_K C hw tX_49) rfl hl.1 rfl (Nat.le_of_ble_eq_true rfl) d_X_undo_18 ⟨Nat.le_refl _, Nat.le_refl _⟩) (fun H locs hw => ?_)
    refine lv_aload_n hx hb d_X_undo_21 rfl (lv_at hl 0 rfl) ?_
    refine fg_X_36 C hw hc0 d_X_undo_22 ?_
    refine lv_aload_n hx hb d_X_undo_25 rfl (lv_at hl 0 rfl) ?_
    refine fg_X_40 C hw hc0 d_X_undo_26 ?_
    refine bnd h (fun q4 k5 h => ?_)
    refine clV C hw (invV (As := [.ref (g.2.1 80)]) C hw (c_N_become g 76 tX_76 80 tX_80 q2 q4 k5 l) rfl wc_X_234 nd_N_become ⟨by decide, by decide⟩ (rc_N C hw tX_76) rfl hl.1 rfl (Nat.le_of_ble_eq_true rfl) d_X_undo_29 ⟨Nat.le_refl _, Nat.le_refl _⟩) (fun H locs hw => ?_)
    refine lv_aload_n hx hb d_X_undo_32 rfl (lv_at hl 0 rfl) ?_
    refine fg_X_23 C hw hc0 d_X_undo_33 ?_
    refine fg_X_87 C hw tX_49 d_X_undo_36 ?_
    exact retI C hw rfl (Option.some.inj h) d_X_undo_39
  · replace h := ifp b1 h
    refine lv_bipush (v := (-3)) hx hb d_X_undo_7 (by decide) ?_
    exact retI C hw rfl (Option.some.inj h) d_X_undo_9
def f_X_trace (c0 : Nat) (p1 : Int32) (σ : St) : Option (Int32) := (if (f_X_inside p1 0 ((mnI (vI σ 89 1) 20) - 1)) = false then some (-1) else (if ok p1 20 = true then some (vJ σ (89 + 1) (nx p1)) else none))
set_option maxHeartbeats 400000 in
set_option maxRecDepth 20000 in
theorem c_X_trace (g : GX) (c0 : Nat) (hc0 : tg BX c0 0) (p1 : Int32) (σ : St) (q : Int32) (h : f_X_trace c0 p1 σ = some q) (l : Launch) : CT BX l y_X_trace (v_X_trace :: lwG) 2 [.ref (g.2.1 c0), .int p1] g σ (QI BX g (q, σ)) := by
  refine mkC (cc := b_X_trace) (maxL := 2) (ret := (some .int)) rfl (by decide) rfl (Nat.le_of_ble_eq_true rfl) ?_
  intro p e s m args below meth c A ls C hl hw
  obtain ⟨hx, hb, hr, hml, hown, hts, hK, hE, hA, hlk⟩ := id C
  replace hl : lv_has ls 2 [(0, .ref (g.2.1 c0)), (1, .int p1)] := hl
  obtain ⟨H, hH⟩ : ∃ z, z = s.heap := ⟨_, rfl⟩
  rw [← hH] at hw ⊢
  obtain ⟨locs, hlo⟩ : ∃ z : List Loc, z = [] := ⟨_, rfl⟩
  rw [← hlo] at hw ⊢
  unfold f_X_trace at h
  refine lv_iload_n hx hb d_X_trace_0 rfl (lv_at hl 1 rfl) ?_
  refine lv_iconst (v := 0) hx hb d_X_trace_1 (by decide) ?_
  refine lv_aload_n hx hb d_X_trace_2 rfl (lv_at hl 0 rfl) ?_
  refine fg_X_72 C hw hc0 d_X_trace_3 ?_
  refine fg_X_238 C hw tX_89 d_X_trace_6 ?_
  refine lv_bipush (v := 20) hx hb d_X_trace_9 (by decide) ?_
  refine minR C wc_X_245 hl.1 (Nat.le_of_ble_eq_true rfl) (Nat.le_of_ble_eq_true rfl) ⟨Nat.le_refl _, Nat.le_refl _⟩ d_X_trace_11 ?_
  refine lv_iconst (v := 1) hx hb d_X_trace_14 (by decide) ?_
  refine lv_isub hx hb d_X_trace_15 ?_
  refine clZ0 (v := (f_X_inside p1 0 ((mnI (vI σ 89 1) 20) - 1))) C hw (invS (As := [.int p1, .int 0, .int ((mnI (vI σ 89 1) 20) - 1)]) C hw (c_X_inside g p1 0 ((mnI (vI σ 89 1) 20) - 1) σ l) rfl wc_X_83 nd_X_inside.2 ⟨by decide, by decide⟩ rfl hl.1 rfl (Nat.le_of_ble_eq_true rfl) d_X_trace_16 ⟨Nat.le_refl _, Nat.le_refl _⟩) (fun H locs hw => ?_)
  refine ifB (tgt := 34) C d_X_trace_19 (by decide) (fun b1 => ?_) (fun b1 => ?_)
  · replace h := ifp b1 h
    refine lv_iconst (v := (-1)) hx hb d_X_trace_34 (by decide) ?_
    exact retI C hw rfl (congrArg (fun z => (z, σ)) (Option.some.inj h)) d_X_trace_35
  · replace h := ifn b1 h
    refine lv_aload_n hx hb d_X_trace_22 rfl (lv_at hl 0 rfl) ?_
    refine fg_X_72 C hw hc0 d_X_trace_23 ?_
    refine fg_X_251 C hw tX_89 d_X_trace_26 ?_
    refine lv_iload_n hx hb d_X_trace_29 rfl (lv_at hl 1 rfl) ?_
    refine gde h (fun g2 h => ?_)
    refine ldI (n := 20) C hw (tA_1 tX_89) (by decide) g2 d_X_trace_30 ?_
    refine lv_goto (tgt := 35) hx hb d_X_trace_31 (by decide) ?_
    exact retI C hw rfl (congrArg (fun z => (z, σ)) (Option.some.inj h)) d_X_trace_35
def f_X_count (c0 : Nat) (p1 : Int32) (σ : St) : Int32 := (if p1 = 0 then (vI σ 49 0) else (if p1 = 1 then (vI σ c0 9) else (if p1 = 2 then (vI σ 76 0) else (if p1 = 3 then (vI σ 76 3) else (if p1 = 4 then (vI σ 84 1) else (if p1 = 5 then (vI σ 89 1) else (-2)))))))
set_option maxHeartbeats 400000 in
set_option maxRecDepth 20000 in
theorem c_X_count (g : GX) (c0 : Nat) (hc0 : tg BX c0 0) (p1 : Int32) (σ : St) (l : Launch) : CT BX l y_X_count (v_X_count :: lwG) 1 [.ref (g.2.1 c0), .int p1] g σ (QI BX g (f_X_count c0 p1 σ, σ)) := by
  generalize h : f_X_count c0 p1 σ = q
  refine mkC (cc := b_X_count) (maxL := 2) (ret := (some .int)) rfl (by decide) rfl (Nat.le_of_ble_eq_true rfl) ?_
  intro p e s m args below meth c A ls C hl hw
  obtain ⟨hx, hb, hr, hml, hown, hts, hK, hE, hA, hlk⟩ := id C
  replace hl : lv_has ls 2 [(0, .ref (g.2.1 c0)), (1, .int p1)] := hl
  obtain ⟨H, hH⟩ : ∃ z, z = s.heap := ⟨_, rfl⟩
  rw [← hH] at hw ⊢
  obtain ⟨locs, hlo⟩ : ∃ z : List Loc, z = [] := ⟨_, rfl⟩
  rw [← hlo] at hw ⊢
  unfold f_X_count at h
  refine lv_iload_n hx hb d_X_count_0 rfl (lv_at hl 1 rfl) ?_
  by_cases b1 : p1 = 0
  · replace h := ifp b1 h
    refine swIn (k := 0) (tgt := 40) C b1 d_X_count_1 (by decide) rfl (by decide) ?_
    refine lv_aload_n hx hb d_X_count_40 rfl (lv_at hl 0 rfl) ?_
    refine fg_X_23 C hw hc0 d_X_count_41 ?_
    refine fg_X_87 C hw tX_49 d_X_count_44 ?_
    exact retI C hw rfl (congrArg (fun z => (z, σ)) h) d_X_count_47
  · replace h := ifn b1 h
    by_cases b2 : p1 = 1
    · replace h := ifp b2 h
      refine swIn (k := 1) (tgt := 48) C b2 d_X_count_1 (by decide) rfl (by decide) ?_
      refine lv_aload_n hx hb d_X_count_48 rfl (lv_at hl 0 rfl) ?_
      refine fg_X_58 C hw hc0 d_X_count_49 ?_
      exact retI C hw rfl (congrArg (fun z => (z, σ)) h) d_X_count_52
    · replace h := ifn b2 h
      by_cases b3 : p1 = 2
      · replace h := ifp b3 h
        refine swIn (k := 2) (tgt := 53) C b3 d_X_count_1 (by decide) rfl (by decide) ?_
        refine lv_aload_n hx hb d_X_count_53 rfl (lv_at hl 0 rfl) ?_
        refine fg_X_36 C hw hc0 d_X_count_54 ?_
        refine fg_X_198 C hw tX_76 d_X_count_57 ?_
        exact retI C hw rfl (congrArg (fun z => (z, σ)) h) d_X_count_60
      · replace h := ifn b3 h
        by_cases b4 : p1 = 3
        · replace h := ifp b4 h
          refine swIn (k := 3) (tgt := 61) C b4 d_X_count_1 (by decide) rfl (by decide) ?_
          refine lv_aload_n hx hb d_X_count_61 rfl (lv_at hl 0 rfl) ?_
          refine fg_X_36 C hw hc0 d_X_count_62 ?_
          refine fg_X_215 C hw tX_76 d_X_count_65 ?_
          exact retI C hw rfl (congrArg (fun z => (z, σ)) h) d_X_count_68
        · replace h := ifn b4 h
          by_cases b5 : p1 = 4
          · replace h := ifp b5 h
            refine swIn (k := 4) (tgt := 69) C b5 d_X_count_1 (by decide) rfl (by decide) ?_
            refine lv_aload_n hx hb d_X_count_69 rfl (lv_at hl 0 rfl) ?_
            refine fg_X_50 C hw hc0 d_X_count_70 ?_
            refine fg_X_129 C hw tX_84 d_X_count_73 ?_
            exact retI C hw rfl (congrArg (fun z => (z, σ)) h) d_X_count_76
          · replace h := ifn b5 h
            by_cases b6 : p1 = 5
            · replace h := ifp b6 h
              refine swIn (k := 5) (tgt := 77) C b6 d_X_count_1 (by decide) rfl (by decide) ?_
              refine lv_aload_n hx hb d_X_count_77 rfl (lv_at hl 0 rfl) ?_
              refine fg_X_72 C hw hc0 d_X_count_78 ?_
              refine fg_X_238 C hw tX_89 d_X_count_81 ?_
              exact retI C hw rfl (congrArg (fun z => (z, σ)) h) d_X_count_84
            · replace h := ifn b6 h
              refine swOut (tgt := 85) C d_X_count_1 (fun z9 l9 h9 e9 => ?_) (by decide) ?_
              · have e10 : z9 = 0 ∨ z9 = 1 ∨ z9 = 2 ∨ z9 = 3 ∨ z9 = 4 ∨ z9 = 5 := by omega
                rcases e10 with e10 | e10 | e10 | e10 | e10 | e10
                · exact lv_neT b1 (by decide) (e9.trans e10)
                · exact lv_neT b2 (by decide) (e9.trans e10)
                · exact lv_neT b3 (by decide) (e9.trans e10)
                · exact lv_neT b4 (by decide) (e9.trans e10)
                · exact lv_neT b5 (by decide) (e9.trans e10)
                · exact lv_neT b6 (by decide) (e9.trans e10)
              · refine lv_bipush (v := (-2)) hx hb d_X_count_85 (by decide) ?_
                exact retI C hw rfl (congrArg (fun z => (z, σ)) h) d_X_count_87
def f_T_narrowed (c0 : Nat) (p1 : Int64) (σ : St) : Int64 := (if (vI σ c0 0) = 0 then (((p1).toInt32).toInt8.toInt32).toInt64 else (if (vI σ c0 0) = 1 then (((p1).toInt32).toInt16.toInt32).toInt64 else (if (vI σ c0 0) = 2 then ((p1).toInt32).toInt64 else (if (vI σ c0 0) = 3 then p1 else (if (lg_cmp p1 0) = 0 then 0 else 1)))))
set_option maxHeartbeats 400000 in
set_option maxRecDepth 20000 in
theorem c_T_narrowed (g : GX) (c0 : Nat) (hc0 : tg BX c0 16) (p1 : Int64) (σ : St) (l : Launch) : CT BX l y_T_narrowed (v_T_narrowed :: lwG) 1 [.ref (g.2.1 c0), .long p1] g σ (QL BX g (f_T_narrowed c0 p1 σ, σ)) := by
  generalize h : f_T_narrowed c0 p1 σ = q
  refine mkC (cc := b_T_narrowed) (maxL := 3) (ret := (some .long)) rfl (by decide) rfl (Nat.le_of_ble_eq_true rfl) ?_
  intro p e s m args below meth c A ls C hl hw
  obtain ⟨hx, hb, hr, hml, hown, hts, hK, hE, hA, hlk⟩ := id C
  replace hl : lv_has ls 3 [(0, .ref (g.2.1 c0)), (1, .long p1)] := hl
  obtain ⟨H, hH⟩ : ∃ z, z = s.heap := ⟨_, rfl⟩
  rw [← hH] at hw ⊢
  obtain ⟨locs, hlo⟩ : ∃ z : List Loc, z = [] := ⟨_, rfl⟩
  rw [← hlo] at hw ⊢
  unfold f_T_narrowed at h
  refine lv_aload_n hx hb d_T_narrowed_0 rfl (lv_at hl 0 rfl) ?_
  refine fg_T_11 C hw hc0 d_T_narrowed_1 ?_
  by_cases b1 : (vI σ c0 0) = 0
  · replace h := ifp b1 h
    refine swIn (k := 0) (tgt := 36) C b1 d_T_narrowed_4 (by decide) rfl (by decide) ?_
    refine lv_lload_n hx hb d_T_narrowed_36 rfl (lv_at hl 1 rfl) ?_
    refine lv_l2i hx hb d_T_narrowed_37 rfl ?_
    refine lv_i2b hx hb d_T_narrowed_38 rfl ?_
    refine lv_i2l hx hb d_T_narrowed_39 rfl ?_
    exact retL C hw rfl (congrArg (fun z => (z, σ)) h) d_T_narrowed_40
  · replace h := ifn b1 h
    by_cases b2 : (vI σ c0 0) = 1
    · replace h := ifp b2 h
      refine swIn (k := 1) (tgt := 41) C b2 d_T_narrowed_4 (by decide) rfl (by decide) ?_
      refine lv_lload_n hx hb d_T_narrowed_41 rfl (lv_at hl 1 rfl) ?_
      refine lv_l2i hx hb d_T_narrowed_42 rfl ?_
      refine lv_i2s hx hb d_T_narrowed_43 rfl ?_
      refine lv_i2l hx hb d_T_narrowed_44 rfl ?_
      exact retL C hw rfl (congrArg (fun z => (z, σ)) h) d_T_narrowed_45
    · replace h := ifn b2 h
      by_cases b3 : (vI σ c0 0) = 2
      · replace h := ifp b3 h
        refine swIn (k := 2) (tgt := 46) C b3 d_T_narrowed_4 (by decide) rfl (by decide) ?_
        refine lv_lload_n hx hb d_T_narrowed_46 rfl (lv_at hl 1 rfl) ?_
        refine lv_l2i hx hb d_T_narrowed_47 rfl ?_
        refine lv_i2l hx hb d_T_narrowed_48 rfl ?_
        exact retL C hw rfl (congrArg (fun z => (z, σ)) h) d_T_narrowed_49
      · replace h := ifn b3 h
        by_cases b4 : (vI σ c0 0) = 3
        · replace h := ifp b4 h
          refine swIn (k := 3) (tgt := 50) C b4 d_T_narrowed_4 (by decide) rfl (by decide) ?_
          refine lv_lload_n hx hb d_T_narrowed_50 rfl (lv_at hl 1 rfl) ?_
          exact retL C hw rfl (congrArg (fun z => (z, σ)) h) d_T_narrowed_51
        · replace h := ifn b4 h
          refine swOut (tgt := 52) C d_T_narrowed_4 (fun z9 l9 h9 e9 => ?_) (by decide) ?_
          · have e10 : z9 = 0 ∨ z9 = 1 ∨ z9 = 2 ∨ z9 = 3 := by omega
            rcases e10 with e10 | e10 | e10 | e10
            · exact lv_neT b1 (by decide) (e9.trans e10)
            · exact lv_neT b2 (by decide) (e9.trans e10)
            · exact lv_neT b3 (by decide) (e9.trans e10)
            · exact lv_neT b4 (by decide) (e9.trans e10)
          · refine lv_lload_n hx hb d_T_narrowed_52 rfl (lv_at hl 1 rfl) ?_
            refine lv_lconst (v := 0) hx hb d_T_narrowed_53 (by decide) ?_
            refine W.lcmp hx hb d_T_narrowed_54 ?_
            refine lv_if_eq (tgt := 62) hx hb d_T_narrowed_55 (by decide) (fun b5 => ?_) (fun b5 => ?_)
            · replace h := ifp b5 h
              refine lv_lconst (v := 0) hx hb d_T_narrowed_62 (by decide) ?_
              exact retL C hw rfl (congrArg (fun z => (z, σ)) h) d_T_narrowed_63
            · replace h := ifn b5 h
              refine lv_lconst (v := 1) hx hb d_T_narrowed_58 (by decide) ?_
              refine lv_goto (tgt := 63) hx hb d_T_narrowed_59 (by decide) ?_
              exact retL C hw rfl (congrArg (fun z => (z, σ)) h) d_T_narrowed_63
def f_X_item (c0 : Nat) (p1 : Int32) (p2 : Int32) (p3 : Int64) (σ : St) : Option (Int32 × St) := (if (f_X_isTape p1) = false then some ((-1), σ) else (if ok p1 6 = true then (if (vI σ (92 + 2 * nx p1) 0) = (-1) then some ((-11), σ) else (if (f_X_inside p2 0 ((vI σ (92 + 2 * nx p1) 1) - 1)) = false then some ((-13), σ) else (if ok p2 60 = true then (st (sL σ ((92 + 2 * nx p1) + 1) (va_up (vL σ ((92 + 2 * nx p1) + 1)) (nx p2) (f_T_narrowed (92 + 2 * nx p1) p3 σ))) fun s6 => some (1, s6)) else none))) else none))
set_option maxHeartbeats 400000 in
set_option maxRecDepth 20000 in
theorem c_X_item (g : GX) (c0 : Nat) (hc0 : tg BX c0 0) (p1 : Int32) (p2 : Int32) (p3 : Int64) (σ : St) (q : Int32 × St) (h : f_X_item c0 p1 p2 p3 σ = some q) (l : Launch) : CT BX l y_X_item (v_X_item :: lwG) 3 [.ref (g.2.1 c0), .int p1, .int p2, .long p3] g σ (QI BX g q) := by
  refine mkC (cc := b_X_item) (maxL := 6) (ret := (some .int)) rfl (by decide) rfl (Nat.le_of_ble_eq_true rfl) ?_
  intro p e s m args below meth c A ls C hl hw
  obtain ⟨hx, hb, hr, hml, hown, hts, hK, hE, hA, hlk⟩ := id C
  replace hl : lv_has ls 6 [(0, .ref (g.2.1 c0)), (1, .int p1), (2, .int p2), (3, .long p3)] := hl
  obtain ⟨H, hH⟩ : ∃ z, z = s.heap := ⟨_, rfl⟩
  rw [← hH] at hw ⊢
  obtain ⟨locs, hlo⟩ : ∃ z : List Loc, z = [] := ⟨_, rfl⟩
  rw [← hlo] at hw ⊢
  unfold f_X_item at h
  refine lv_iload_n hx hb d_X_item_0 rfl (lv_at hl 1 rfl) ?_
  refine clZ0 (v := (f_X_isTape p1)) C hw (invS (As := [.int p1]) C hw (c_X_isTape g p1 σ l) rfl wc_X_221 nd_X_isTape.2 ⟨by decide, by decide⟩ rfl hl.1 rfl (Nat.le_of_ble_eq_true rfl) d_X_item_1 ⟨Nat.le_refl _, Nat.le_refl _⟩) (fun H locs hw => ?_)
  refine ifnB (tgt := 9) C d_X_item_4 (by decide) (fun b1 => ?_) (fun b1 => ?_)
  · replace h := ifn b1 h
    refine lv_aload_n hx hb d_X_item_9 rfl (lv_at hl 0 rfl) ?_
    refine fg_X_78 C hw hc0 d_X_item_10 ?_
    refine lv_iload_n hx hb d_X_item_13 rfl (lv_at hl 1 rfl) ?_
    refine gde h (fun g2 h => ?_)
    refine ldT C hw tX_91 g2 d_X_item_14 ?_
    refine lv_astore (lv' := [(5, .ref (g.2.1 (92 + 2 * nx p1))), (0, .ref (g.2.1 c0)), (1, .int p1), (2, .int p2), (3, .long p3)]) hx hb d_X_item_15 hl (by decide) rfl (fun ls hl => ?_)
    refine lv_aload hx hb d_X_item_17 (lv_at hl 0 rfl) ?_
    refine fg_X_224 C hw (tTi g2) d_X_item_19 ?_
    refine lv_iconst (v := (-1)) hx hb d_X_item_22 (by decide) ?_
    refine lv_icmp_ne (tgt := 29) hx hb d_X_item_23 (by decide) (fun b3 => ?_) (fun b3 => ?_)
    · replace h := ifn b3 h
      refine lv_iload_n hx hb d_X_item_29 rfl (lv_at hl 3 rfl) ?_
      refine lv_iconst (v := 0) hx hb d_X_item_30 (by decide) ?_
      refine lv_aload hx hb d_X_item_31 (lv_at hl 0 rfl) ?_
      refine fg_X_227 C hw (tTi g2) d_X_item_33 ?_
      refine lv_iconst (v := 1) hx hb d_X_item_36 (by decide) ?_
      refine lv_isub hx hb d_X_item_37 ?_
      refine clZ0 (v := (f_X_inside p2 0 ((vI σ (92 + 2 * nx p1) 1) - 1))) C hw (invS (As := [.int p2, .int 0, .int ((vI σ (92 + 2 * nx p1) 1) - 1)]) C hw (c_X_inside g p2 0 ((vI σ (92 + 2 * nx p1) 1) - 1) σ l) rfl wc_X_83 nd_X_inside.2 ⟨by decide, by decide⟩ rfl hl.1 rfl (Nat.le_of_ble_eq_true rfl) d_X_item_38 ⟨Nat.le_refl _, Nat.le_refl _⟩) (fun H locs hw => ?_)
      refine ifnB (tgt := 47) C d_X_item_41 (by decide) (fun b4 => ?_) (fun b4 => ?_)
      · replace h := ifn b4 h
        refine lv_aload hx hb d_X_item_47 (lv_at hl 0 rfl) ?_
        refine fg_X_230 C hw (tTi g2) d_X_item_49 ?_
        refine lv_iload_n hx hb d_X_item_52 rfl (lv_at hl 3 rfl) ?_
        refine lv_aload hx hb d_X_item_53 (lv_at hl 0 rfl) ?_
        refine lv_lload_n hx hb d_X_item_55 rfl (lv_at hl 4 rfl) ?_
        refine clL0 (v := (f_T_narrowed (92 + 2 * nx p1) p3 σ)) C hw (invV (As := [.long p3]) C hw (c_T_narrowed g (92 + 2 * nx p1) (tTi g2) p3 σ l) rfl wc_X_261 nd_T_narrowed ⟨by decide, by decide⟩ (rc_T C hw (tTi g2)) rfl hl.1 rfl (Nat.le_of_ble_eq_true rfl) d_X_item_56 ⟨Nat.le_refl _, Nat.le_refl _⟩) (fun H locs hw => ?_)
        refine gde h (fun g5 h => ?_)
        refine ste h (fun s6 e7 h => ?_)
        refine stL (n := 60) C hw (tT_1 (tTi g2)) (by decide) g5 d_X_item_59 (fun H locs hw => ?_)
        replace hw := HWe hw e7
        refine lv_iconst (v := 1) hx hb d_X_item_60 (by decide) ?_
        exact retI C hw rfl (Option.some.inj h) d_X_item_61
      · replace h := ifp b4 h
        refine lv_bipush (v := (-13)) hx hb d_X_item_44 (by decide) ?_
        exact retI C hw rfl (Option.some.inj h) d_X_item_46
    · replace h := ifp b3 h
      refine lv_bipush (v := (-11)) hx hb d_X_item_26 (by decide) ?_
      exact retI C hw rfl (Option.some.inj h) d_X_item_28
  · replace h := ifp b1 h
    refine lv_iconst (v := (-1)) hx hb d_X_item_7 (by decide) ?_
    exact retI C hw rfl (Option.some.inj h) d_X_item_8
def f_X_read (c0 : Nat) (p1 : Int32) (p2 : Int32) (σ : St) : Option (Int64) := (if (f_X_isTape p1) = false then some (-9223372036854775808) else (if ok p1 6 = true then (if (vI σ (92 + 2 * nx p1) 0) = (-1) then some (-9223372036854775808) else (if (f_X_inside p2 0 ((vI σ (92 + 2 * nx p1) 1) - 1)) = false then some (-9223372036854775808) else (if ok p2 60 = true then some (vL σ ((92 + 2 * nx p1) + 1) (nx p2)) else none))) else none))
set_option maxHeartbeats 400000 in
set_option maxRecDepth 20000 in
theorem c_X_read (g : GX) (c0 : Nat) (hc0 : tg BX c0 0) (p1 : Int32) (p2 : Int32) (σ : St) (q : Int64) (h : f_X_read c0 p1 p2 σ = some q) (l : Launch) : CT BX l y_X_read (v_X_read :: lwG) 3 [.ref (g.2.1 c0), .int p1, .int p2] g σ (QL BX g (q, σ)) := by
  refine mkC (cc := b_X_read) (maxL := 4) (ret := (some .long)) rfl (by decide) rfl (Nat.le_of_ble_eq_true rfl) ?_
  intro p e s m args below meth c A ls C hl hw
  obtain ⟨hx, hb, hr, hml, hown, hts, hK, hE, hA, hlk⟩ := id C
  replace hl : lv_has ls 4 [(0, .ref (g.2.1 c0)), (1, .int p1), (2, .int p2)] := hl
  obtain ⟨H, hH⟩ : ∃ z, z = s.heap := ⟨_, rfl⟩
  rw [← hH] at hw ⊢
  obtain ⟨locs, hlo⟩ : ∃ z : List Loc, z = [] := ⟨_, rfl⟩
  rw [← hlo] at hw ⊢
  unfold f_X_read at h
  refine lv_iload_n hx hb d_X_read_0 rfl (lv_at hl 1 rfl) ?_
  refine clZ0 (v := (f_X_isTape p1)) C hw (invS (As := [.int p1]) C hw (c_X_isTape g p1 σ l) rfl wc_X_221 nd_X_isTape.2 ⟨by decide, by decide⟩ rfl hl.1 rfl (Nat.le_of_ble_eq_true rfl) d_X_read_1 ⟨Nat.le_refl _, Nat.le_refl _⟩) (fun H locs hw => ?_)
  refine ifnB (tgt := 11) C d_X_read_4 (by decide) (fun b1 => ?_) (fun b1 => ?_)
  · replace h := ifn b1 h
    refine lv_aload_n hx hb d_X_read_11 rfl (lv_at hl 0 rfl) ?_
    refine fg_X_78 C hw hc0 d_X_read_12 ?_
    refine lv_iload_n hx hb d_X_read_15 rfl (lv_at hl 1 rfl) ?_
    refine gde h (fun g2 h => ?_)
    refine ldT C hw tX_91 g2 d_X_read_16 ?_
    refine lv_astore_n (lv' := [(3, .ref (g.2.1 (92 + 2 * nx p1))), (0, .ref (g.2.1 c0)), (1, .int p1), (2, .int p2)]) hx hb d_X_read_17 rfl hl (by decide) rfl (fun ls hl => ?_)
    refine lv_aload_n hx hb d_X_read_18 rfl (lv_at hl 0 rfl) ?_
    refine fg_X_224 C hw (tTi g2) d_X_read_19 ?_
    refine lv_iconst (v := (-1)) hx hb d_X_read_22 (by decide) ?_
    refine lv_icmp_eq (tgt := 49) hx hb d_X_read_23 (by decide) (fun b3 => ?_) (fun b3 => ?_)
    · replace h := ifp b3 h
      refine lv_ldc2 (v := (-9223372036854775808)) hx hb hown (hts _ (inG 642 (by decide +kernel) (by decide +kernel))) d_X_read_49 ?_
      exact retL C hw rfl (congrArg (fun z => (z, σ)) (Option.some.inj h)) d_X_read_52
    · replace h := ifn b3 h
      refine lv_iload_n hx hb d_X_read_26 rfl (lv_at hl 3 rfl) ?_
      refine lv_iconst (v := 0) hx hb d_X_read_27 (by decide) ?_
      refine lv_aload_n hx hb d_X_read_28 rfl (lv_at hl 0 rfl) ?_
      refine fg_X_227 C hw (tTi g2) d_X_read_29 ?_
      refine lv_iconst (v := 1) hx hb d_X_read_32 (by decide) ?_
      refine lv_isub hx hb d_X_read_33 ?_
      refine clZ0 (v := (f_X_inside p2 0 ((vI σ (92 + 2 * nx p1) 1) - 1))) C hw (invS (As := [.int p2, .int 0, .int ((vI σ (92 + 2 * nx p1) 1) - 1)]) C hw (c_X_inside g p2 0 ((vI σ (92 + 2 * nx p1) 1) - 1) σ l) rfl wc_X_83 nd_X_inside.2 ⟨by decide, by decide⟩ rfl hl.1 rfl (Nat.le_of_ble_eq_true rfl) d_X_read_34 ⟨Nat.le_refl _, Nat.le_refl _⟩) (fun H locs hw => ?_)
      refine ifB (tgt := 49) C d_X_read_37 (by decide) (fun b4 => ?_) (fun b4 => ?_)
      · replace h := ifp b4 h
        refine lv_ldc2 (v := (-9223372036854775808)) hx hb hown (hts _ (inG 642 (by decide +kernel) (by decide +kernel))) d_X_read_49 ?_
        exact retL C hw rfl (congrArg (fun z => (z, σ)) (Option.some.inj h)) d_X_read_52
      · replace h := ifn b4 h
        refine lv_aload_n hx hb d_X_read_40 rfl (lv_at hl 0 rfl) ?_
        refine fg_X_230 C hw (tTi g2) d_X_read_41 ?_
        refine lv_iload_n hx hb d_X_read_44 rfl (lv_at hl 3 rfl) ?_
        refine gde h (fun g5 h => ?_)
        refine ldL (n := 60) C hw (tT_1 (tTi g2)) (by decide) g5 d_X_read_45 ?_
        refine lv_goto (tgt := 52) hx hb d_X_read_46 (by decide) ?_
        exact retL C hw rfl (congrArg (fun z => (z, σ)) (Option.some.inj h)) d_X_read_52
  · replace h := ifp b1 h
    refine lv_ldc2 (v := (-9223372036854775808)) hx hb hown (hts _ (inG 642 (by decide +kernel) (by decide +kernel))) d_X_read_7 ?_
    exact retL C hw rfl (congrArg (fun z => (z, σ)) (Option.some.inj h)) d_X_read_10
def f_X_shift (c0 : Nat) (p1 : Int32) (p2 : Int32) (p3 : Int32) (p4 : Int32) (p5 : Int32) (σ : St) : Option (Int32 × St) := (if (f_X_isTape p1) = false then some ((-1), σ) else (if (f_X_isTape p3) = false then some ((-1), σ) else (if ok p1 6 = true then (if ok p3 6 = true then (if (vI σ (92 + 2 * nx p1) 0) = (-1) then some ((-11), σ) else (if (vI σ (92 + 2 * nx p3) 0) = (-1) then some ((-11), σ) else (if (vI σ (92 + 2 * nx p1) 0) = (vI σ (92 + 2 * nx p3) 0) then (if p5 < 0 then some ((-13), σ) else (if (f_X_inside p2 0 ((vI σ (92 + 2 * nx p1) 1) - p5)) = false then some ((-13), σ) else (if (f_X_inside p4 0 ((vI σ (92 + 2 * nx p3) 1) - p5)) = false then some ((-13), σ) else (if okc p2 p5 60 = true then (if okc p4 p5 60 = true then (st (sL σ ((92 + 2 * nx p3) + 1) (va_cpy (vL σ ((92 + 2 * nx p1) + 1)) (vL σ ((92 + 2 * nx p3) + 1)) (nx p2) (nx p4) (nx p5))) fun s13 => some (p5, s13)) else none) else none)))) else some ((-12), σ)))) else none) else none)))
set_option maxHeartbeats 400000 in
set_option maxRecDepth 20000 in
theorem c_X_shift (g : GX) (c0 : Nat) (hc0 : tg BX c0 0) (p1 : Int32) (p2 : Int32) (p3 : Int32) (p4 : Int32) (p5 : Int32) (σ : St) (q : Int32 × St) (h : f_X_shift c0 p1 p2 p3 p4 p5 σ = some q) (l : Launch) : CT BX l y_X_shift (v_X_shift :: lwG) 3 [.ref (g.2.1 c0), .int p1, .int p2, .int p3, .int p4, .int p5] g σ (QI BX g q) := by
  refine mkC (cc := b_X_shift) (maxL := 8) (ret := (some .int)) rfl (by decide) rfl (Nat.le_of_ble_eq_true rfl) ?_
  intro p e s m args below meth c A ls C hl hw
  obtain ⟨hx, hb, hr, hml, hown, hts, hK, hE, hA, hlk⟩ := id C
  replace hl : lv_has ls 8 [(0, .ref (g.2.1 c0)), (1, .int p1), (2, .int p2), (3, .int p3), (4, .int p4), (5, .int p5)] := hl
  obtain ⟨H, hH⟩ : ∃ z, z = s.heap := ⟨_, rfl⟩
  rw [← hH] at hw ⊢
  obtain ⟨locs, hlo⟩ : ∃ z : List Loc, z = [] := ⟨_, rfl⟩
  rw [← hlo] at hw ⊢
  unfold f_X_shift at h
  refine lv_iload_n hx hb d_X_shift_0 rfl (lv_at hl 1 rfl) ?_
  refine clZ0 (v := (f_X_isTape p1)) C hw (invS (As := [.int p1]) C hw (c_X_isTape g p1 σ l) rfl wc_X_221 nd_X_isTape.2 ⟨by decide, by decide⟩ rfl hl.1 rfl (Nat.le_of_ble_eq_true rfl) d_X_shift_1 ⟨Nat.le_refl _, Nat.le_refl _⟩) (fun H locs hw => ?_)
  refine ifB (tgt := 14) C d_X_shift_4 (by decide) (fun b1 => ?_) (fun b1 => ?_)
  · replace h := ifp b1 h
    refine lv_iconst (v := (-1)) hx hb d_X_shift_14 (by decide) ?_
    exact retI C hw rfl (Option.some.inj h) d_X_shift_15
  · replace h := ifn b1 h
    refine lv_iload_n hx hb d_X_shift_7 rfl (lv_at hl 3 rfl) ?_
    refine clZ0 (v := (f_X_isTape p3)) C hw (invS (As := [.int p3]) C hw (c_X_isTape g p3 σ l) rfl wc_X_221 nd_X_isTape.2 ⟨by decide, by decide⟩ rfl hl.1 rfl (Nat.le_of_ble_eq_true rfl) d_X_shift_8 ⟨Nat.le_refl _, Nat.le_refl _⟩) (fun H locs hw => ?_)
    refine ifnB (tgt := 16) C d_X_shift_11 (by decide) (fun b2 => ?_) (fun b2 => ?_)
    · replace h := ifn b2 h
      refine lv_aload_n hx hb d_X_shift_16 rfl (lv_at hl 0 rfl) ?_
      refine fg_X_78 C hw hc0 d_X_shift_17 ?_
      refine lv_iload_n hx hb d_X_shift_20 rfl (lv_at hl 1 rfl) ?_
      refine gde h (fun g3 h => ?_)
      refine ldT C hw tX_91 g3 d_X_shift_21 ?_
      refine lv_astore (lv' := [(6, .ref (g.2.1 (92 + 2 * nx p1))), (0, .ref (g.2.1 c0)), (1, .int p1), (2, .int p2), (3, .int p3), (4, .int p4), (5, .int p5)]) hx hb d_X_shift_22 hl (by decide) rfl (fun ls hl => ?_)
      refine lv_aload_n hx hb d_X_shift_24 rfl (lv_at hl 1 rfl) ?_
      refine fg_X_78 C hw hc0 d_X_shift_25 ?_
      refine lv_iload_n hx hb d_X_shift_28 rfl (lv_at hl 4 rfl) ?_
      refine gde h (fun g4 h => ?_)
      refine ldT C hw tX_91 g4 d_X_shift_29 ?_
      refine lv_astore (lv' := [(7, .ref (g.2.1 (92 + 2 * nx p3))), (6, .ref (g.2.1 (92 + 2 * nx p1))), (0, .ref (g.2.1 c0)), (1, .int p1), (2, .int p2), (3, .int p3), (4, .int p4), (5, .int p5)]) hx hb d_X_shift_30 hl (by decide) rfl (fun ls hl => ?_)
      refine lv_aload hx hb d_X_shift_32 (lv_at hl 1 rfl) ?_
      refine fg_X_224 C hw (tTi g3) d_X_shift_34 ?_
      refine lv_iconst (v := (-1)) hx hb d_X_shift_37 (by decide) ?_
      refine lv_icmp_eq (tgt := 50) hx hb d_X_shift_38 (by decide) (fun b5 => ?_) (fun b5 => ?_)
      · replace h := ifp b5 h
        refine lv_bipush (v := (-11)) hx hb d_X_shift_50 (by decide) ?_
        exact retI C hw rfl (Option.some.inj h) d_X_shift_52
      · replace h := ifn b5 h
        refine lv_aload hx hb d_X_shift_41 (lv_at hl 0 rfl) ?_
        refine fg_X_224 C hw (tTi g4) d_X_shift_43 ?_
        refine lv_iconst (v := (-1)) hx hb d_X_shift_46 (by decide) ?_
        refine lv_icmp_ne (tgt := 53) hx hb d_X_shift_47 (by decide) (fun b6 => ?_) (fun b6 => ?_)
        · replace h := ifn b6 h
          refine lv_aload hx hb d_X_shift_53 (lv_at hl 1 rfl) ?_
          refine fg_X_224 C hw (tTi g3) d_X_shift_55 ?_
          refine lv_aload hx hb d_X_shift_58 (lv_at hl 0 rfl) ?_
          refine fg_X_224 C hw (tTi g4) d_X_shift_60 ?_
          refine lv_icmp_eq (tgt := 69) hx hb d_X_shift_63 (by decide) (fun b7 => ?_) (fun b7 => ?_)
          · replace h := ifp b7 h
            refine lv_iload hx hb d_X_shift_69 (lv_at hl 7 rfl) ?_
            refine lv_if_lt (tgt := 107) hx hb d_X_shift_71 (by decide) (fun b8 => ?_) (fun b8 => ?_)
            · replace h := ifp b8 h
              refine lv_bipush (v := (-13)) hx hb d_X_shift_107 (by decide) ?_
              exact retI C hw rfl (Option.some.inj h) d_X_shift_109
            · replace h := ifn b8 h
              refine lv_iload_n hx hb d_X_shift_74 rfl (lv_at hl 4 rfl) ?_
              refine lv_iconst (v := 0) hx hb d_X_shift_75 (by decide) ?_
              refine lv_aload hx hb d_X_shift_76 (lv_at hl 1 rfl) ?_
              refine fg_X_227 C hw (tTi g3) d_X_shift_78 ?_
              refine lv_iload hx hb d_X_shift_81 (lv_at hl 7 rfl) ?_
              refine lv_isub hx hb d_X_shift_83 ?_
              refine clZ0 (v := (f_X_inside p2 0 ((vI σ (92 + 2 * nx p1) 1) - p5))) C hw (invS (As := [.int p2, .int 0, .int ((vI σ (92 + 2 * nx p1) 1) - p5)]) C hw (c_X_inside g p2 0 ((vI σ (92 + 2 * nx p1) 1) - p5) σ l) rfl wc_X_83 nd_X_inside.2 ⟨by decide, by decide⟩ rfl hl.1 rfl (Nat.le_of_ble_eq_true rfl) d_X_shift_84 ⟨Nat.le_refl _, Nat.le_refl _⟩) (fun H locs hw => ?_)
              refine ifB (tgt := 107) C d_X_shift_87 (by decide) (fun b9 => ?_) (fun b9 => ?_)
              · replace h := ifp b9 h
                refine lv_bipush (v := (-13)) hx hb d_X_shift_107 (by decide) ?_
                exact retI C hw rfl (Option.some.inj h) d_X_shift_109
              · replace h := ifn b9 h
                refine lv_iload hx hb d_X_shift_90 (lv_at hl 6 rfl) ?_
                refine lv_iconst (v := 0) hx hb d_X_shift_92 (by decide) ?_
                refine lv_aload hx hb d_X_shift_93 (lv_at hl 0 rfl) ?_
                refine fg_X_227 C hw (tTi g4) d_X_shift_95 ?_
                refine lv_iload hx hb d_X_shift_98 (lv_at hl 7 rfl) ?_
                refine lv_isub hx hb d_X_shift_100 ?_
                refine clZ0 (v := (f_X_inside p4 0 ((vI σ (92 + 2 * nx p3) 1) - p5))) C hw (invS (As := [.int p4, .int 0, .int ((vI σ (92 + 2 * nx p3) 1) - p5)]) C hw (c_X_inside g p4 0 ((vI σ (92 + 2 * nx p3) 1) - p5) σ l) rfl wc_X_83 nd_X_inside.2 ⟨by decide, by decide⟩ rfl hl.1 rfl (Nat.le_of_ble_eq_true rfl) d_X_shift_101 ⟨Nat.le_refl _, Nat.le_refl _⟩) (fun H locs hw => ?_)
                refine ifnB (tgt := 110) C d_X_shift_104 (by decide) (fun b10 => ?_) (fun b10 => ?_)
                · replace h := ifn b10 h
                  refine lv_aload hx hb d_X_shift_110 (lv_at hl 1 rfl) ?_
                  refine fg_X_230 C hw (tTi g3) d_X_shift_112 ?_
                  refine lv_iload_n hx hb d_X_shift_115 rfl (lv_at hl 4 rfl) ?_
                  refine lv_aload hx hb d_X_shift_116 (lv_at hl 0 rfl) ?_
                  refine fg_X_230 C hw (tTi g4) d_X_shift_118 ?_
                  refine lv_iload hx hb d_X_shift_121 (lv_at hl 6 rfl) ?_
                  refine lv_iload hx hb d_X_shift_123 (lv_at hl 7 rfl) ?_
                  refine gde h (fun g11 h => ?_)
                  refine gde h (fun g12 h => ?_)
                  refine ste h (fun s13 e14 h => ?_)
                  refine cpL (n0 := 60) (n1 := 60) C hw wc_X_189 (tT_1 (tTi g3)) (by decide) (tT_1 (tTi g4)) (by decide) g11 g12 hl.1 (Nat.le_of_ble_eq_true rfl) (Nat.le_of_ble_eq_true rfl) d_X_shift_125 (fun H locs hw => ?_)
                  replace hw := HWe hw e14
                  refine lv_iload hx hb d_X_shift_128 (lv_at hl 7 rfl) ?_
                  exact retI C hw rfl (Option.some.inj h) d_X_shift_130
                · replace h := ifp b10 h
                  refine lv_bipush (v := (-13)) hx hb d_X_shift_107 (by decide) ?_
                  exact retI C hw rfl (Option.some.inj h) d_X_shift_109
          · replace h := ifn b7 h
            refine lv_bipush (v := (-12)) hx hb d_X_shift_66 (by decide) ?_
            exact retI C hw rfl (Option.some.inj h) d_X_shift_68
        · replace h := ifp b6 h
          refine lv_bipush (v := (-11)) hx hb d_X_shift_50 (by decide) ?_
          exact retI C hw rfl (Option.some.inj h) d_X_shift_52
    · replace h := ifp b2 h
      refine lv_iconst (v := (-1)) hx hb d_X_shift_14 (by decide) ?_
      exact retI C hw rfl (Option.some.inj h) d_X_shift_15
