/-! ===== read off the bytecode by a program: each method as a function, and its walk ===== -/
def f_X_inside (p0 : Int32) (p1 : Int32) (p2 : Int32) : Bool := (if p0 < p1 then false else (if p2 < p0 then false else true))
set_option maxHeartbeats 400000 in
set_option maxRecDepth 20000 in
theorem c_X_inside (g : GX) (p0 : Int32) (p1 : Int32) (p2 : Int32) (σ : St) (l : Launch) : CT BX l y_X_inside (v_X_inside :: lwG) 1 [.int p0, .int p1, .int p2] g σ (QZ BX g (f_X_inside p0 p1 p2, σ)) := by
  generalize h : f_X_inside p0 p1 p2 = q
  refine mkC (cc := b_X_inside) (maxL := 3) (ret := (some .boolean)) rfl (by decide) rfl (Nat.le_of_ble_eq_true rfl) ?_
  intro p e s m args below meth c A ls C hl hw
  obtain ⟨hx, hb, hr, hml, hown, hts, hK, hE, hA, hlk⟩ := id C
  replace hl : lv_has ls 3 [(0, .int p0), (1, .int p1), (2, .int p2)] := hl
  obtain ⟨H, hH⟩ : ∃ z, z = s.heap := ⟨_, rfl⟩
  rw [← hH] at hw ⊢
  obtain ⟨locs, hlo⟩ : ∃ z : List Loc, z = [] := ⟨_, rfl⟩
  rw [← hlo] at hw ⊢
  unfold f_X_inside at h
  refine lv_iload_n hx hb d_X_inside_0 rfl (lv_at hl 0 rfl) ?_
  refine lv_iload_n hx hb d_X_inside_1 rfl (lv_at hl 1 rfl) ?_
  refine lv_icmp_lt (tgt := 14) hx hb d_X_inside_2 (by decide) (fun b1 => ?_) (fun b1 => ?_)
  · replace h := ifp b1 h
    refine lv_iconst (v := 0) hx hb d_X_inside_14 (by decide) ?_
    exact retZ (b := false) C hw rfl rfl (congrArg (fun z => (z, σ)) h) d_X_inside_15
  · replace h := ifn b1 h
    refine lv_iload_n hx hb d_X_inside_5 rfl (lv_at hl 0 rfl) ?_
    refine lv_iload_n hx hb d_X_inside_6 rfl (lv_at hl 2 rfl) ?_
    refine lv_icmp_gt (tgt := 14) hx hb d_X_inside_7 (by decide) (fun b2 => ?_) (fun b2 => ?_)
    · replace h := ifp b2 h
      refine lv_iconst (v := 0) hx hb d_X_inside_14 (by decide) ?_
      exact retZ (b := false) C hw rfl rfl (congrArg (fun z => (z, σ)) h) d_X_inside_15
    · replace h := ifn b2 h
      refine lv_iconst (v := 1) hx hb d_X_inside_10 (by decide) ?_
      refine lv_goto (tgt := 15) hx hb d_X_inside_11 (by decide) ?_
      exact retZ (b := true) C hw rfl rfl (congrArg (fun z => (z, σ)) h) d_X_inside_15
def f_X_taker (c0 : Nat) (p1 : Int32) (p2 : Int32) (p3 : Int32) (σ : St) : Option (Int32 × St) := (if (f_X_inside p1 0 6) = false then some ((-1), σ) else (if (f_X_inside p2 0 9) = false then some ((-2), σ) else (if (f_X_inside p3 1 60) = false then some ((-2), σ) else (if 6 ≤ (vI σ 49 0) then some ((-4), σ) else ((f_K_admit 49 p1 p2 p3 σ).bind fun q5 => some (q5.1, q5.2))))))
set_option maxHeartbeats 400000 in
set_option maxRecDepth 20000 in
theorem c_X_taker (g : GX) (c0 : Nat) (hc0 : tg BX c0 0) (p1 : Int32) (p2 : Int32) (p3 : Int32) (σ : St) (q : Int32 × St) (h : f_X_taker c0 p1 p2 p3 σ = some q) (l : Launch) : CT BX l y_X_taker (v_X_taker :: lwG) 2 [.ref (g.2.1 c0), .int p1, .int p2, .int p3] g σ (QI BX g q) := by
  refine mkC (cc := b_X_taker) (maxL := 4) (ret := (some .int)) rfl (by decide) rfl (Nat.le_of_ble_eq_true rfl) ?_
  intro p e s m args below meth c A ls C hl hw
  obtain ⟨hx, hb, hr, hml, hown, hts, hK, hE, hA, hlk⟩ := id C
  replace hl : lv_has ls 4 [(0, .ref (g.2.1 c0)), (1, .int p1), (2, .int p2), (3, .int p3)] := hl
  obtain ⟨H, hH⟩ : ∃ z, z = s.heap := ⟨_, rfl⟩
  rw [← hH] at hw ⊢
  obtain ⟨locs, hlo⟩ : ∃ z : List Loc, z = [] := ⟨_, rfl⟩
  rw [← hlo] at hw ⊢
  unfold f_X_taker at h
  refine lv_iload_n hx hb d_X_taker_0 rfl (lv_at hl 1 rfl) ?_
  refine lv_iconst (v := 0) hx hb d_X_taker_1 (by decide) ?_
  refine lv_bipush (v := 6) hx hb d_X_taker_2 (by decide) ?_
  refine clZ0 (v := (f_X_inside p1 0 6)) C hw (invS (As := [.int p1, .int 0, .int 6]) C hw (c_X_inside g p1 0 6 σ l) rfl wc_X_83 nd_X_inside.2 ⟨by decide, by decide⟩ rfl hl.1 rfl (Nat.le_of_ble_eq_true rfl) d_X_taker_4 ⟨Nat.le_refl _, Nat.le_refl _⟩) (fun H locs hw => ?_)
  refine ifnB (tgt := 12) C d_X_taker_7 (by decide) (fun b1 => ?_) (fun b1 => ?_)
  · replace h := ifn b1 h
    refine lv_iload_n hx hb d_X_taker_12 rfl (lv_at hl 2 rfl) ?_
    refine lv_iconst (v := 0) hx hb d_X_taker_13 (by decide) ?_
    refine lv_bipush (v := 9) hx hb d_X_taker_14 (by decide) ?_
    refine clZ0 (v := (f_X_inside p2 0 9)) C hw (invS (As := [.int p2, .int 0, .int 9]) C hw (c_X_inside g p2 0 9 σ l) rfl wc_X_83 nd_X_inside.2 ⟨by decide, by decide⟩ rfl hl.1 rfl (Nat.le_of_ble_eq_true rfl) d_X_taker_16 ⟨Nat.le_refl _, Nat.le_refl _⟩) (fun H locs hw => ?_)
    refine ifB (tgt := 32) C d_X_taker_19 (by decide) (fun b2 => ?_) (fun b2 => ?_)
    · replace h := ifp b2 h
      refine lv_bipush (v := (-2)) hx hb d_X_taker_32 (by decide) ?_
      exact retI C hw rfl (Option.some.inj h) d_X_taker_34
    · replace h := ifn b2 h
      refine lv_iload_n hx hb d_X_taker_22 rfl (lv_at hl 3 rfl) ?_
      refine lv_iconst (v := 1) hx hb d_X_taker_23 (by decide) ?_
      refine lv_bipush (v := 60) hx hb d_X_taker_24 (by decide) ?_
      refine clZ0 (v := (f_X_inside p3 1 60)) C hw (invS (As := [.int p3, .int 1, .int 60]) C hw (c_X_inside g p3 1 60 σ l) rfl wc_X_83 nd_X_inside.2 ⟨by decide, by decide⟩ rfl hl.1 rfl (Nat.le_of_ble_eq_true rfl) d_X_taker_26 ⟨Nat.le_refl _, Nat.le_refl _⟩) (fun H locs hw => ?_)
      refine ifnB (tgt := 35) C d_X_taker_29 (by decide) (fun b3 => ?_) (fun b3 => ?_)
      · replace h := ifn b3 h
        refine lv_aload_n hx hb d_X_taker_35 rfl (lv_at hl 0 rfl) ?_
        refine fg_X_23 C hw hc0 d_X_taker_36 ?_
        refine fg_X_87 C hw tX_49 d_X_taker_39 ?_
        refine lv_bipush (v := 6) hx hb d_X_taker_42 (by decide) ?_
        refine lv_icmp_ge (tgt := 60) hx hb d_X_taker_44 (by decide) (fun b4 => ?_) (fun b4 => ?_)
        · replace h := ifp b4 h
          refine lv_bipush (v := (-4)) hx hb d_X_taker_60 (by decide) ?_
          exact retI C hw rfl (Option.some.inj h) d_X_taker_62
        · replace h := ifn b4 h
          refine lv_aload_n hx hb d_X_taker_47 rfl (lv_at hl 0 rfl) ?_
          refine fg_X_23 C hw hc0 d_X_taker_48 ?_
          refine lv_iload_n hx hb d_X_taker_51 rfl (lv_at hl 1 rfl) ?_
          refine lv_iload_n hx hb d_X_taker_52 rfl (lv_at hl 2 rfl) ?_
          refine lv_iload_n hx hb d_X_taker_53 rfl (lv_at hl 3 rfl) ?_
          refine bnd h (fun q5 k6 h => ?_)
          refine clI C hw (invV (As := [.int p1, .int p2, .int p3]) C hw (c_K_admit g 49 tX_49 p1 p2 p3 σ q5 k6 l) rfl wc_X_90 nd_K_admit ⟨by decide, by decide⟩ (rc_K C hw tX_49) rfl hl.1 rfl (Nat.le_of_ble_eq_true rfl) d_X_taker_54 ⟨Nat.le_refl _, Nat.le_refl _⟩) (fun H locs hw => ?_)
          refine lv_goto (tgt := 62) hx hb d_X_taker_57 (by decide) ?_
          exact retI C hw rfl (Option.some.inj h) d_X_taker_62
      · replace h := ifp b3 h
        refine lv_bipush (v := (-2)) hx hb d_X_taker_32 (by decide) ?_
        exact retI C hw rfl (Option.some.inj h) d_X_taker_34
  · replace h := ifp b1 h
    refine lv_iconst (v := (-1)) hx hb d_X_taker_10 (by decide) ?_
    exact retI C hw rfl (Option.some.inj h) d_X_taker_11
def f_X_isTaker (c0 : Nat) (p1 : Int32) (σ : St) : Bool := (f_X_inside p1 0 ((vI σ 49 0) - 1))
set_option maxHeartbeats 400000 in
set_option maxRecDepth 20000 in
theorem c_X_isTaker (g : GX) (c0 : Nat) (hc0 : tg BX c0 0) (p1 : Int32) (σ : St) (l : Launch) : CT BX l y_X_isTaker (v_X_isTaker :: lwG) 2 [.ref (g.2.1 c0), .int p1] g σ (QZ BX g (f_X_isTaker c0 p1 σ, σ)) := by
  generalize h : f_X_isTaker c0 p1 σ = q
  refine mkC (cc := b_X_isTaker) (maxL := 2) (ret := (some .boolean)) rfl (by decide) rfl (Nat.le_of_ble_eq_true rfl) ?_
  intro p e s m args below meth c A ls C hl hw
  obtain ⟨hx, hb, hr, hml, hown, hts, hK, hE, hA, hlk⟩ := id C
  replace hl : lv_has ls 2 [(0, .ref (g.2.1 c0)), (1, .int p1)] := hl
  obtain ⟨H, hH⟩ : ∃ z, z = s.heap := ⟨_, rfl⟩
  rw [← hH] at hw ⊢
  obtain ⟨locs, hlo⟩ : ∃ z : List Loc, z = [] := ⟨_, rfl⟩
  rw [← hlo] at hw ⊢
  unfold f_X_isTaker at h
  refine lv_iload_n hx hb d_X_isTaker_0 rfl (lv_at hl 1 rfl) ?_
  refine lv_iconst (v := 0) hx hb d_X_isTaker_1 (by decide) ?_
  refine lv_aload_n hx hb d_X_isTaker_2 rfl (lv_at hl 0 rfl) ?_
  refine fg_X_23 C hw hc0 d_X_isTaker_3 ?_
  refine fg_X_87 C hw tX_49 d_X_isTaker_6 ?_
  refine lv_iconst (v := 1) hx hb d_X_isTaker_9 (by decide) ?_
  refine lv_isub hx hb d_X_isTaker_10 ?_
  refine clZ0 (v := (f_X_inside p1 0 ((vI σ 49 0) - 1))) C hw (invS (As := [.int p1, .int 0, .int ((vI σ 49 0) - 1)]) C hw (c_X_inside g p1 0 ((vI σ 49 0) - 1) σ l) rfl wc_X_83 nd_X_inside.2 ⟨by decide, by decide⟩ rfl hl.1 rfl (Nat.le_of_ble_eq_true rfl) d_X_isTaker_11 ⟨Nat.le_refl _, Nat.le_refl _⟩) (fun H locs hw => ?_)
  exact retZ (b := (f_X_inside p1 0 ((vI σ 49 0) - 1))) C hw rfl rfl (congrArg (fun z => (z, σ)) h) d_X_isTaker_14
def f_X_of (c0 : Nat) (p1 : Int32) (p2 : Int32) (σ : St) : Option (Int32 × St) := (if (f_X_isTaker c0 p1 σ) = false then some ((-1), σ) else (if p2 = 0 then (if ok p1 6 = true then some ((vJ σ (49 + 1) (nx p1)), σ) else none) else (if p2 = 1 then (if ok p1 6 = true then some ((vJ σ (49 + 2) (nx p1)), σ) else none) else (if p2 = 2 then (if ok p1 6 = true then some ((vJ σ (49 + 3) (nx p1)), σ) else none) else (if p2 = 3 then (if ok p1 6 = true then some ((vJ σ (49 + 4) (nx p1)), σ) else none) else (if p2 = 4 then (if ok p1 6 = true then some ((vJ σ (49 + 5) (nx p1)), σ) else none) else (if p2 = 5 then (if ok p1 6 = true then some ((vJ σ (49 + 6) (nx p1)), σ) else none) else (if p2 = 6 then ((f_K_wants 49 p1 σ).bind fun q15 => some (q15.1, q15.2)) else (if p2 = 7 then ((f_K_pay 49 p1 σ).bind fun q18 => some (q18.1, q18.2)) else some ((-1), σ))))))))))
set_option maxHeartbeats 400000 in
set_option maxRecDepth 20000 in
theorem c_X_of (g : GX) (c0 : Nat) (hc0 : tg BX c0 0) (p1 : Int32) (p2 : Int32) (σ : St) (q : Int32 × St) (h : f_X_of c0 p1 p2 σ = some q) (l : Launch) : CT BX l y_X_of (v_X_of :: lwG) 5 [.ref (g.2.1 c0), .int p1, .int p2] g σ (QI BX g q) := by
  refine mkC (cc := b_X_of) (maxL := 3) (ret := (some .int)) rfl (by decide) rfl (Nat.le_of_ble_eq_true rfl) ?_
  intro p e s m args below meth c A ls C hl hw
  obtain ⟨hx, hb, hr, hml, hown, hts, hK, hE, hA, hlk⟩ := id C
  replace hl : lv_has ls 3 [(0, .ref (g.2.1 c0)), (1, .int p1), (2, .int p2)] := hl
  obtain ⟨H, hH⟩ : ∃ z, z = s.heap := ⟨_, rfl⟩
  rw [← hH] at hw ⊢
  obtain ⟨locs, hlo⟩ : ∃ z : List Loc, z = [] := ⟨_, rfl⟩
  rw [← hlo] at hw ⊢
  unfold f_X_of at h
  refine lv_aload_n hx hb d_X_of_0 rfl (lv_at hl 0 rfl) ?_
  refine lv_iload_n hx hb d_X_of_1 rfl (lv_at hl 1 rfl) ?_
  refine clZ0 (v := (f_X_isTaker c0 p1 σ)) C hw (invV (As := [.int p1]) C hw (c_X_isTaker g c0 hc0 p1 σ l) rfl wc_X_94 nd_X_isTaker ⟨by decide, by decide⟩ (rc_X C hw hc0) rfl hl.1 rfl (Nat.le_of_ble_eq_true rfl) d_X_of_2 ⟨Nat.le_refl _, Nat.le_refl _⟩) (fun H locs hw => ?_)
  refine ifnB (tgt := 10) C d_X_of_5 (by decide) (fun b1 => ?_) (fun b1 => ?_)
  · replace h := ifn b1 h
    refine lv_iload_n hx hb d_X_of_10 rfl (lv_at hl 2 rfl) ?_
    by_cases b2 : p2 = 0
    · replace h := ifp b2 h
      refine swIn (k := 0) (tgt := 56) C b2 d_X_of_11 (by decide) rfl (by decide) ?_
      refine lv_aload_n hx hb d_X_of_56 rfl (lv_at hl 0 rfl) ?_
      refine fg_X_23 C hw hc0 d_X_of_57 ?_
      refine fg_X_98 C hw tX_49 d_X_of_60 ?_
      refine lv_iload_n hx hb d_X_of_63 rfl (lv_at hl 1 rfl) ?_
      refine gde h (fun g3 h => ?_)
      refine ldI (n := 6) C hw (tK_1 tX_49) (by decide) g3 d_X_of_64 ?_
      exact retI C hw rfl (Option.some.inj h) d_X_of_65
    · replace h := ifn b2 h
      by_cases b4 : p2 = 1
      · replace h := ifp b4 h
        refine swIn (k := 1) (tgt := 66) C b4 d_X_of_11 (by decide) rfl (by decide) ?_
        refine lv_aload_n hx hb d_X_of_66 rfl (lv_at hl 0 rfl) ?_
        refine fg_X_23 C hw hc0 d_X_of_67 ?_
        refine fg_X_101 C hw tX_49 d_X_of_70 ?_
        refine lv_iload_n hx hb d_X_of_73 rfl (lv_at hl 1 rfl) ?_
        refine gde h (fun g5 h => ?_)
        refine ldI (n := 6) C hw (tK_2 tX_49) (by decide) g5 d_X_of_74 ?_
        exact retI C hw rfl (Option.some.inj h) d_X_of_75
      · replace h := ifn b4 h
        by_cases b6 : p2 = 2
        · replace h := ifp b6 h
          refine swIn (k := 2) (tgt := 76) C b6 d_X_of_11 (by decide) rfl (by decide) ?_
          refine lv_aload_n hx hb d_X_of_76 rfl (lv_at hl 0 rfl) ?_
          refine fg_X_23 C hw hc0 d_X_of_77 ?_
          refine fg_X_104 C hw tX_49 d_X_of_80 ?_
          refine lv_iload_n hx hb d_X_of_83 rfl (lv_at hl 1 rfl) ?_
          refine gde h (fun g7 h => ?_)
          refine ldI (n := 6) C hw (tK_3 tX_49) (by decide) g7 d_X_of_84 ?_
          exact retI C hw rfl (Option.some.inj h) d_X_of_85
        · replace h := ifn b6 h
          by_cases b8 : p2 = 3
          · replace h := ifp b8 h
            refine swIn (k := 3) (tgt := 86) C b8 d_X_of_11 (by decide) rfl (by decide) ?_
            refine lv_aload_n hx hb d_X_of_86 rfl (lv_at hl 0 rfl) ?_
            refine fg_X_23 C hw hc0 d_X_of_87 ?_
            refine fg_X_107 C hw tX_49 d_X_of_90 ?_
            refine lv_iload_n hx hb d_X_of_93 rfl (lv_at hl 1 rfl) ?_
            refine gde h (fun g9 h => ?_)
            refine ldI (n := 6) C hw (tK_4 tX_49) (by decide) g9 d_X_of_94 ?_
            exact retI C hw rfl (Option.some.inj h) d_X_of_95
          · replace h := ifn b8 h
            by_cases b10 : p2 = 4
            · replace h := ifp b10 h
              refine swIn (k := 4) (tgt := 96) C b10 d_X_of_11 (by decide) rfl (by decide) ?_
              refine lv_aload_n hx hb d_X_of_96 rfl (lv_at hl 0 rfl) ?_
              refine fg_X_23 C hw hc0 d_X_of_97 ?_
              refine fg_X_110 C hw tX_49 d_X_of_100 ?_
              refine lv_iload_n hx hb d_X_of_103 rfl (lv_at hl 1 rfl) ?_
              refine gde h (fun g11 h => ?_)
              refine ldI (n := 6) C hw (tK_5 tX_49) (by decide) g11 d_X_of_104 ?_
              exact retI C hw rfl (Option.some.inj h) d_X_of_105
            · replace h := ifn b10 h
              by_cases b12 : p2 = 5
              · replace h := ifp b12 h
                refine swIn (k := 5) (tgt := 106) C b12 d_X_of_11 (by decide) rfl (by decide) ?_
                refine lv_aload_n hx hb d_X_of_106 rfl (lv_at hl 0 rfl) ?_
                refine fg_X_23 C hw hc0 d_X_of_107 ?_
                refine fg_X_113 C hw tX_49 d_X_of_110 ?_
                refine lv_iload_n hx hb d_X_of_113 rfl (lv_at hl 1 rfl) ?_
                refine gde h (fun g13 h => ?_)
                refine ldI (n := 6) C hw (tK_6 tX_49) (by decide) g13 d_X_of_114 ?_
                exact retI C hw rfl (Option.some.inj h) d_X_of_115
              · replace h := ifn b12 h
                by_cases b14 : p2 = 6
                · replace h := ifp b14 h
                  refine swIn (k := 6) (tgt := 116) C b14 d_X_of_11 (by decide) rfl (by decide) ?_
                  refine lv_aload_n hx hb d_X_of_116 rfl (lv_at hl 0 rfl) ?_
                  refine fg_X_23 C hw hc0 d_X_of_117 ?_
                  refine lv_iload_n hx hb d_X_of_120 rfl (lv_at hl 1 rfl) ?_
                  refine bnd h (fun q15 k16 h => ?_)
                  refine clI C hw (invV (As := [.int p1]) C hw (c_K_wants g 49 tX_49 p1 σ q15 k16 l) rfl wc_X_116 nd_K_wants ⟨by decide, by decide⟩ (rc_K C hw tX_49) rfl hl.1 rfl (Nat.le_of_ble_eq_true rfl) d_X_of_121 ⟨Nat.le_refl _, Nat.le_refl _⟩) (fun H locs hw => ?_)
                  exact retI C hw rfl (Option.some.inj h) d_X_of_124
                · replace h := ifn b14 h
                  by_cases b17 : p2 = 7
                  · replace h := ifp b17 h
                    refine swIn (k := 7) (tgt := 125) C b17 d_X_of_11 (by decide) rfl (by decide) ?_
                    refine lv_aload_n hx hb d_X_of_125 rfl (lv_at hl 0 rfl) ?_
                    refine fg_X_23 C hw hc0 d_X_of_126 ?_
                    refine lv_iload_n hx hb d_X_of_129 rfl (lv_at hl 1 rfl) ?_
                    refine bnd h (fun q18 k19 h => ?_)
                    refine clI C hw (invV (As := [.int p1]) C hw (c_K_pay g 49 tX_49 p1 σ q18 k19 l) rfl wc_X_120 nd_K_pay ⟨by decide, by decide⟩ (rc_K C hw tX_49) rfl hl.1 rfl (Nat.le_of_ble_eq_true rfl) d_X_of_130 ⟨Nat.le_refl _, Nat.le_refl _⟩) (fun H locs hw => ?_)
                    exact retI C hw rfl (Option.some.inj h) d_X_of_133
                  · replace h := ifn b17 h
                    refine swOut (tgt := 134) C d_X_of_11 (fun z9 l9 h9 e9 => ?_) (by decide) ?_
                    · have e10 : z9 = 0 ∨ z9 = 1 ∨ z9 = 2 ∨ z9 = 3 ∨ z9 = 4 ∨ z9 = 5 ∨ z9 = 6 ∨ z9 = 7 := by omega
                      rcases e10 with e10 | e10 | e10 | e10 | e10 | e10 | e10 | e10
                      · exact lv_neT b2 (by decide) (e9.trans e10)
                      · exact lv_neT b4 (by decide) (e9.trans e10)
                      · exact lv_neT b6 (by decide) (e9.trans e10)
                      · exact lv_neT b8 (by decide) (e9.trans e10)
                      · exact lv_neT b10 (by decide) (e9.trans e10)
                      · exact lv_neT b12 (by decide) (e9.trans e10)
                      · exact lv_neT b14 (by decide) (e9.trans e10)
                      · exact lv_neT b17 (by decide) (e9.trans e10)
                    · refine lv_iconst (v := (-1)) hx hb d_X_of_134 (by decide) ?_
                      exact retI C hw rfl (Option.some.inj h) d_X_of_135
  · replace h := ifp b1 h
    refine lv_iconst (v := (-1)) hx hb d_X_of_8 (by decide) ?_
    exact retI C hw rfl (Option.some.inj h) d_X_of_9
def f_X_portion (c0 : Nat) (p1 : Int32) (p2 : Int32) (σ : St) : Option (Int32 × St) := (if (f_X_isTaker c0 p1 σ) = false then some ((-1), σ) else (if (f_X_inside p2 1 60) = false then some ((-2), σ) else (if ok p1 6 = true then (if ok p1 6 = true then (st (sJ σ (49 + 3) (upd (vJ σ (49 + 3)) (nx p1) p2)) fun s5 => some ((vJ σ (49 + 3) (nx p1)), s5)) else none) else none)))
set_option maxHeartbeats 400000 in
set_option maxRecDepth 20000 in
theorem c_X_portion (g : GX) (c0 : Nat) (hc0 : tg BX c0 0) (p1 : Int32) (p2 : Int32) (σ : St) (q : Int32 × St) (h : f_X_portion c0 p1 p2 σ = some q) (l : Launch) : CT BX l y_X_portion (v_X_portion :: lwG) 3 [.ref (g.2.1 c0), .int p1, .int p2] g σ (QI BX g q) := by
  refine mkC (cc := b_X_portion) (maxL := 4) (ret := (some .int)) rfl (by decide) rfl (Nat.le_of_ble_eq_true rfl) ?_
  intro p e s m args below meth c A ls C hl hw
  obtain ⟨hx, hb, hr, hml, hown, hts, hK, hE, hA, hlk⟩ := id C
  replace hl : lv_has ls 4 [(0, .ref (g.2.1 c0)), (1, .int p1), (2, .int p2)] := hl
  obtain ⟨H, hH⟩ : ∃ z, z = s.heap := ⟨_, rfl⟩
  rw [← hH] at hw ⊢
  obtain ⟨locs, hlo⟩ : ∃ z : List Loc, z = [] := ⟨_, rfl⟩
  rw [← hlo] at hw ⊢
  unfold f_X_portion at h
  refine lv_aload_n hx hb d_X_portion_0 rfl (lv_at hl 0 rfl) ?_
  refine lv_iload_n hx hb d_X_portion_1 rfl (lv_at hl 1 rfl) ?_
  refine clZ0 (v := (f_X_isTaker c0 p1 σ)) C hw (invV (As := [.int p1]) C hw (c_X_isTaker g c0 hc0 p1 σ l) rfl wc_X_94 nd_X_isTaker ⟨by decide, by decide⟩ (rc_X C hw hc0) rfl hl.1 rfl (Nat.le_of_ble_eq_true rfl) d_X_portion_2 ⟨Nat.le_refl _, Nat.le_refl _⟩) (fun H locs hw => ?_)
  refine ifnB (tgt := 10) C d_X_portion_5 (by decide) (fun b1 => ?_) (fun b1 => ?_)
  · replace h := ifn b1 h
    refine lv_iload_n hx hb d_X_portion_10 rfl (lv_at hl 2 rfl) ?_
    refine lv_iconst (v := 1) hx hb d_X_portion_11 (by decide) ?_
    refine lv_bipush (v := 60) hx hb d_X_portion_12 (by decide) ?_
    refine clZ0 (v := (f_X_inside p2 1 60)) C hw (invS (As := [.int p2, .int 1, .int 60]) C hw (c_X_inside g p2 1 60 σ l) rfl wc_X_83 nd_X_inside.2 ⟨by decide, by decide⟩ rfl hl.1 rfl (Nat.le_of_ble_eq_true rfl) d_X_portion_14 ⟨Nat.le_refl _, Nat.le_refl _⟩) (fun H locs hw => ?_)
    refine ifnB (tgt := 23) C d_X_portion_17 (by decide) (fun b2 => ?_) (fun b2 => ?_)
    · replace h := ifn b2 h
      refine lv_aload_n hx hb d_X_portion_23 rfl (lv_at hl 0 rfl) ?_
      refine fg_X_23 C hw hc0 d_X_portion_24 ?_
      refine fg_X_104 C hw tX_49 d_X_portion_27 ?_
      refine lv_iload_n hx hb d_X_portion_30 rfl (lv_at hl 1 rfl) ?_
      refine gde h (fun g3 h => ?_)
      refine ldI (n := 6) C hw (tK_3 tX_49) (by decide) g3 d_X_portion_31 ?_
      refine lv_istore_n (lv' := [(3, .int (vJ σ (49 + 3) (nx p1))), (0, .ref (g.2.1 c0)), (1, .int p1), (2, .int p2)]) hx hb d_X_portion_32 rfl hl (by decide) rfl (fun ls hl => ?_)
      refine lv_aload_n hx hb d_X_portion_33 rfl (lv_at hl 1 rfl) ?_
      refine fg_X_23 C hw hc0 d_X_portion_34 ?_
      refine fg_X_104 C hw tX_49 d_X_portion_37 ?_
      refine lv_iload_n hx hb d_X_portion_40 rfl (lv_at hl 2 rfl) ?_
      refine lv_iload_n hx hb d_X_portion_41 rfl (lv_at hl 3 rfl) ?_
      refine gde h (fun g4 h => ?_)
      refine ste h (fun s5 e6 h => ?_)
      refine stI (n := 6) C hw (tK_3 tX_49) (by decide) g4 d_X_portion_42 (fun H locs hw => ?_)
      replace hw := HWe hw e6
      refine lv_iload_n hx hb d_X_portion_43 rfl (lv_at hl 0 rfl) ?_
      exact retI C hw rfl (Option.some.inj h) d_X_portion_44
    · replace h := ifp b2 h
      refine lv_bipush (v := (-2)) hx hb d_X_portion_20 (by decide) ?_
      exact retI C hw rfl (Option.some.inj h) d_X_portion_22
  · replace h := ifp b1 h
    refine lv_iconst (v := (-1)) hx hb d_X_portion_8 (by decide) ?_
    exact retI C hw rfl (Option.some.inj h) d_X_portion_9
def f_X_fill (c0 : Nat) (p1 : Int32) (σ : St) : Option (Int32 × St) := (if (f_X_inside p1 0 990) = false then some ((-2), σ) else (st (sI σ 49 8 p1) fun s3 => some ((vI σ 49 8), s3)))
set_option maxHeartbeats 400000 in
set_option maxRecDepth 20000 in
theorem c_X_fill (g : GX) (c0 : Nat) (hc0 : tg BX c0 0) (p1 : Int32) (σ : St) (q : Int32 × St) (h : f_X_fill c0 p1 σ = some q) (l : Launch) : CT BX l y_X_fill (v_X_fill :: lwG) 2 [.ref (g.2.1 c0), .int p1] g σ (QI BX g q) := by
  refine mkC (cc := b_X_fill) (maxL := 3) (ret := (some .int)) rfl (by decide) rfl (Nat.le_of_ble_eq_true rfl) ?_
  intro p e s m args below meth c A ls C hl hw
  obtain ⟨hx, hb, hr, hml, hown, hts, hK, hE, hA, hlk⟩ := id C
  replace hl : lv_has ls 3 [(0, .ref (g.2.1 c0)), (1, .int p1)] := hl
  obtain ⟨H, hH⟩ : ∃ z, z = s.heap := ⟨_, rfl⟩
  rw [← hH] at hw ⊢
  obtain ⟨locs, hlo⟩ : ∃ z : List Loc, z = [] := ⟨_, rfl⟩
  rw [← hlo] at hw ⊢
  unfold f_X_fill at h
  refine lv_iload_n hx hb d_X_fill_0 rfl (lv_at hl 1 rfl) ?_
  refine lv_iconst (v := 0) hx hb d_X_fill_1 (by decide) ?_
  refine lv_sipush (v := 990) hx hb d_X_fill_2 (by decide) ?_
  refine clZ0 (v := (f_X_inside p1 0 990)) C hw (invS (As := [.int p1, .int 0, .int 990]) C hw (c_X_inside g p1 0 990 σ l) rfl wc_X_83 nd_X_inside.2 ⟨by decide, by decide⟩ rfl hl.1 rfl (Nat.le_of_ble_eq_true rfl) d_X_fill_5 ⟨Nat.le_refl _, Nat.le_refl _⟩) (fun H locs hw => ?_)
  refine ifnB (tgt := 14) C d_X_fill_8 (by decide) (fun b1 => ?_) (fun b1 => ?_)
  · replace h := ifn b1 h
    refine lv_aload_n hx hb d_X_fill_14 rfl (lv_at hl 0 rfl) ?_
    refine fg_X_23 C hw hc0 d_X_fill_15 ?_
    refine fg_X_123 C hw tX_49 d_X_fill_18 ?_
    refine lv_istore_n (lv' := [(2, .int (vI σ 49 8)), (0, .ref (g.2.1 c0)), (1, .int p1)]) hx hb d_X_fill_21 rfl hl (by decide) rfl (fun ls hl => ?_)
    refine lv_aload_n hx hb d_X_fill_22 rfl (lv_at hl 1 rfl) ?_
    refine fg_X_23 C hw hc0 d_X_fill_23 ?_
    refine lv_iload_n hx hb d_X_fill_26 rfl (lv_at hl 2 rfl) ?_
    refine ste h (fun s3 e4 h => ?_)
    refine fp_X_123 C hw tX_49 d_X_fill_27 (fun H locs hw => ?_)
    replace hw := HWe hw e4
    refine lv_iload_n hx hb d_X_fill_30 rfl (lv_at hl 0 rfl) ?_
    exact retI C hw rfl (Option.some.inj h) d_X_fill_31
  · replace h := ifp b1 h
    refine lv_bipush (v := (-2)) hx hb d_X_fill_11 (by decide) ?_
    exact retI C hw rfl (Option.some.inj h) d_X_fill_13
def f_X_row (c0 : Nat) (p1 : Int32) (p2 : Int32) (p3 : Int32) (σ : St) : Option (Int32 × St) := (if (f_X_isTaker c0 p1 σ) = false then some ((-1), σ) else (if (f_X_inside p2 0 3) = false then some ((-1), σ) else (if (f_X_inside p3 0 9) = false then some ((-2), σ) else (if ok p1 6 = true then (if (vJ σ (49 + 1) (nx p1)) = 6 then (if ok ((p1 * 4) + p2) 24 = true then (if ok ((p1 * 4) + p2) 24 = true then (st (sJ σ (49 + 7) (upd (vJ σ (49 + 7)) (nx ((p1 * 4) + p2)) p3)) fun s8 => some ((vJ σ (49 + 7) (nx ((p1 * 4) + p2))), s8)) else none) else none) else some ((-3), σ)) else none))))
set_option maxHeartbeats 400000 in
set_option maxRecDepth 20000 in
theorem c_X_row (g : GX) (c0 : Nat) (hc0 : tg BX c0 0) (p1 : Int32) (p2 : Int32) (p3 : Int32) (σ : St) (q : Int32 × St) (h : f_X_row c0 p1 p2 p3 σ = some q) (l : Launch) : CT BX l y_X_row (v_X_row :: lwG) 3 [.ref (g.2.1 c0), .int p1, .int p2, .int p3] g σ (QI BX g q) := by
  refine mkC (cc := b_X_row) (maxL := 6) (ret := (some .int)) rfl (by decide) rfl (Nat.le_of_ble_eq_true rfl) ?_
  intro p e s m args below meth c A ls C hl hw
  obtain ⟨hx, hb, hr, hml, hown, hts, hK, hE, hA, hlk⟩ := id C
  replace hl : lv_has ls 6 [(0, .ref (g.2.1 c0)), (1, .int p1), (2, .int p2), (3, .int p3)] := hl
  obtain ⟨H, hH⟩ : ∃ z, z = s.heap := ⟨_, rfl⟩
  rw [← hH] at hw ⊢
  obtain ⟨locs, hlo⟩ : ∃ z : List Loc, z = [] := ⟨_, rfl⟩
  rw [← hlo] at hw ⊢
  unfold f_X_row at h
  refine lv_aload_n hx hb d_X_row_0 rfl (lv_at hl 0 rfl) ?_
  refine lv_iload_n hx hb d_X_row_1 rfl (lv_at hl 1 rfl) ?_
  refine clZ0 (v := (f_X_isTaker c0 p1 σ)) C hw (invV (As := [.int p1]) C hw (c_X_isTaker g c0 hc0 p1 σ l) rfl wc_X_94 nd_X_isTaker ⟨by decide, by decide⟩ (rc_X C hw hc0) rfl hl.1 rfl (Nat.le_of_ble_eq_true rfl) d_X_row_2 ⟨Nat.le_refl _, Nat.le_refl _⟩) (fun H locs hw => ?_)
  refine ifB (tgt := 17) C d_X_row_5 (by decide) (fun b1 => ?_) (fun b1 => ?_)
  · replace h := ifp b1 h
    refine lv_iconst (v := (-1)) hx hb d_X_row_17 (by decide) ?_
    exact retI C hw rfl (Option.some.inj h) d_X_row_18
  · replace h := ifn b1 h
    refine lv_iload_n hx hb d_X_row_8 rfl (lv_at hl 2 rfl) ?_
    refine lv_iconst (v := 0) hx hb d_X_row_9 (by decide) ?_
    refine lv_iconst (v := 3) hx hb d_X_row_10 (by decide) ?_
    refine clZ0 (v := (f_X_inside p2 0 3)) C hw (invS (As := [.int p2, .int 0, .int 3]) C hw (c_X_inside g p2 0 3 σ l) rfl wc_X_83 nd_X_inside.2 ⟨by decide, by decide⟩ rfl hl.1 rfl (Nat.le_of_ble_eq_true rfl) d_X_row_11 ⟨Nat.le_refl _, Nat.le_refl _⟩) (fun H locs hw => ?_)
    refine ifnB (tgt := 19) C d_X_row_14 (by decide) (fun b2 => ?_) (fun b2 => ?_)
    · replace h := ifn b2 h
      refine lv_iload_n hx hb d_X_row_19 rfl (lv_at hl 3 rfl) ?_
      refine lv_iconst (v := 0) hx hb d_X_row_20 (by decide) ?_
      refine lv_bipush (v := 9) hx hb d_X_row_21 (by decide) ?_
      refine clZ0 (v := (f_X_inside p3 0 9)) C hw (invS (As := [.int p3, .int 0, .int 9]) C hw (c_X_inside g p3 0 9 σ l) rfl wc_X_83 nd_X_inside.2 ⟨by decide, by decide⟩ rfl hl.1 rfl (Nat.le_of_ble_eq_true rfl) d_X_row_23 ⟨Nat.le_refl _, Nat.le_refl _⟩) (fun H locs hw => ?_)
      refine ifnB (tgt := 32) C d_X_row_26 (by decide) (fun b3 => ?_) (fun b3 => ?_)
      · replace h := ifn b3 h
        refine lv_aload_n hx hb d_X_row_32 rfl (lv_at hl 0 rfl) ?_
        refine fg_X_23 C hw hc0 d_X_row_33 ?_
        refine fg_X_98 C hw tX_49 d_X_row_36 ?_
        refine lv_iload_n hx hb d_X_row_39 rfl (lv_at hl 1 rfl) ?_
        refine gde h (fun g4 h => ?_)
        refine ldI (n := 6) C hw (tK_1 tX_49) (by decide) g4 d_X_row_40 ?_
        refine lv_bipush (v := 6) hx hb d_X_row_41 (by decide) ?_
        refine lv_icmp_eq (tgt := 49) hx hb d_X_row_43 (by decide) (fun b5 => ?_) (fun b5 => ?_)
        · replace h := ifp b5 h
          refine lv_iload_n hx hb d_X_row_49 rfl (lv_at hl 1 rfl) ?_
          refine lv_iconst (v := 4) hx hb d_X_row_50 (by decide) ?_
          refine lv_imul hx hb d_X_row_51 ?_
          refine lv_iload_n hx hb d_X_row_52 rfl (lv_at hl 2 rfl) ?_
          refine lv_iadd hx hb d_X_row_53 ?_
          refine lv_istore (lv' := [(4, .int ((p1 * 4) + p2)), (0, .ref (g.2.1 c0)), (1, .int p1), (2, .int p2), (3, .int p3)]) hx hb d_X_row_54 hl (by decide) rfl (fun ls hl => ?_)
          refine lv_aload_n hx hb d_X_row_56 rfl (lv_at hl 1 rfl) ?_
          refine fg_X_23 C hw hc0 d_X_row_57 ?_
          refine fg_X_126 C hw tX_49 d_X_row_60 ?_
          refine lv_iload hx hb d_X_row_63 (lv_at hl 0 rfl) ?_
          refine gde h (fun g6 h => ?_)
          refine ldI (n := 24) C hw (tK_7 tX_49) (by decide) g6 d_X_row_65 ?_
          refine lv_istore (lv' := [(5, .int (vJ σ (49 + 7) (nx ((p1 * 4) + p2)))), (4, .int ((p1 * 4) + p2)), (0, .ref (g.2.1 c0)), (1, .int p1), (2, .int p2), (3, .int p3)]) hx hb d_X_row_66 hl (by decide) rfl (fun ls hl => ?_)
          refine lv_aload_n hx hb d_X_row_68 rfl (lv_at hl 2 rfl) ?_
          refine fg_X_23 C hw hc0 d_X_row_69 ?_
          refine fg_X_126 C hw tX_49 d_X_row_72 ?_
          refine lv_iload hx hb d_X_row_75 (lv_at hl 1 rfl) ?_
          refine lv_iload_n hx hb d_X_row_77 rfl (lv_at hl 5 rfl) ?_
          refine gde h (fun g7 h => ?_)
          refine ste h (fun s8 e9 h => ?_)
          refine stI (n := 24) C hw (tK_7 tX_49) (by decide) g7 d_X_row_78 (fun H locs hw => ?_)
          replace hw := HWe hw e9
          refine lv_iload hx hb d_X_row_79 (lv_at hl 0 rfl) ?_
          exact retI C hw rfl (Option.some.inj h) d_X_row_81
        · replace h := ifn b5 h
          refine lv_bipush (v := (-3)) hx hb d_X_row_46 (by decide) ?_
          exact retI C hw rfl (Option.some.inj h) d_X_row_48
      · replace h := ifp b3 h
        refine lv_bipush (v := (-2)) hx hb d_X_row_29 (by decide) ?_
        exact retI C hw rfl (Option.some.inj h) d_X_row_31
    · replace h := ifp b2 h
      refine lv_iconst (v := (-1)) hx hb d_X_row_17 (by decide) ?_
      exact retI C hw rfl (Option.some.inj h) d_X_row_18
def f_X_feed (c0 : Nat) (p1 : Int32) (σ : St) : Option (Int32 × St) := (if (f_X_inside p1 0 127) = false then some ((-2), σ) else (if (vI σ 84 1) < 100 then (if ok (vI σ 84 1) 100 = true then (st (sJ σ (84 + 1) (upd (vJ σ (84 + 1)) (nx (vI σ 84 1)) (vp_nar .byte (p1).toInt8.toInt32))) fun s4 => (st (sI s4 84 1 ((vI s4 84 1) + 1)) fun s6 => some ((vI s6 84 1), s6))) else none) else some ((-4), σ)))
set_option maxHeartbeats 400000 in
set_option maxRecDepth 20000 in
theorem c_X_feed (g : GX) (c0 : Nat) (hc0 : tg BX c0 0) (p1 : Int32) (σ : St) (q : Int32 × St) (h : f_X_feed c0 p1 σ = some q) (l : Launch) : CT BX l y_X_feed (v_X_feed :: lwG) 2 [.ref (g.2.1 c0), .int p1] g σ (QI BX g q) := by
  refine mkC (cc := b_X_feed) (maxL := 2) (ret := (some .int)) rfl (by decide) rfl (Nat.le_of_ble_eq_true rfl) ?_
  intro p e s m args below meth c A ls C hl hw
  obtain ⟨hx, hb, hr, hml, hown, hts, hK, hE, hA, hlk⟩ := id C
  replace hl : lv_has ls 2 [(0, .ref (g.2.1 c0)), (1, .int p1)] := hl
  obtain ⟨H, hH⟩ : ∃ z, z = s.heap := ⟨_, rfl⟩
  rw [← hH] at hw ⊢
  obtain ⟨locs, hlo⟩ : ∃ z : List Loc, z = [] := ⟨_, rfl⟩
  rw [← hlo] at hw ⊢
  unfold f_X_feed at h
  refine lv_iload_n hx hb d_X_feed_0 rfl (lv_at hl 1 rfl) ?_
  refine lv_iconst (v := 0) hx hb d_X_feed_1 (by decide) ?_
  refine lv_bipush (v := 127) hx hb d_X_feed_2 (by decide) ?_
  refine clZ0 (v := (f_X_inside p1 0 127)) C hw (invS (As := [.int p1, .int 0, .int 127]) C hw (c_X_inside g p1 0 127 σ l) rfl wc_X_83 nd_X_inside.2 ⟨by decide, by decide⟩ rfl hl.1 rfl (Nat.le_of_ble_eq_true rfl) d_X_feed_4 ⟨Nat.le_refl _, Nat.le_refl _⟩) (fun H locs hw => ?_)
  refine ifnB (tgt := 13) C d_X_feed_7 (by decide) (fun b1 => ?_) (fun b1 => ?_)
  · replace h := ifn b1 h
    refine lv_aload_n hx hb d_X_feed_13 rfl (lv_at hl 0 rfl) ?_
    refine fg_X_50 C hw hc0 d_X_feed_14 ?_
    refine fg_X_129 C hw tX_84 d_X_feed_17 ?_
    refine lv_bipush (v := 100) hx hb d_X_feed_20 (by decide) ?_
    refine lv_icmp_lt (tgt := 28) hx hb d_X_feed_22 (by decide) (fun b2 => ?_) (fun b2 => ?_)
    · replace h := ifp b2 h
      refine lv_aload_n hx hb d_X_feed_28 rfl (lv_at hl 0 rfl) ?_
      refine fg_X_50 C hw hc0 d_X_feed_29 ?_
      refine fg_X_132 C hw tX_84 d_X_feed_32 ?_
      refine lv_aload_n hx hb d_X_feed_35 rfl (lv_at hl 0 rfl) ?_
      refine fg_X_50 C hw hc0 d_X_feed_36 ?_
      refine fg_X_129 C hw tX_84 d_X_feed_39 ?_
      refine lv_iload_n hx hb d_X_feed_42 rfl (lv_at hl 1 rfl) ?_
      refine lv_i2b hx hb d_X_feed_43 rfl ?_
      refine gde h (fun g3 h => ?_)
      refine ste h (fun s4 e8 h => ?_)
      refine stB (n := 100) C hw (tE_1 tX_84) (by decide) g3 d_X_feed_44 (fun H locs hw => ?_)
      replace hw := HWe hw e8
      refine lv_aload_n hx hb d_X_feed_45 rfl (lv_at hl 0 rfl) ?_
      refine fg_X_50 C hw hc0 d_X_feed_46 ?_
      refine lv_dup hx hb d_X_feed_49 rfl ?_
      refine fg_X_129 C hw tX_84 d_X_feed_50 ?_
      refine lv_iconst (v := 1) hx hb d_X_feed_53 (by decide) ?_
      refine lv_iadd hx hb d_X_feed_54 ?_
      refine ste h (fun s6 e7 h => ?_)
      refine fp_X_129 C hw tX_84 d_X_feed_55 (fun H locs hw => ?_)
      replace hw := HWe hw e7
      refine lv_aload_n hx hb d_X_feed_58 rfl (lv_at hl 0 rfl) ?_
      refine fg_X_50 C hw hc0 d_X_feed_59 ?_
      refine fg_X_129 C hw tX_84 d_X_feed_62 ?_
      exact retI C hw rfl (Option.some.inj h) d_X_feed_65
    · replace h := ifn b2 h
      refine lv_bipush (v := (-4)) hx hb d_X_feed_25 (by decide) ?_
      exact retI C hw rfl (Option.some.inj h) d_X_feed_27
  · replace h := ifp b1 h
    refine lv_bipush (v := (-2)) hx hb d_X_feed_10 (by decide) ?_
    exact retI C hw rfl (Option.some.inj h) d_X_feed_12
def f_X_told (c0 : Nat) (p1 : Int32) (σ : St) : Option (Int32) := (if p1 = 0 then some (vI σ 49 8) else (if p1 = 1 then some (vI σ 49 9) else (if p1 = 2 then some (vI σ 49 11) else (if p1 = 3 then some (vI σ 49 12) else (if p1 = 4 then ((f_X_sum (49 + 5) (vI σ 49 0) σ).bind fun q6 => some q6) else some (-1))))))
set_option maxHeartbeats 400000 in
set_option maxRecDepth 20000 in
theorem c_X_told (g : GX) (c0 : Nat) (hc0 : tg BX c0 0) (p1 : Int32) (σ : St) (q : Int32) (h : f_X_told c0 p1 σ = some q) (l : Launch) : CT BX l y_X_told (v_X_told :: lwG) 2 [.ref (g.2.1 c0), .int p1] g σ (QI BX g (q, σ)) := by
  refine mkC (cc := b_X_told) (maxL := 2) (ret := (some .int)) rfl (by decide) rfl (Nat.le_of_ble_eq_true rfl) ?_
  intro p e s m args below meth c A ls C hl hw
  obtain ⟨hx, hb, hr, hml, hown, hts, hK, hE, hA, hlk⟩ := id C
  replace hl : lv_has ls 2 [(0, .ref (g.2.1 c0)), (1, .int p1)] := hl
  obtain ⟨H, hH⟩ : ∃ z, z = s.heap := ⟨_, rfl⟩
  rw [← hH] at hw ⊢
  obtain ⟨locs, hlo⟩ : ∃ z : List Loc, z = [] := ⟨_, rfl⟩
  rw [← hlo] at hw ⊢
  unfold f_X_told at h
  refine lv_iload_n hx hb d_X_told_0 rfl (lv_at hl 1 rfl) ?_
  by_cases b1 : p1 = 0
  · replace h := ifp b1 h
    refine swIn (k := 0) (tgt := 36) C b1 d_X_told_1 (by decide) rfl (by decide) ?_
    refine lv_aload_n hx hb d_X_told_36 rfl (lv_at hl 0 rfl) ?_
    refine fg_X_23 C hw hc0 d_X_told_37 ?_
    refine fg_X_123 C hw tX_49 d_X_told_40 ?_
    exact retI C hw rfl (congrArg (fun z => (z, σ)) (Option.some.inj h)) d_X_told_43
  · replace h := ifn b1 h
    by_cases b2 : p1 = 1
    · replace h := ifp b2 h
      refine swIn (k := 1) (tgt := 44) C b2 d_X_told_1 (by decide) rfl (by decide) ?_
      refine lv_aload_n hx hb d_X_told_44 rfl (lv_at hl 0 rfl) ?_
      refine fg_X_23 C hw hc0 d_X_told_45 ?_
      refine fg_X_146 C hw tX_49 d_X_told_48 ?_
      exact retI C hw rfl (congrArg (fun z => (z, σ)) (Option.some.inj h)) d_X_told_51
    · replace h := ifn b2 h
      by_cases b3 : p1 = 2
      · replace h := ifp b3 h
        refine swIn (k := 2) (tgt := 52) C b3 d_X_told_1 (by decide) rfl (by decide) ?_
        refine lv_aload_n hx hb d_X_told_52 rfl (lv_at hl 0 rfl) ?_
        refine fg_X_23 C hw hc0 d_X_told_53 ?_
        refine fg_X_149 C hw tX_49 d_X_told_56 ?_
        exact retI C hw rfl (congrArg (fun z => (z, σ)) (Option.some.inj h)) d_X_told_59
      · replace h := ifn b3 h
        by_cases b4 : p1 = 3
        · replace h := ifp b4 h
          refine swIn (k := 3) (tgt := 60) C b4 d_X_told_1 (by decide) rfl (by decide) ?_
          refine lv_aload_n hx hb d_X_told_60 rfl (lv_at hl 0 rfl) ?_
          refine fg_X_23 C hw hc0 d_X_told_61 ?_
          refine fg_X_152 C hw tX_49 d_X_told_64 ?_
          exact retI C hw rfl (congrArg (fun z => (z, σ)) (Option.some.inj h)) d_X_told_67
        · replace h := ifn b4 h
          by_cases b5 : p1 = 4
          · replace h := ifp b5 h
            refine swIn (k := 4) (tgt := 68) C b5 d_X_told_1 (by decide) rfl (by decide) ?_
            refine lv_aload_n hx hb d_X_told_68 rfl (lv_at hl 0 rfl) ?_
            refine fg_X_23 C hw hc0 d_X_told_69 ?_
            refine fg_X_110 C hw tX_49 d_X_told_72 ?_
            refine lv_aload_n hx hb d_X_told_75 rfl (lv_at hl 0 rfl) ?_
            refine fg_X_23 C hw hc0 d_X_told_76 ?_
            refine fg_X_87 C hw tX_49 d_X_told_79 ?_
            refine bnd h (fun q6 k7 h => ?_)
            refine clI0 (v := q6) C hw (invS (As := [.ref (g.2.1 (49 + 5)), .int (vI σ 49 0)]) C hw (c_X_sum g (49 + 5) (tK_5 tX_49) (vI σ 49 0) σ q6 k7 l) rfl wc_X_155 nd_X_sum.2 ⟨by decide, by decide⟩ rfl hl.1 rfl (Nat.le_of_ble_eq_true rfl) d_X_told_82 ⟨Nat.le_refl _, Nat.le_refl _⟩) (fun H locs hw => ?_)
            exact retI C hw rfl (congrArg (fun z => (z, σ)) (Option.some.inj h)) d_X_told_85
          · replace h := ifn b5 h
            refine swOut (tgt := 86) C d_X_told_1 (fun z9 l9 h9 e9 => ?_) (by decide) ?_
            · have e10 : z9 = 0 ∨ z9 = 1 ∨ z9 = 2 ∨ z9 = 3 ∨ z9 = 4 := by omega
              rcases e10 with e10 | e10 | e10 | e10 | e10
              · exact lv_neT b1 (by decide) (e9.trans e10)
              · exact lv_neT b2 (by decide) (e9.trans e10)
              · exact lv_neT b3 (by decide) (e9.trans e10)
              · exact lv_neT b4 (by decide) (e9.trans e10)
              · exact lv_neT b5 (by decide) (e9.trans e10)
            · refine lv_iconst (v := (-1)) hx hb d_X_told_86 (by decide) ?_
              exact retI C hw rfl (congrArg (fun z => (z, σ)) (Option.some.inj h)) d_X_told_87
def f_X_takes (c0 : Nat) (p1 : Int32) (σ : St) : Option (Int32 × St) := (if (f_X_isTaker c0 p1 σ) = false then some ((-1), σ) else ((f_K_taking 49 p1 σ).bind fun q2 => some (q2.1, q2.2)))
set_option maxHeartbeats 400000 in
set_option maxRecDepth 20000 in
theorem c_X_takes (g : GX) (c0 : Nat) (hc0 : tg BX c0 0) (p1 : Int32) (σ : St) (q : Int32 × St) (h : f_X_takes c0 p1 σ = some q) (l : Launch) : CT BX l y_X_takes (v_X_takes :: lwG) 7 [.ref (g.2.1 c0), .int p1] g σ (QI BX g q) := by
  refine mkC (cc := b_X_takes) (maxL := 2) (ret := (some .int)) rfl (by decide) rfl (Nat.le_of_ble_eq_true rfl) ?_
  intro p e s m args below meth c A ls C hl hw
  obtain ⟨hx, hb, hr, hml, hown, hts, hK, hE, hA, hlk⟩ := id C
  replace hl : lv_has ls 2 [(0, .ref (g.2.1 c0)), (1, .int p1)] := hl
  obtain ⟨H, hH⟩ : ∃ z, z = s.heap := ⟨_, rfl⟩
  rw [← hH] at hw ⊢
  obtain ⟨locs, hlo⟩ : ∃ z : List Loc, z = [] := ⟨_, rfl⟩
  rw [← hlo] at hw ⊢
  unfold f_X_takes at h
  refine lv_aload_n hx hb d_X_takes_0 rfl (lv_at hl 0 rfl) ?_
  refine lv_iload_n hx hb d_X_takes_1 rfl (lv_at hl 1 rfl) ?_
  refine clZ0 (v := (f_X_isTaker c0 p1 σ)) C hw (invV (As := [.int p1]) C hw (c_X_isTaker g c0 hc0 p1 σ l) rfl wc_X_94 nd_X_isTaker ⟨by decide, by decide⟩ (rc_X C hw hc0) rfl hl.1 rfl (Nat.le_of_ble_eq_true rfl) d_X_takes_2 ⟨Nat.le_refl _, Nat.le_refl _⟩) (fun H locs hw => ?_)
  refine ifB (tgt := 19) C d_X_takes_5 (by decide) (fun b1 => ?_) (fun b1 => ?_)
  · replace h := ifp b1 h
    refine lv_iconst (v := (-1)) hx hb d_X_takes_19 (by decide) ?_
    exact retI C hw rfl (Option.some.inj h) d_X_takes_20
  · replace h := ifn b1 h
    refine lv_aload_n hx hb d_X_takes_8 rfl (lv_at hl 0 rfl) ?_
    refine fg_X_23 C hw hc0 d_X_takes_9 ?_
    refine lv_iload_n hx hb d_X_takes_12 rfl (lv_at hl 1 rfl) ?_
    refine bnd h (fun q2 k3 h => ?_)
    refine clI C hw (invV (As := [.int p1]) C hw (c_K_taking g 49 tX_49 p1 σ q2 k3 l) rfl wc_X_159 nd_K_taking ⟨by decide, by decide⟩ (rc_K C hw tX_49) rfl hl.1 rfl (Nat.le_of_ble_eq_true rfl) d_X_takes_13 ⟨Nat.le_refl _, Nat.le_refl _⟩) (fun H locs hw => ?_)
    refine lv_goto (tgt := 20) hx hb d_X_takes_16 (by decide) ?_
    exact retI C hw rfl (Option.some.inj h) d_X_takes_20
def f_X_day (c0 : Nat) (σ : St) : Option (Int32 × St) := (if 9999 ≤ (vI σ 49 9) then some ((-3), σ) else ((f_K_go 49 1 (-1) (-1) σ).bind fun q2 => some (q2.1, q2.2)))
set_option maxHeartbeats 400000 in
set_option maxRecDepth 20000 in
theorem c_X_day (g : GX) (c0 : Nat) (hc0 : tg BX c0 0) (σ : St) (q : Int32 × St) (h : f_X_day c0 σ = some q) (l : Launch) : CT BX l y_X_day (v_X_day :: lwG) 8 [.ref (g.2.1 c0)] g σ (QI BX g q) := by
  refine mkC (cc := b_X_day) (maxL := 1) (ret := (some .int)) rfl (by decide) rfl (Nat.le_of_ble_eq_true rfl) ?_
  intro p e s m args below meth c A ls C hl hw
  obtain ⟨hx, hb, hr, hml, hown, hts, hK, hE, hA, hlk⟩ := id C
  replace hl : lv_has ls 1 [(0, .ref (g.2.1 c0))] := hl
  obtain ⟨H, hH⟩ : ∃ z, z = s.heap := ⟨_, rfl⟩
  rw [← hH] at hw ⊢
  obtain ⟨locs, hlo⟩ : ∃ z : List Loc, z = [] := ⟨_, rfl⟩
  rw [← hlo] at hw ⊢
  unfold f_X_day at h
  refine lv_aload_n hx hb d_X_day_0 rfl (lv_at hl 0 rfl) ?_
  refine fg_X_23 C hw hc0 d_X_day_1 ?_
  refine fg_X_146 C hw tX_49 d_X_day_4 ?_
  refine lv_sipush (v := 9999) hx hb d_X_day_7 (by decide) ?_
  refine lv_icmp_ge (tgt := 26) hx hb d_X_day_10 (by decide) (fun b1 => ?_) (fun b1 => ?_)
  · replace h := ifp b1 h
    refine lv_bipush (v := (-3)) hx hb d_X_day_26 (by decide) ?_
    exact retI C hw rfl (Option.some.inj h) d_X_day_28
  · replace h := ifn b1 h
    refine lv_aload_n hx hb d_X_day_13 rfl (lv_at hl 0 rfl) ?_
    refine fg_X_23 C hw hc0 d_X_day_14 ?_
    refine lv_iconst (v := 1) hx hb d_X_day_17 (by decide) ?_
    refine lv_iconst (v := (-1)) hx hb d_X_day_18 (by decide) ?_
    refine lv_iconst (v := (-1)) hx hb d_X_day_19 (by decide) ?_
    refine bnd h (fun q2 k3 h => ?_)
    refine clI C hw (invV (As := [.int 1, .int (-1), .int (-1)]) C hw (c_K_go g 49 tX_49 1 (-1) (-1) σ q2 k3 l) rfl wc_X_162 nd_K_go ⟨by decide, by decide⟩ (rc_K C hw tX_49) rfl hl.1 rfl (Nat.le_of_ble_eq_true rfl) d_X_day_20 ⟨Nat.le_refl _, Nat.le_refl _⟩) (fun H locs hw => ?_)
    refine lv_goto (tgt := 28) hx hb d_X_day_23 (by decide) ?_
    exact retI C hw rfl (Option.some.inj h) d_X_day_28
def f_X_cupsMore (c0 : Nat) (p1 : Int32) (σ : St) : Option (Int32) := (if ok p1 6 = true then (if ok p1 6 = true then some ((vJ σ (67 + 4) (nx p1)) - (vJ σ (49 + 4) (nx p1))) else none) else none)
set_option maxHeartbeats 400000 in
set_option maxRecDepth 20000 in
theorem c_X_cupsMore (g : GX) (c0 : Nat) (hc0 : tg BX c0 0) (p1 : Int32) (σ : St) (q : Int32) (h : f_X_cupsMore c0 p1 σ = some q) (l : Launch) : CT BX l y_X_cupsMore (v_X_cupsMore :: lwG) 1 [.ref (g.2.1 c0), .int p1] g σ (QI BX g (q, σ)) := by
  refine mkC (cc := b_X_cupsMore) (maxL := 2) (ret := (some .int)) rfl (by decide) rfl (Nat.le_of_ble_eq_true rfl) ?_
  intro p e s m args below meth c A ls C hl hw
  obtain ⟨hx, hb, hr, hml, hown, hts, hK, hE, hA, hlk⟩ := id C
  replace hl : lv_has ls 2 [(0, .ref (g.2.1 c0)), (1, .int p1)] := hl
  obtain ⟨H, hH⟩ : ∃ z, z = s.heap := ⟨_, rfl⟩
  rw [← hH] at hw ⊢
  obtain ⟨locs, hlo⟩ : ∃ z : List Loc, z = [] := ⟨_, rfl⟩
  rw [← hlo] at hw ⊢
  unfold f_X_cupsMore at h
  refine lv_aload_n hx hb d_X_cupsMore_0 rfl (lv_at hl 0 rfl) ?_
  refine fg_X_30 C hw hc0 d_X_cupsMore_1 ?_
  refine fg_X_107 C hw tX_67 d_X_cupsMore_4 ?_
  refine lv_iload_n hx hb d_X_cupsMore_7 rfl (lv_at hl 1 rfl) ?_
  refine gde h (fun g1 h => ?_)
  refine ldI (n := 6) C hw (tK_4 tX_67) (by decide) g1 d_X_cupsMore_8 ?_
  refine lv_aload_n hx hb d_X_cupsMore_9 rfl (lv_at hl 0 rfl) ?_
  refine fg_X_23 C hw hc0 d_X_cupsMore_10 ?_
  refine fg_X_107 C hw tX_49 d_X_cupsMore_13 ?_
  refine lv_iload_n hx hb d_X_cupsMore_16 rfl (lv_at hl 1 rfl) ?_
  refine gde h (fun g2 h => ?_)
  refine ldI (n := 6) C hw (tK_4 tX_49) (by decide) g2 d_X_cupsMore_17 ?_
  refine lv_isub hx hb d_X_cupsMore_18 ?_
  exact retI C hw rfl (congrArg (fun z => (z, σ)) (Option.some.inj h)) d_X_cupsMore_19
def f_X_fetchesMore (c0 : Nat) (p1 : Int32) (σ : St) : Option (Int32) := (if ok p1 6 = true then (if ok p1 6 = true then some ((vJ σ (67 + 5) (nx p1)) - (vJ σ (49 + 5) (nx p1))) else none) else none)
set_option maxHeartbeats 400000 in
set_option maxRecDepth 20000 in
theorem c_X_fetchesMore (g : GX) (c0 : Nat) (hc0 : tg BX c0 0) (p1 : Int32) (σ : St) (q : Int32) (h : f_X_fetchesMore c0 p1 σ = some q) (l : Launch) : CT BX l y_X_fetchesMore (v_X_fetchesMore :: lwG) 1 [.ref (g.2.1 c0), .int p1] g σ (QI BX g (q, σ)) := by
  refine mkC (cc := b_X_fetchesMore) (maxL := 2) (ret := (some .int)) rfl (by decide) rfl (Nat.le_of_ble_eq_true rfl) ?_
  intro p e s m args below meth c A ls C hl hw
  obtain ⟨hx, hb, hr, hml, hown, hts, hK, hE, hA, hlk⟩ := id C
  replace hl : lv_has ls 2 [(0, .ref (g.2.1 c0)), (1, .int p1)] := hl
  obtain ⟨H, hH⟩ : ∃ z, z = s.heap := ⟨_, rfl⟩
  rw [← hH] at hw ⊢
  obtain ⟨locs, hlo⟩ : ∃ z : List Loc, z = [] := ⟨_, rfl⟩
  rw [← hlo] at hw ⊢
  unfold f_X_fetchesMore at h
  refine lv_aload_n hx hb d_X_fetchesMore_0 rfl (lv_at hl 0 rfl) ?_
  refine fg_X_30 C hw hc0 d_X_fetchesMore_1 ?_
  refine fg_X_110 C hw tX_67 d_X_fetchesMore_4 ?_
  refine lv_iload_n hx hb d_X_fetchesMore_7 rfl (lv_at hl 1 rfl) ?_
  refine gde h (fun g1 h => ?_)
  refine ldI (n := 6) C hw (tK_5 tX_67) (by decide) g1 d_X_fetchesMore_8 ?_
  refine lv_aload_n hx hb d_X_fetchesMore_9 rfl (lv_at hl 0 rfl) ?_
  refine fg_X_23 C hw hc0 d_X_fetchesMore_10 ?_
  refine fg_X_110 C hw tX_49 d_X_fetchesMore_13 ?_
  refine lv_iload_n hx hb d_X_fetchesMore_16 rfl (lv_at hl 1 rfl) ?_
  refine gde h (fun g2 h => ?_)
  refine ldI (n := 6) C hw (tK_5 tX_49) (by decide) g2 d_X_fetchesMore_17 ?_
  refine lv_isub hx hb d_X_fetchesMore_18 ?_
  exact retI C hw rfl (congrArg (fun z => (z, σ)) (Option.some.inj h)) d_X_fetchesMore_19
def f_X_on (c0 : Nat) (p1 : Int32) (p2 : Int32) (σ : St) : Option (Int32 × St) := (if (f_X_isTaker c0 (p2 - 10) σ) = false then (if (f_X_isTaker c0 (p2 - 20) σ) = false then (if (f_X_inside p2 0 2) = false then some ((-1), σ) else (if (f_X_inside p1 0 60) = false then some ((-2), σ) else ((f_K_becomes 67 49 σ).bind fun q39 => ((f_K_go 67 p1 (-1) (-1) q39).bind fun q41 => (if (f_X_isTaker c0 (p2 - 10) σ) = false then (if (f_X_isTaker c0 (p2 - 20) σ) = false then (if p2 = 0 then some ((vI q41.2 67 8), q41.2) else (if p2 = 1 then some (q41.1, q41.2) else ((f_X_sum (67 + 6) (vI q41.2 67 0) q41.2).bind fun q47 => ((f_X_sum (49 + 6) (vI q41.2 49 0) q41.2).bind fun q49 => some ((q47 - q49), q41.2))))) else ((f_X_fetchesMore c0 (p2 - 20) q41.2).bind fun q51 => some (q51, q41.2))) else ((f_X_cupsMore c0 (p2 - 10) q41.2).bind fun q53 => some (q53, q41.2))))))) else (if (f_X_inside p1 0 60) = false then some ((-2), σ) else ((f_K_becomes 67 49 σ).bind fun q21 => ((f_K_go 67 p1 (-1) (-1) q21).bind fun q23 => (if (f_X_isTaker c0 (p2 - 10) σ) = false then (if (f_X_isTaker c0 (p2 - 20) σ) = false then (if p2 = 0 then some ((vI q23.2 67 8), q23.2) else (if p2 = 1 then some (q23.1, q23.2) else ((f_X_sum (67 + 6) (vI q23.2 67 0) q23.2).bind fun q29 => ((f_X_sum (49 + 6) (vI q23.2 49 0) q23.2).bind fun q31 => some ((q29 - q31), q23.2))))) else ((f_X_fetchesMore c0 (p2 - 20) q23.2).bind fun q33 => some (q33, q23.2))) else ((f_X_cupsMore c0 (p2 - 10) q23.2).bind fun q35 => some (q35, q23.2))))))) else (if (f_X_inside p1 0 60) = false then some ((-2), σ) else ((f_K_becomes 67 49 σ).bind fun q3 => ((f_K_go 67 p1 (-1) (-1) q3).bind fun q5 => (if (f_X_isTaker c0 (p2 - 10) σ) = false then (if (f_X_isTaker c0 (p2 - 20) σ) = false then (if p2 = 0 then some ((vI q5.2 67 8), q5.2) else (if p2 = 1 then some (q5.1, q5.2) else ((f_X_sum (67 + 6) (vI q5.2 67 0) q5.2).bind fun q11 => ((f_X_sum (49 + 6) (vI q5.2 49 0) q5.2).bind fun q13 => some ((q11 - q13), q5.2))))) else ((f_X_fetchesMore c0 (p2 - 20) q5.2).bind fun q15 => some (q15, q5.2))) else ((f_X_cupsMore c0 (p2 - 10) q5.2).bind fun q17 => some (q17, q5.2)))))))
set_option maxHeartbeats 400000 in
set_option maxRecDepth 20000 in
theorem c_X_on (g : GX) (c0 : Nat) (hc0 : tg BX c0 0) (p1 : Int32) (p2 : Int32) (σ : St) (q : Int32 × St) (h : f_X_on c0 p1 p2 σ = some q) (l : Launch) : CT BX l y_X_on (v_X_on :: lwG) 8 [.ref (g.2.1 c0), .int p1, .int p2] g σ (QI BX g q) := by
  refine mkC (cc := b_X_on) (maxL := 6) (ret := (some .int)) rfl (by decide) rfl (Nat.le_of_ble_eq_true rfl) ?_
  intro p e s m args below meth c A ls C hl hw
  obtain ⟨hx, hb, hr, hml, hown, hts, hK, hE, hA, hlk⟩ := id C
  replace hl : lv_has ls 6 [(0, .ref (g.2.1 c0)), (1, .int p1), (2, .int p2)] := hl
  obtain ⟨H, hH⟩ : ∃ z, z = s.heap := ⟨_, rfl⟩
  rw [← hH] at hw ⊢
  obtain ⟨locs, hlo⟩ : ∃ z : List Loc, z = [] := ⟨_, rfl⟩
  rw [← hlo] at hw ⊢
  unfold f_X_on at h
  refine lv_aload_n hx hb d_X_on_0 rfl (lv_at hl 0 rfl) ?_
  refine lv_iload_n hx hb d_X_on_1 rfl (lv_at hl 2 rfl) ?_
  refine lv_bipush (v := 10) hx hb d_X_on_2 (by decide) ?_
  refine lv_isub hx hb d_X_on_4 ?_
  refine clZ0 (v := (f_X_isTaker c0 (p2 - 10) σ)) C hw (invV (As := [.int (p2 - 10)]) C hw (c_X_isTaker g c0 hc0 (p2 - 10) σ l) rfl wc_X_94 nd_X_isTaker ⟨by decide, by decide⟩ (rc_X C hw hc0) rfl hl.1 rfl (Nat.le_of_ble_eq_true rfl) d_X_on_5 ⟨Nat.le_refl _, Nat.le_refl _⟩) (fun H locs hw => ?_)
  refine lv_istore_n (lv' := [(3, .int (b2i (f_X_isTaker c0 (p2 - 10) σ))), (0, .ref (g.2.1 c0)), (1, .int p1), (2, .int p2)]) hx hb d_X_on_8 rfl hl (by decide) rfl (fun ls hl => ?_)
  refine lv_aload_n hx hb d_X_on_9 rfl (lv_at hl 1 rfl) ?_
  refine lv_iload_n hx hb d_X_on_10 rfl (lv_at hl 3 rfl) ?_
  refine lv_bipush (v := 20) hx hb d_X_on_11 (by decide) ?_
  refine lv_isub hx hb d_X_on_13 ?_
  refine clZ0 (v := (f_X_isTaker c0 (p2 - 20) σ)) C hw (invV (As := [.int (p2 - 20)]) C hw (c_X_isTaker g c0 hc0 (p2 - 20) σ l) rfl wc_X_94 nd_X_isTaker ⟨by decide, by decide⟩ (rc_X C hw hc0) rfl hl.1 rfl (Nat.le_of_ble_eq_true rfl) d_X_on_14 ⟨Nat.le_refl _, Nat.le_refl _⟩) (fun H locs hw => ?_)
  refine lv_istore (lv' := [(4, .int (b2i (f_X_isTaker c0 (p2 - 20) σ))), (3, .int (b2i (f_X_isTaker c0 (p2 - 10) σ))), (0, .ref (g.2.1 c0)), (1, .int p1), (2, .int p2)]) hx hb d_X_on_17 hl (by decide) rfl (fun ls hl => ?_)
  refine lv_iload_n hx hb d_X_on_19 rfl (lv_at hl 1 rfl) ?_
  refine ifnB (tgt := 39) C d_X_on_20 (by decide) (fun b1 => ?_) (fun b1 => ?_)
  · replace h := ifn b1 h
    refine lv_iload_n hx hb d_X_on_39 rfl (lv_at hl 3 rfl) ?_
    refine lv_iconst (v := 0) hx hb d_X_on_40 (by decide) ?_
    refine lv_bipush (v := 60) hx hb d_X_on_41 (by decide) ?_
    refine clZ0 (v := (f_X_inside p1 0 60)) C hw (invS (As := [.int p1, .int 0, .int 60]) C hw (c_X_inside g p1 0 60 σ l) rfl wc_X_83 nd_X_inside.2 ⟨by decide, by decide⟩ rfl hl.1 rfl (Nat.le_of_ble_eq_true rfl) d_X_on_43 ⟨Nat.le_refl _, Nat.le_refl _⟩) (fun H locs hw => ?_)
    refine ifnB (tgt := 52) C d_X_on_46 (by decide) (fun b2 => ?_) (fun b2 => ?_)
    · replace h := ifn b2 h
      refine lv_aload_n hx hb d_X_on_52 rfl (lv_at hl 2 rfl) ?_
      refine fg_X_30 C hw hc0 d_X_on_53 ?_
      refine lv_aload_n hx hb d_X_on_56 rfl (lv_at hl 2 rfl) ?_
      refine fg_X_23 C hw hc0 d_X_on_57 ?_
      refine bnd h (fun q3 k4 h => ?_)
      refine clV C hw (invV (As := [.ref (g.2.1 49)]) C hw (c_K_becomes g 67 tX_67 49 tX_49 σ q3 k4 l) rfl wc_X_165 nd_K_becomes ⟨by decide, by decide⟩ (rc_K C hw tX_67) rfl hl.1 rfl (Nat.le_of_ble_eq_true rfl) d_X_on_60 ⟨Nat.le_refl _, Nat.le_refl _⟩) (fun H locs hw => ?_)
      refine lv_aload_n hx hb d_X_on_63 rfl (lv_at hl 2 rfl) ?_
      refine fg_X_30 C hw hc0 d_X_on_64 ?_
      refine lv_iload_n hx hb d_X_on_67 rfl (lv_at hl 3 rfl) ?_
      refine lv_iconst (v := (-1)) hx hb d_X_on_68 (by decide) ?_
      refine lv_iconst (v := (-1)) hx hb d_X_on_69 (by decide) ?_
      refine bnd h (fun q5 k6 h => ?_)
      refine clI C hw (invV (As := [.int p1, .int (-1), .int (-1)]) C hw (c_K_go g 67 tX_67 p1 (-1) (-1) q3 q5 k6 l) rfl wc_X_162 nd_K_go ⟨by decide, by decide⟩ (rc_K C hw tX_67) rfl hl.1 rfl (Nat.le_of_ble_eq_true rfl) d_X_on_70 ⟨Nat.le_refl _, Nat.le_refl _⟩) (fun H locs hw => ?_)
      refine lv_istore (lv' := [(5, .int q5.1), (4, .int (b2i (f_X_isTaker c0 (p2 - 20) σ))), (3, .int (b2i (f_X_isTaker c0 (p2 - 10) σ))), (0, .ref (g.2.1 c0)), (1, .int p1), (2, .int p2)]) hx hb d_X_on_73 hl (by decide) rfl (fun ls hl => ?_)
      refine lv_iload_n hx hb d_X_on_75 rfl (lv_at hl 2 rfl) ?_
      refine ifB (tgt := 88) C d_X_on_76 (by decide) (fun b7 => ?_) (fun b7 => ?_)
      · replace h := ifp b7 h
        refine lv_iload hx hb d_X_on_88 (lv_at hl 1 rfl) ?_
        refine ifB (tgt := 102) C d_X_on_90 (by decide) (fun b8 => ?_) (fun b8 => ?_)
        · replace h := ifp b8 h
          refine lv_iload_n hx hb d_X_on_102 rfl (lv_at hl 5 rfl) ?_
          by_cases b9 : p2 = 0
          · replace h := ifp b9 h
            refine lv_lookup (off := 25) (tgt := 128) hx hb d_X_on_103 (by decide) (by rw [b9]; decide) (by decide) ?_
            refine lv_aload_n hx hb d_X_on_128 rfl (lv_at hl 3 rfl) ?_
            refine fg_X_30 C hw hc0 d_X_on_129 ?_
            refine fg_X_123 C hw tX_67 d_X_on_132 ?_
            exact retI C hw rfl (Option.some.inj h) d_X_on_135
          · replace h := ifn b9 h
            by_cases b10 : p2 = 1
            · replace h := ifp b10 h
              refine lv_lookup (off := 33) (tgt := 136) hx hb d_X_on_103 (by decide) (by rw [b10]; decide) (by decide) ?_
              refine lv_iload hx hb d_X_on_136 (lv_at hl 0 rfl) ?_
              exact retI C hw rfl (Option.some.inj h) d_X_on_138
            · replace h := ifn b10 h
              refine lv_lookup (off := 36) (tgt := 139) hx hb d_X_on_103 (by decide) ((lv_osw b9 (by decide)).trans ((lv_osw b10 (by decide)).trans (rfl))) (by decide) ?_
              refine lv_aload_n hx hb d_X_on_139 rfl (lv_at hl 3 rfl) ?_
              refine fg_X_30 C hw hc0 d_X_on_140 ?_
              refine fg_X_113 C hw tX_67 d_X_on_143 ?_
              refine lv_aload_n hx hb d_X_on_146 rfl (lv_at hl 3 rfl) ?_
              refine fg_X_30 C hw hc0 d_X_on_147 ?_
              refine fg_X_87 C hw tX_67 d_X_on_150 ?_
              refine bnd h (fun q11 k12 h => ?_)
              refine clI0 (v := q11) C hw (invS (As := [.ref (g.2.1 (67 + 6)), .int (vI q5.2 67 0)]) C hw (c_X_sum g (67 + 6) (tK_6 tX_67) (vI q5.2 67 0) q5.2 q11 k12 l) rfl wc_X_155 nd_X_sum.2 ⟨by decide, by decide⟩ rfl hl.1 rfl (Nat.le_of_ble_eq_true rfl) d_X_on_153 ⟨Nat.le_refl _, Nat.le_refl _⟩) (fun H locs hw => ?_)
              refine lv_aload_n hx hb d_X_on_156 rfl (lv_at hl 3 rfl) ?_
              refine fg_X_23 C hw hc0 d_X_on_157 ?_
              refine fg_X_113 C hw tX_49 d_X_on_160 ?_
              refine lv_aload_n hx hb d_X_on_163 rfl (lv_at hl 3 rfl) ?_
              refine fg_X_23 C hw hc0 d_X_on_164 ?_
              refine fg_X_87 C hw tX_49 d_X_on_167 ?_
              refine bnd h (fun q13 k14 h => ?_)
              refine clI0 (v := q13) C hw (invS (As := [.ref (g.2.1 (49 + 6)), .int (vI q5.2 49 0)]) C hw (c_X_sum g (49 + 6) (tK_6 tX_49) (vI q5.2 49 0) q5.2 q13 k14 l) rfl wc_X_155 nd_X_sum.2 ⟨by decide, by decide⟩ rfl hl.1 rfl (Nat.le_of_ble_eq_true rfl) d_X_on_170 ⟨Nat.le_refl _, Nat.le_refl _⟩) (fun H locs hw => ?_)
              refine lv_isub hx hb d_X_on_173 ?_
              exact retI C hw rfl (Option.some.inj h) d_X_on_174
        · replace h := ifn b8 h
          refine lv_aload_n hx hb d_X_on_93 rfl (lv_at hl 3 rfl) ?_
          refine lv_iload_n hx hb d_X_on_94 rfl (lv_at hl 5 rfl) ?_
          refine lv_bipush (v := 20) hx hb d_X_on_95 (by decide) ?_
          refine lv_isub hx hb d_X_on_97 ?_
          refine bnd h (fun q15 k16 h => ?_)
          refine clI0 (v := q15) C hw (invV (As := [.int (p2 - 20)]) C hw (c_X_fetchesMore g c0 hc0 (p2 - 20) q5.2 q15 k16 l) rfl wc_X_172 nd_X_fetchesMore ⟨by decide, by decide⟩ (rc_X C hw hc0) rfl hl.1 rfl (Nat.le_of_ble_eq_true rfl) d_X_on_98 ⟨Nat.le_refl _, Nat.le_refl _⟩) (fun H locs hw => ?_)
          exact retI C hw rfl (Option.some.inj h) d_X_on_101
      · replace h := ifn b7 h
        refine lv_aload_n hx hb d_X_on_79 rfl (lv_at hl 3 rfl) ?_
        refine lv_iload_n hx hb d_X_on_80 rfl (lv_at hl 5 rfl) ?_
        refine lv_bipush (v := 10) hx hb d_X_on_81 (by decide) ?_
        refine lv_isub hx hb d_X_on_83 ?_
        refine bnd h (fun q17 k18 h => ?_)
        refine clI0 (v := q17) C hw (invV (As := [.int (p2 - 10)]) C hw (c_X_cupsMore g c0 hc0 (p2 - 10) q5.2 q17 k18 l) rfl wc_X_169 nd_X_cupsMore ⟨by decide, by decide⟩ (rc_X C hw hc0) rfl hl.1 rfl (Nat.le_of_ble_eq_true rfl) d_X_on_84 ⟨Nat.le_refl _, Nat.le_refl _⟩) (fun H locs hw => ?_)
        exact retI C hw rfl (Option.some.inj h) d_X_on_87
    · replace h := ifp b2 h
      refine lv_bipush (v := (-2)) hx hb d_X_on_49 (by decide) ?_
      exact retI C hw rfl (Option.some.inj h) d_X_on_51
  · replace h := ifp b1 h
    refine lv_iload hx hb d_X_on_23 (lv_at hl 0 rfl) ?_
    refine ifnB (tgt := 39) C d_X_on_25 (by decide) (fun b19 => ?_) (fun b19 => ?_)
    · replace h := ifn b19 h
      refine lv_iload_n hx hb d_X_on_39 rfl (lv_at hl 3 rfl) ?_
      refine lv_iconst (v := 0) hx hb d_X_on_40 (by decide) ?_
      refine lv_bipush (v := 60) hx hb d_X_on_41 (by decide) ?_
      refine clZ0 (v := (f_X_inside p1 0 60)) C hw (invS (As := [.int p1, .int 0, .int 60]) C hw (c_X_inside g p1 0 60 σ l) rfl wc_X_83 nd_X_inside.2 ⟨by decide, by decide⟩ rfl hl.1 rfl (Nat.le_of_ble_eq_true rfl) d_X_on_43 ⟨Nat.le_refl _, Nat.le_refl _⟩) (fun H locs hw => ?_)
      refine ifnB (tgt := 52) C d_X_on_46 (by decide) (fun b20 => ?_) (fun b20 => ?_)
      · replace h := ifn b20 h
        refine lv_aload_n hx hb d_X_on_52 rfl (lv_at hl 2 rfl) ?_
        refine fg_X_30 C hw hc0 d_X_on_53 ?_
        refine lv_aload_n hx hb d_X_on_56 rfl (lv_at hl 2 rfl) ?_
        refine fg_X_23 C hw hc0 d_X_on_57 ?_
        refine bnd h (fun q21 k22 h => ?_)
        refine clV C hw (invV (As := [.ref (g.2.1 49)]) C hw (c_K_becomes g 67 tX_67 49 tX_49 σ q21 k22 l) rfl wc_X_165 nd_K_becomes ⟨by decide, by decide⟩ (rc_K C hw tX_67) rfl hl.1 rfl (Nat.le_of_ble_eq_true rfl) d_X_on_60 ⟨Nat.le_refl _, Nat.le_refl _⟩) (fun H locs hw => ?_)
        refine lv_aload_n hx hb d_X_on_63 rfl (lv_at hl 2 rfl) ?_
        refine fg_X_30 C hw hc0 d_X_on_64 ?_
        refine lv_iload_n hx hb d_X_on_67 rfl (lv_at hl 3 rfl) ?_
        refine lv_iconst (v := (-1)) hx hb d_X_on_68 (by decide) ?_
        refine lv_iconst (v := (-1)) hx hb d_X_on_69 (by decide) ?_
        refine bnd h (fun q23 k24 h => ?_)
        refine clI C hw (invV (As := [.int p1, .int (-1), .int (-1)]) C hw (c_K_go g 67 tX_67 p1 (-1) (-1) q21 q23 k24 l) rfl wc_X_162 nd_K_go ⟨by decide, by decide⟩ (rc_K C hw tX_67) rfl hl.1 rfl (Nat.le_of_ble_eq_true rfl) d_X_on_70 ⟨Nat.le_refl _, Nat.le_refl _⟩) (fun H locs hw => ?_)
        refine lv_istore (lv' := [(5, .int q23.1), (4, .int (b2i (f_X_isTaker c0 (p2 - 20) σ))), (3, .int (b2i (f_X_isTaker c0 (p2 - 10) σ))), (0, .ref (g.2.1 c0)), (1, .int p1), (2, .int p2)]) hx hb d_X_on_73 hl (by decide) rfl (fun ls hl => ?_)
        refine lv_iload_n hx hb d_X_on_75 rfl (lv_at hl 2 rfl) ?_
        refine ifB (tgt := 88) C d_X_on_76 (by decide) (fun b25 => ?_) (fun b25 => ?_)
        · replace h := ifp b25 h
          refine lv_iload hx hb d_X_on_88 (lv_at hl 1 rfl) ?_
          refine ifB (tgt := 102) C d_X_on_90 (by decide) (fun b26 => ?_) (fun b26 => ?_)
          · replace h := ifp b26 h
            refine lv_iload_n hx hb d_X_on_102 rfl (lv_at hl 5 rfl) ?_
            by_cases b27 : p2 = 0
            · replace h := ifp b27 h
              refine lv_lookup (off := 25) (tgt := 128) hx hb d_X_on_103 (by decide) (by rw [b27]; decide) (by decide) ?_
              refine lv_aload_n hx hb d_X_on_128 rfl (lv_at hl 3 rfl) ?_
              refine fg_X_30 C hw hc0 d_X_on_129 ?_
              refine fg_X_123 C hw tX_67 d_X_on_132 ?_
              exact retI C hw rfl (Option.some.inj h) d_X_on_135
            · replace h := ifn b27 h
              by_cases b28 : p2 = 1
              · replace h := ifp b28 h
                refine lv_lookup (off := 33) (tgt := 136) hx hb d_X_on_103 (by decide) (by rw [b28]; decide) (by decide) ?_
                refine lv_iload hx hb d_X_on_136 (lv_at hl 0 rfl) ?_
                exact retI C hw rfl (Option.some.inj h) d_X_on_138
              · replace h := ifn b28 h
                refine lv_lookup (off := 36) (tgt := 139) hx hb d_X_on_103 (by decide) ((lv_osw b27 (by decide)).trans ((lv_osw b28 (by decide)).trans (rfl))) (by decide) ?_
                refine lv_aload_n hx hb d_X_on_139 rfl (lv_at hl 3 rfl) ?_
                refine fg_X_30 C hw hc0 d_X_on_140 ?_
                refine fg_X_113 C hw tX_67 d_X_on_143 ?_
                refine lv_aload_n hx hb d_X_on_146 rfl (lv_at hl 3 rfl) ?_
                refine fg_X_30 C hw hc0 d_X_on_147 ?_
                refine fg_X_87 C hw tX_67 d_X_on_150 ?_
                refine bnd h (fun q29 k30 h => ?_)
                refine clI0 (v := q29) C hw (invS (As := [.ref (g.2.1 (67 + 6)), .int (vI q23.2 67 0)]) C hw (c_X_sum g (67 + 6) (tK_6 tX_67) (vI q23.2 67 0) q23.2 q29 k30 l) rfl wc_X_155 nd_X_sum.2 ⟨by decide, by decide⟩ rfl hl.1 rfl (Nat.le_of_ble_eq_true rfl) d_X_on_153 ⟨Nat.le_refl _, Nat.le_refl _⟩) (fun H locs hw => ?_)
                refine lv_aload_n hx hb d_X_on_156 rfl (lv_at hl 3 rfl) ?_
                refine fg_X_23 C hw hc0 d_X_on_157 ?_
                refine fg_X_113 C hw tX_49 d_X_on_160 ?_
                refine lv_aload_n hx hb d_X_on_163 rfl (lv_at hl 3 rfl) ?_
                refine fg_X_23 C hw hc0 d_X_on_164 ?_
                refine fg_X_87 C hw tX_49 d_X_on_167 ?_
                refine bnd h (fun q31 k32 h => ?_)
                refine clI0 (v := q31) C hw (invS (As := [.ref (g.2.1 (49 + 6)), .int (vI q23.2 49 0)]) C hw (c_X_sum g (49 + 6) (tK_6 tX_49) (vI q23.2 49 0) q23.2 q31 k32 l) rfl wc_X_155 nd_X_sum.2 ⟨by decide, by decide⟩ rfl hl.1 rfl (Nat.le_of_ble_eq_true rfl) d_X_on_170 ⟨Nat.le_refl _, Nat.le_refl _⟩) (fun H locs hw => ?_)
                refine lv_isub hx hb d_X_on_173 ?_
                exact retI C hw rfl (Option.some.inj h) d_X_on_174
          · replace h := ifn b26 h
            refine lv_aload_n hx hb d_X_on_93 rfl (lv_at hl 3 rfl) ?_
            refine lv_iload_n hx hb d_X_on_94 rfl (lv_at hl 5 rfl) ?_
            refine lv_bipush (v := 20) hx hb d_X_on_95 (by decide) ?_
            refine lv_isub hx hb d_X_on_97 ?_
            refine bnd h (fun q33 k34 h => ?_)
            refine clI0 (v := q33) C hw (invV (As := [.int (p2 - 20)]) C hw (c_X_fetchesMore g c0 hc0 (p2 - 20) q23.2 q33 k34 l) rfl wc_X_172 nd_X_fetchesMore ⟨by decide, by decide⟩ (rc_X C hw hc0) rfl hl.1 rfl (Nat.le_of_ble_eq_true rfl) d_X_on_98 ⟨Nat.le_refl _, Nat.le_refl _⟩) (fun H locs hw => ?_)
            exact retI C hw rfl (Option.some.inj h) d_X_on_101
        · replace h := ifn b25 h
          refine lv_aload_n hx hb d_X_on_79 rfl (lv_at hl 3 rfl) ?_
          refine lv_iload_n hx hb d_X_on_80 rfl (lv_at hl 5 rfl) ?_
          refine lv_bipush (v := 10) hx hb d_X_on_81 (by decide) ?_
          refine lv_isub hx hb d_X_on_83 ?_
          refine bnd h (fun q35 k36 h => ?_)
          refine clI0 (v := q35) C hw (invV (As := [.int (p2 - 10)]) C hw (c_X_cupsMore g c0 hc0 (p2 - 10) q23.2 q35 k36 l) rfl wc_X_169 nd_X_cupsMore ⟨by decide, by decide⟩ (rc_X C hw hc0) rfl hl.1 rfl (Nat.le_of_ble_eq_true rfl) d_X_on_84 ⟨Nat.le_refl _, Nat.le_refl _⟩) (fun H locs hw => ?_)
          exact retI C hw rfl (Option.some.inj h) d_X_on_87
      · replace h := ifp b20 h
        refine lv_bipush (v := (-2)) hx hb d_X_on_49 (by decide) ?_
        exact retI C hw rfl (Option.some.inj h) d_X_on_51
    · replace h := ifp b19 h
      refine lv_iload_n hx hb d_X_on_28 rfl (lv_at hl 4 rfl) ?_
      refine lv_iconst (v := 0) hx hb d_X_on_29 (by decide) ?_
      refine lv_iconst (v := 2) hx hb d_X_on_30 (by decide) ?_
      refine clZ0 (v := (f_X_inside p2 0 2)) C hw (invS (As := [.int p2, .int 0, .int 2]) C hw (c_X_inside g p2 0 2 σ l) rfl wc_X_83 nd_X_inside.2 ⟨by decide, by decide⟩ rfl hl.1 rfl (Nat.le_of_ble_eq_true rfl) d_X_on_31 ⟨Nat.le_refl _, Nat.le_refl _⟩) (fun H locs hw => ?_)
      refine ifnB (tgt := 39) C d_X_on_34 (by decide) (fun b37 => ?_) (fun b37 => ?_)
      · replace h := ifn b37 h
        refine lv_iload_n hx hb d_X_on_39 rfl (lv_at hl 3 rfl) ?_
        refine lv_iconst (v := 0) hx hb d_X_on_40 (by decide) ?_
        refine lv_bipush (v := 60) hx hb d_X_on_41 (by decide) ?_
        refine clZ0 (v := (f_X_inside p1 0 60)) C hw (invS (As := [.int p1, .int 0, .int 60]) C hw (c_X_inside g p1 0 60 σ l) rfl wc_X_83 nd_X_inside.2 ⟨by decide, by decide⟩ rfl hl.1 rfl (Nat.le_of_ble_eq_true rfl) d_X_on_43 ⟨Nat.le_refl _, Nat.le_refl _⟩) (fun H locs hw => ?_)
        refine ifnB (tgt := 52) C d_X_on_46 (by decide) (fun b38 => ?_) (fun b38 => ?_)
        · replace h := ifn b38 h
          refine lv_aload_n hx hb d_X_on_52 rfl (lv_at hl 2 rfl) ?_
          refine fg_X_30 C hw hc0 d_X_on_53 ?_
          refine lv_aload_n hx hb d_X_on_56 rfl (lv_at hl 2 rfl) ?_
          refine fg_X_23 C hw hc0 d_X_on_57 ?_
          refine bnd h (fun q39 k40 h => ?_)
          refine clV C hw (invV (As := [.ref (g.2.1 49)]) C hw (c_K_becomes g 67 tX_67 49 tX_49 σ q39 k40 l) rfl wc_X_165 nd_K_becomes ⟨by decide, by decide⟩ (rc_K C hw tX_67) rfl hl.1 rfl (Nat.le_of_ble_eq_true rfl) d_X_on_60 ⟨Nat.le_refl _, Nat.le_refl _⟩) (fun H locs hw => ?_)
          refine lv_aload_n hx hb d_X_on_63 rfl (lv_at hl 2 rfl) ?_
          refine fg_X_30 C hw hc0 d_X_on_64 ?_
          refine lv_iload_n hx hb d_X_on_67 rfl (lv_at hl 3 rfl) ?_
          refine lv_iconst (v := (-1)) hx hb d_X_on_68 (by decide) ?_
          refine lv_iconst (v := (-1)) hx hb d_X_on_69 (by decide) ?_
          refine bnd h (fun q41 k42 h => ?_)
          refine clI C hw (invV (As := [.int p1, .int (-1), .int (-1)]) C hw (c_K_go g 67 tX_67 p1 (-1) (-1) q39 q41 k42 l) rfl wc_X_162 nd_K_go ⟨by decide, by decide⟩ (rc_K C hw tX_67) rfl hl.1 rfl (Nat.le_of_ble_eq_true rfl) d_X_on_70 ⟨Nat.le_refl _, Nat.le_refl _⟩) (fun H locs hw => ?_)
          refine lv_istore (lv' := [(5, .int q41.1), (4, .int (b2i (f_X_isTaker c0 (p2 - 20) σ))), (3, .int (b2i (f_X_isTaker c0 (p2 - 10) σ))), (0, .ref (g.2.1 c0)), (1, .int p1), (2, .int p2)]) hx hb d_X_on_73 hl (by decide) rfl (fun ls hl => ?_)
          refine lv_iload_n hx hb d_X_on_75 rfl (lv_at hl 2 rfl) ?_
          refine ifB (tgt := 88) C d_X_on_76 (by decide) (fun b43 => ?_) (fun b43 => ?_)
          · replace h := ifp b43 h
            refine lv_iload hx hb d_X_on_88 (lv_at hl 1 rfl) ?_
            refine ifB (tgt := 102) C d_X_on_90 (by decide) (fun b44 => ?_) (fun b44 => ?_)
            · replace h := ifp b44 h
              refine lv_iload_n hx hb d_X_on_102 rfl (lv_at hl 5 rfl) ?_
              by_cases b45 : p2 = 0
              · replace h := ifp b45 h
                refine lv_lookup (off := 25) (tgt := 128) hx hb d_X_on_103 (by decide) (by rw [b45]; decide) (by decide) ?_
                refine lv_aload_n hx hb d_X_on_128 rfl (lv_at hl 3 rfl) ?_
                refine fg_X_30 C hw hc0 d_X_on_129 ?_
                refine fg_X_123 C hw tX_67 d_X_on_132 ?_
                exact retI C hw rfl (Option.some.inj h) d_X_on_135
              · replace h := ifn b45 h
                by_cases b46 : p2 = 1
                · replace h := ifp b46 h
                  refine lv_lookup (off := 33) (tgt := 136) hx hb d_X_on_103 (by decide) (by rw [b46]; decide) (by decide) ?_
                  refine lv_iload hx hb d_X_on_136 (lv_at hl 0 rfl) ?_
                  exact retI C hw rfl (Option.some.inj h) d_X_on_138
                · replace h := ifn b46 h
                  refine lv_lookup (off := 36) (tgt := 139) hx hb d_X_on_103 (by decide) ((lv_osw b45 (by decide)).trans ((lv_osw b46 (by decide)).trans (rfl))) (by decide) ?_
                  refine lv_aload_n hx hb d_X_on_139 rfl (lv_at hl 3 rfl) ?_
                  refine fg_X_30 C hw hc0 d_X_on_140 ?_
                  refine fg_X_113 C hw tX_67 d_X_on_143 ?_
                  refine lv_aload_n hx hb d_X_on_146 rfl (lv_at hl 3 rfl) ?_
                  refine fg_X_30 C hw hc0 d_X_on_147 ?_
                  refine fg_X_87 C hw tX_67 d_X_on_150 ?_
                  refine bnd h (fun q47 k48 h => ?_)
                  refine clI0 (v := q47) C hw (invS (As := [.ref (g.2.1 (67 + 6)), .int (vI q41.2 67 0)]) C hw (c_X_sum g (67 + 6) (tK_6 tX_67) (vI q41.2 67 0) q41.2 q47 k48 l) rfl wc_X_155 nd_X_sum.2 ⟨by decide, by decide⟩ rfl hl.1 rfl (Nat.le_of_ble_eq_true rfl) d_X_on_153 ⟨Nat.le_refl _, Nat.le_refl _⟩) (fun H locs hw => ?_)
                  refine lv_aload_n hx hb d_X_on_156 rfl (lv_at hl 3 rfl) ?_
                  refine fg_X_23 C hw hc0 d_X_on_157 ?_
                  refine fg_X_113 C hw tX_49 d_X_on_160 ?_
                  refine lv_aload_n hx hb d_X_on_163 rfl (lv_at hl 3 rfl) ?_
                  refine fg_X_23 C hw hc0 d_X_on_164 ?_
                  refine fg_X_87 C hw tX_49 d_X_on_167 ?_
                  refine bnd h (fun q49 k50 h => ?_)
                  refine clI0 (v := q49) C hw (invS (As := [.ref (g.2.1 (49 + 6)), .int (vI q41.2 49 0)]) C hw (c_X_sum g (49 + 6) (tK_6 tX_49) (vI q41.2 49 0) q41.2 q49 k50 l) rfl wc_X_155 nd_X_sum.2 ⟨by decide, by decide⟩ rfl hl.1 rfl (Nat.le_of_ble_eq_true rfl) d_X_on_170 ⟨Nat.le_refl _, Nat.le_refl _⟩) (fun H locs hw => ?_)
                  refine lv_isub hx hb d_X_on_173 ?_
                  exact retI C hw rfl (Option.some.inj h) d_X_on_174
            · replace h := ifn b44 h
              refine lv_aload_n hx hb d_X_on_93 rfl (lv_at hl 3 rfl) ?_
              refine lv_iload_n hx hb d_X_on_94 rfl (lv_at hl 5 rfl) ?_
              refine lv_bipush (v := 20) hx hb d_X_on_95 (by decide) ?_
              refine lv_isub hx hb d_X_on_97 ?_
              refine bnd h (fun q51 k52 h => ?_)
              refine clI0 (v := q51) C hw (invV (As := [.int (p2 - 20)]) C hw (c_X_fetchesMore g c0 hc0 (p2 - 20) q41.2 q51 k52 l) rfl wc_X_172 nd_X_fetchesMore ⟨by decide, by decide⟩ (rc_X C hw hc0) rfl hl.1 rfl (Nat.le_of_ble_eq_true rfl) d_X_on_98 ⟨Nat.le_refl _, Nat.le_refl _⟩) (fun H locs hw => ?_)
              exact retI C hw rfl (Option.some.inj h) d_X_on_101
          · replace h := ifn b43 h
            refine lv_aload_n hx hb d_X_on_79 rfl (lv_at hl 3 rfl) ?_
            refine lv_iload_n hx hb d_X_on_80 rfl (lv_at hl 5 rfl) ?_
            refine lv_bipush (v := 10) hx hb d_X_on_81 (by decide) ?_
            refine lv_isub hx hb d_X_on_83 ?_
            refine bnd h (fun q53 k54 h => ?_)
            refine clI0 (v := q53) C hw (invV (As := [.int (p2 - 10)]) C hw (c_X_cupsMore g c0 hc0 (p2 - 10) q41.2 q53 k54 l) rfl wc_X_169 nd_X_cupsMore ⟨by decide, by decide⟩ (rc_X C hw hc0) rfl hl.1 rfl (Nat.le_of_ble_eq_true rfl) d_X_on_84 ⟨Nat.le_refl _, Nat.le_refl _⟩) (fun H locs hw => ?_)
            exact retI C hw rfl (Option.some.inj h) d_X_on_87
        · replace h := ifp b38 h
          refine lv_bipush (v := (-2)) hx hb d_X_on_49 (by decide) ?_
          exact retI C hw rfl (Option.some.inj h) d_X_on_51
      · replace h := ifp b37 h
        refine lv_iconst (v := (-1)) hx hb d_X_on_37 (by decide) ?_
        exact retI C hw rfl (Option.some.inj h) d_X_on_38
def f_X_would (c0 : Nat) (p1 : Int32) (p2 : Int32) (σ : St) : Option (Int32 × St) := (if (f_X_isTaker c0 p1 σ) = false then some ((-1), σ) else (if (f_X_inside p2 0 2) = false then some ((-1), σ) else ((f_K_becomes 67 49 σ).bind fun q3 => ((f_K_taking 67 p1 q3).bind fun q5 => (if p2 = 0 then some (q5.1, q5.2) else (if p2 = 1 then some ((vI q5.2 67 8), q5.2) else ((f_X_fetchesMore c0 p1 q5.2).bind fun q9 => some (q9, q5.2))))))))
set_option maxHeartbeats 400000 in
set_option maxRecDepth 20000 in
theorem c_X_would (g : GX) (c0 : Nat) (hc0 : tg BX c0 0) (p1 : Int32) (p2 : Int32) (σ : St) (q : Int32 × St) (h : f_X_would c0 p1 p2 σ = some q) (l : Launch) : CT BX l y_X_would (v_X_would :: lwG) 7 [.ref (g.2.1 c0), .int p1, .int p2] g σ (QI BX g q) := by
  refine mkC (cc := b_X_would) (maxL := 4) (ret := (some .int)) rfl (by decide) rfl (Nat.le_of_ble_eq_true rfl) ?_
  intro p e s m args below meth c A ls C hl hw
  obtain ⟨hx, hb, hr, hml, hown, hts, hK, hE, hA, hlk⟩ := id C
  replace hl : lv_has ls 4 [(0, .ref (g.2.1 c0)), (1, .int p1), (2, .int p2)] := hl
  obtain ⟨H, hH⟩ : ∃ z, z = s.heap := ⟨_, rfl⟩
  rw [← hH] at hw ⊢
  obtain ⟨locs, hlo⟩ : ∃ z : List Loc, z = [] := ⟨_, rfl⟩
  rw [← hlo] at hw ⊢
  unfold f_X_would at h
  refine lv_aload_n hx hb d_X_would_0 rfl (lv_at hl 0 rfl) ?_
  refine lv_iload_n hx hb d_X_would_1 rfl (lv_at hl 1 rfl) ?_
  refine clZ0 (v := (f_X_isTaker c0 p1 σ)) C hw (invV (As := [.int p1]) C hw (c_X_isTaker g c0 hc0 p1 σ l) rfl wc_X_94 nd_X_isTaker ⟨by decide, by decide⟩ (rc_X C hw hc0) rfl hl.1 rfl (Nat.le_of_ble_eq_true rfl) d_X_would_2 ⟨Nat.le_refl _, Nat.le_refl _⟩) (fun H locs hw => ?_)
  refine ifB (tgt := 17) C d_X_would_5 (by decide) (fun b1 => ?_) (fun b1 => ?_)
  · replace h := ifp b1 h
    refine lv_iconst (v := (-1)) hx hb d_X_would_17 (by decide) ?_
    exact retI C hw rfl (Option.some.inj h) d_X_would_18
  · replace h := ifn b1 h
    refine lv_iload_n hx hb d_X_would_8 rfl (lv_at hl 2 rfl) ?_
    refine lv_iconst (v := 0) hx hb d_X_would_9 (by decide) ?_
    refine lv_iconst (v := 2) hx hb d_X_would_10 (by decide) ?_
    refine clZ0 (v := (f_X_inside p2 0 2)) C hw (invS (As := [.int p2, .int 0, .int 2]) C hw (c_X_inside g p2 0 2 σ l) rfl wc_X_83 nd_X_inside.2 ⟨by decide, by decide⟩ rfl hl.1 rfl (Nat.le_of_ble_eq_true rfl) d_X_would_11 ⟨Nat.le_refl _, Nat.le_refl _⟩) (fun H locs hw => ?_)
    refine ifnB (tgt := 19) C d_X_would_14 (by decide) (fun b2 => ?_) (fun b2 => ?_)
    · replace h := ifn b2 h
      refine lv_aload_n hx hb d_X_would_19 rfl (lv_at hl 0 rfl) ?_
      refine fg_X_30 C hw hc0 d_X_would_20 ?_
      refine lv_aload_n hx hb d_X_would_23 rfl (lv_at hl 0 rfl) ?_
      refine fg_X_23 C hw hc0 d_X_would_24 ?_
      refine bnd h (fun q3 k4 h => ?_)
      refine clV C hw (invV (As := [.ref (g.2.1 49)]) C hw (c_K_becomes g 67 tX_67 49 tX_49 σ q3 k4 l) rfl wc_X_165 nd_K_becomes ⟨by decide, by decide⟩ (rc_K C hw tX_67) rfl hl.1 rfl (Nat.le_of_ble_eq_true rfl) d_X_would_27 ⟨Nat.le_refl _, Nat.le_refl _⟩) (fun H locs hw => ?_)
      refine lv_aload_n hx hb d_X_would_30 rfl (lv_at hl 0 rfl) ?_
      refine fg_X_30 C hw hc0 d_X_would_31 ?_
      refine lv_iload_n hx hb d_X_would_34 rfl (lv_at hl 1 rfl) ?_
      refine bnd h (fun q5 k6 h => ?_)
      refine clI C hw (invV (As := [.int p1]) C hw (c_K_taking g 67 tX_67 p1 q3 q5 k6 l) rfl wc_X_159 nd_K_taking ⟨by decide, by decide⟩ (rc_K C hw tX_67) rfl hl.1 rfl (Nat.le_of_ble_eq_true rfl) d_X_would_35 ⟨Nat.le_refl _, Nat.le_refl _⟩) (fun H locs hw => ?_)
      refine lv_istore_n (lv' := [(3, .int q5.1), (0, .ref (g.2.1 c0)), (1, .int p1), (2, .int p2)]) hx hb d_X_would_38 rfl hl (by decide) rfl (fun ls hl => ?_)
      refine lv_iload_n hx hb d_X_would_39 rfl (lv_at hl 3 rfl) ?_
      refine lv_if_ne (tgt := 45) hx hb d_X_would_40 (by decide) (fun b7 => ?_) (fun b7 => ?_)
      · replace h := ifn b7 h
        refine lv_iload_n hx hb d_X_would_45 rfl (lv_at hl 3 rfl) ?_
        refine lv_iconst (v := 1) hx hb d_X_would_46 (by decide) ?_
        refine lv_icmp_ne (tgt := 60) hx hb d_X_would_47 (by decide) (fun b8 => ?_) (fun b8 => ?_)
        · replace h := ifn b8 h
          refine lv_aload_n hx hb d_X_would_60 rfl (lv_at hl 1 rfl) ?_
          refine lv_iload_n hx hb d_X_would_61 rfl (lv_at hl 2 rfl) ?_
          refine bnd h (fun q9 k10 h => ?_)
          refine clI0 (v := q9) C hw (invV (As := [.int p1]) C hw (c_X_fetchesMore g c0 hc0 p1 q5.2 q9 k10 l) rfl wc_X_172 nd_X_fetchesMore ⟨by decide, by decide⟩ (rc_X C hw hc0) rfl hl.1 rfl (Nat.le_of_ble_eq_true rfl) d_X_would_62 ⟨Nat.le_refl _, Nat.le_refl _⟩) (fun H locs hw => ?_)
          exact retI C hw rfl (Option.some.inj h) d_X_would_65
        · replace h := ifp b8 h
          refine lv_aload_n hx hb d_X_would_50 rfl (lv_at hl 1 rfl) ?_
          refine fg_X_30 C hw hc0 d_X_would_51 ?_
          refine fg_X_123 C hw tX_67 d_X_would_54 ?_
          refine lv_goto (tgt := 65) hx hb d_X_would_57 (by decide) ?_
          exact retI C hw rfl (Option.some.inj h) d_X_would_65
      · replace h := ifp b7 h
        refine lv_iload_n hx hb d_X_would_43 rfl (lv_at hl 0 rfl) ?_
        exact retI C hw rfl (Option.some.inj h) d_X_would_44
    · replace h := ifp b2 h
      refine lv_iconst (v := (-1)) hx hb d_X_would_17 (by decide) ?_
      exact retI C hw rfl (Option.some.inj h) d_X_would_18
def f_X_next_l32 : Nat → Nat → Int32 → Int32 → Int32 → St → Option ((St) ⊕ (Int32 × St))
  | 0, _, _, _, _, _ => none
  | n + 1, c0, x1, x2, x3, σ => (if (vI σ 67 0) ≤ x3 then some (Sum.inl σ) else ((f_K_taking 67 x3 σ).bind fun q8 => ((f_X_fetchesMore c0 x3 q8.2).bind fun q10 => (if q10 ≤ 0 then (f_X_next_l32 n c0 x1 x2 (x3 + 1) q8.2) else (if x1 = 0 then some (Sum.inr (x3, q8.2)) else some (Sum.inr (x2, q8.2)))))))
def f_X_next_l24 : Nat → Nat → Int32 → Int32 → St → Option ((St) ⊕ (Int32 × St))
  | 0, _, _, _, _ => none
  | n + 1, c0, x1, x2, σ => (if 60 ≤ x2 then some (Sum.inl σ) else ((f_X_next_l32 FU c0 x1 x2 0 σ).bind fun x_14 => Sum.elim (fun y16 => (st (sI y16 67 9 ((vI y16 67 9) + 1)) fun s18 => (f_X_next_l24 n c0 x1 (x2 + 1) s18))) (fun z => some (Sum.inr z)) x_14))
def f_X_next (c0 : Nat) (p1 : Int32) (σ : St) : Option (Int32 × St) := (if (f_X_inside p1 0 1) = false then some ((-1), σ) else ((f_K_becomes 67 49 σ).bind fun q2 => ((f_X_next_l24 FU c0 p1 0 q2).bind fun x_21 => Sum.elim (fun y23 => some ((-5), y23)) (fun z => some z) x_21)))
set_option maxHeartbeats 400000 in
set_option maxRecDepth 20000 in
theorem c_X_next (g : GX) (c0 : Nat) (hc0 : tg BX c0 0) (p1 : Int32) (σ : St) (q : Int32 × St) (h : f_X_next c0 p1 σ = some q) (l : Launch) : CT BX l y_X_next (v_X_next :: lwG) 7 [.ref (g.2.1 c0), .int p1] g σ (QI BX g q) := by
  refine mkC (cc := b_X_next) (maxL := 4) (ret := (some .int)) rfl (by decide) rfl (Nat.le_of_ble_eq_true rfl) ?_
  intro p e s m args below meth c A ls C hl hw
  obtain ⟨hx, hb, hr, hml, hown, hts, hK, hE, hA, hlk⟩ := id C
  replace hl : lv_has ls 4 [(0, .ref (g.2.1 c0)), (1, .int p1)] := hl
  obtain ⟨H, hH⟩ : ∃ z, z = s.heap := ⟨_, rfl⟩
  rw [← hH] at hw ⊢
  obtain ⟨locs, hlo⟩ : ∃ z : List Loc, z = [] := ⟨_, rfl⟩
  rw [← hlo] at hw ⊢
  unfold f_X_next at h
  refine lv_iload_n hx hb d_X_next_0 rfl (lv_at hl 1 rfl) ?_
  refine lv_iconst (v := 0) hx hb d_X_next_1 (by decide) ?_
  refine lv_iconst (v := 1) hx hb d_X_next_2 (by decide) ?_
  refine clZ0 (v := (f_X_inside p1 0 1)) C hw (invS (As := [.int p1, .int 0, .int 1]) C hw (c_X_inside g p1 0 1 σ l) rfl wc_X_83 nd_X_inside.2 ⟨by decide, by decide⟩ rfl hl.1 rfl (Nat.le_of_ble_eq_true rfl) d_X_next_3 ⟨Nat.le_refl _, Nat.le_refl _⟩) (fun H locs hw => ?_)
  refine ifnB (tgt := 11) C d_X_next_6 (by decide) (fun b1 => ?_) (fun b1 => ?_)
  · replace h := ifn b1 h
    refine lv_aload_n hx hb d_X_next_11 rfl (lv_at hl 0 rfl) ?_
    refine fg_X_30 C hw hc0 d_X_next_12 ?_
    refine lv_aload_n hx hb d_X_next_15 rfl (lv_at hl 0 rfl) ?_
    refine fg_X_23 C hw hc0 d_X_next_16 ?_
    refine bnd h (fun q2 k3 h => ?_)
    refine clV C hw (invV (As := [.ref (g.2.1 49)]) C hw (c_K_becomes g 67 tX_67 49 tX_49 σ q2 k3 l) rfl wc_X_165 nd_K_becomes ⟨by decide, by decide⟩ (rc_K C hw tX_67) rfl hl.1 rfl (Nat.le_of_ble_eq_true rfl) d_X_next_19 ⟨Nat.le_refl _, Nat.le_refl _⟩) (fun H locs hw => ?_)
    refine lv_iconst (v := 0) hx hb d_X_next_22 (by decide) ?_
    refine lv_istore_n (lv' := [(2, .int 0), (0, .ref (g.2.1 c0)), (1, .int p1)]) hx hb d_X_next_23 rfl hl (by decide) rfl (fun ls hl => ?_)
    have L4 : ∀ (c0 : Nat) (hc0 : tg BX c0 0) (x1 : Int32) (n : Nat) (x2 : Int32) (σ : St) (H : Heap) (locs : List Loc) (ls : Array Slot), HW BX g A s σ H locs → lv_has ls 4 [(0, .ref (g.2.1 c0)), (1, .int x1), (2, .int x2)] → ∀ (ex : (St) ⊕ (Int32 × St)), f_X_next_l24 n c0 x1 x2 σ = some ex → (∀ (y : St), ex = Sum.inl y → ∀ (H : Heap) (locs : List Loc) (ls : Array Slot), HW BX g A s y H locs → lv_has ls 4 [] → W p l e (rmL 7) s m args below meth c H locs 0 0 (MQ below (QI BX g q A) args s 0 0 A) (F0 m 95 ls [])) → (∀ (z : Int32 × St), ex = Sum.inr z → z = q) → W p l e (rmL 7) s m args below meth c H locs 0 0 (MQ below (QI BX g q A) args s 0 0 A) (F0 m 24 ls []) := by
      intro c0 hc0 x1 n
      induction n with
      | zero =>
        intro x2 σ H locs ls hw hl ex h kx4 kr4
        cases h
      | succ n ih =>
        intro x2 σ H locs ls hw hl ex h kx4 kr4
        rw [f_X_next_l24] at h
        refine lv_iload_n hx hb d_X_next_24 rfl (lv_at hl 2 rfl) ?_
        refine lv_bipush (v := 60) hx hb d_X_next_25 (by decide) ?_
        refine lv_icmp_ge (tgt := 95) hx hb d_X_next_27 (by decide) (fun b5 => ?_) (fun b5 => ?_)
        · replace h := ifp b5 h
          exact kx4 _ (Option.some.inj h).symm H locs ls hw (lv_sub hl [] rfl)
        · replace h := ifn b5 h
          refine lv_iconst (v := 0) hx hb d_X_next_30 (by decide) ?_
          refine lv_istore_n (lv' := [(3, .int 0), (0, .ref (g.2.1 c0)), (1, .int x1), (2, .int x2)]) hx hb d_X_next_31 rfl hl (by decide) rfl (fun ls hl => ?_)
          have L6 : ∀ (c0 : Nat) (hc0 : tg BX c0 0) (x1 : Int32) (x2 : Int32) (n : Nat) (x3 : Int32) (σ : St) (H : Heap) (locs : List Loc) (ls : Array Slot), HW BX g A s σ H locs → lv_has ls 4 [(0, .ref (g.2.1 c0)), (1, .int x1), (2, .int x2), (3, .int x3)] → ∀ (ex : (St) ⊕ (Int32 × St)), f_X_next_l32 n c0 x1 x2 x3 σ = some ex → (∀ (y : St), ex = Sum.inl y → ∀ (H : Heap) (locs : List Loc) (ls : Array Slot), HW BX g A s y H locs → lv_has ls 4 [(0, .ref (g.2.1 c0)), (1, .int x1), (2, .int x2)] → W p l e (rmL 7) s m args below meth c H locs 0 0 (MQ below (QI BX g q A) args s 0 0 A) (F0 m 76 ls [])) → (∀ (z : Int32 × St), ex = Sum.inr z → z = q) → W p l e (rmL 7) s m args below meth c H locs 0 0 (MQ below (QI BX g q A) args s 0 0 A) (F0 m 32 ls []) := by
            intro c0 hc0 x1 x2 n
            induction n with
            | zero =>
              intro x3 σ H locs ls hw hl ex h kx6 kr6
              cases h
            | succ n ih =>
              intro x3 σ H locs ls hw hl ex h kx6 kr6
              rw [f_X_next_l32] at h
              refine lv_iload_n hx hb d_X_next_32 rfl (lv_at hl 3 rfl) ?_
              refine lv_aload_n hx hb d_X_next_33 rfl (lv_at hl 0 rfl) ?_
              refine fg_X_30 C hw hc0 d_X_next_34 ?_
              refine fg_X_87 C hw tX_67 d_X_next_37 ?_
              refine lv_icmp_ge (tgt := 76) hx hb d_X_next_40 (by decide) (fun b7 => ?_) (fun b7 => ?_)
              · replace h := ifp b7 h
                exact kx6 _ (Option.some.inj h).symm H locs ls hw (lv_sub hl [0, 1, 2] rfl)
              · replace h := ifn b7 h
                refine lv_aload_n hx hb d_X_next_43 rfl (lv_at hl 0 rfl) ?_
                refine fg_X_30 C hw hc0 d_X_next_44 ?_
                refine lv_iload_n hx hb d_X_next_47 rfl (lv_at hl 3 rfl) ?_
                refine bnd h (fun q8 k9 h => ?_)
                refine clI C hw (invV (As := [.int x3]) C hw (c_K_taking g 67 tX_67 x3 σ q8 k9 l) rfl wc_X_159 nd_K_taking ⟨by decide, by decide⟩ (rc_K C hw tX_67) rfl hl.1 rfl (Nat.le_of_ble_eq_true rfl) d_X_next_48 ⟨Nat.le_refl _, Nat.le_refl _⟩) (fun H locs hw => ?_)
                refine lv_pop hx hb d_X_next_51 rfl ?_
                refine lv_aload_n hx hb d_X_next_52 rfl (lv_at hl 0 rfl) ?_
                refine lv_iload_n hx hb d_X_next_53 rfl (lv_at hl 3 rfl) ?_
                refine bnd h (fun q10 k11 h => ?_)
                refine clI0 (v := q10) C hw (invV (As := [.int x3]) C hw (c_X_fetchesMore g c0 hc0 x3 q8.2 q10 k11 l) rfl wc_X_172 nd_X_fetchesMore ⟨by decide, by decide⟩ (rc_X C hw hc0) rfl hl.1 rfl (Nat.le_of_ble_eq_true rfl) d_X_next_54 ⟨Nat.le_refl _, Nat.le_refl _⟩) (fun H locs hw => ?_)
                refine lv_if_le (tgt := 70) hx hb d_X_next_57 (by decide) (fun b12 => ?_) (fun b12 => ?_)
                · replace h := ifp b12 h
                  refine lv_iinc (v := (x3 + 1)) (lv' := [(3, .int (x3 + 1)), (0, .ref (g.2.1 c0)), (1, .int x1), (2, .int x2)]) hx hb d_X_next_70 hl (k := 3) rfl rfl (by decide) rfl (fun ls hl => ?_)
                  refine lv_goto (tgt := 32) hx hb d_X_next_73 (by decide) ?_
                  exact ih (x3 + 1) q8.2 H locs ls hw (lv_sub hl [1, 2, 3, 0] rfl) ex h kx6 kr6
                · replace h := ifn b12 h
                  refine lv_iload_n hx hb d_X_next_60 rfl (lv_at hl 1 rfl) ?_
                  refine lv_if_ne (tgt := 68) hx hb d_X_next_61 (by decide) (fun b13 => ?_) (fun b13 => ?_)
                  · replace h := ifn b13 h
                    refine lv_iload_n hx hb d_X_next_68 rfl (lv_at hl 2 rfl) ?_
                    exact retI C hw rfl (kr6 _ (Option.some.inj h).symm) d_X_next_69
                  · replace h := ifp b13 h
                    refine lv_iload_n hx hb d_X_next_64 rfl (lv_at hl 3 rfl) ?_
                    refine lv_goto (tgt := 69) hx hb d_X_next_65 (by decide) ?_
                    exact retI C hw rfl (kr6 _ (Option.some.inj h).symm) d_X_next_69
          refine bnd h (fun x_14 k15 h => ?_)
          refine L6 c0 hc0 x1 x2 FU 0 σ H locs ls hw (lv_sub hl [1, 2, 3, 0] rfl) x_14 k15 (fun y16 e20 H locs ls hw hl => ?_) (fun z e20 => ?_)
          · rw [e20] at h
            replace h := sel h
            refine lv_aload_n hx hb d_X_next_76 rfl (lv_at hl 0 rfl) ?_
            refine fg_X_30 C hw hc0 d_X_next_77 ?_
            refine lv_dup hx hb d_X_next_80 rfl ?_
            refine fg_X_146 C hw tX_67 d_X_next_81 ?_
            refine lv_iconst (v := 1) hx hb d_X_next_84 (by decide) ?_
            refine lv_iadd hx hb d_X_next_85 ?_
            refine ste h (fun s18 e19 h => ?_)
            refine fp_X_146 C hw tX_67 d_X_next_86 (fun H locs hw => ?_)
            replace hw := HWe hw e19
            refine lv_iinc (v := (x2 + 1)) (lv' := [(2, .int (x2 + 1)), (0, .ref (g.2.1 c0)), (1, .int x1)]) hx hb d_X_next_89 hl (k := 2) rfl rfl (by decide) rfl (fun ls hl => ?_)
            refine lv_goto (tgt := 24) hx hb d_X_next_92 (by decide) ?_
            exact ih (x2 + 1) s18 H locs ls hw (lv_sub hl [1, 2, 0] rfl) ex h kx4 kr4
          · rw [e20] at h
            replace h := ser h
            exact kr4 _ (Option.some.inj h).symm
    refine bnd h (fun x_21 k22 h => ?_)
    refine L4 c0 hc0 p1 FU 0 q2 H locs ls hw (lv_sub hl [1, 2, 0] rfl) x_21 k22 (fun y23 e24 H locs ls hw hl => ?_) (fun z e24 => ?_)
    · rw [e24] at h
      replace h := sel h
      refine lv_bipush (v := (-5)) hx hb d_X_next_95 (by decide) ?_
      exact retI C hw rfl (Option.some.inj h) d_X_next_97
    · rw [e24] at h
      replace h := ser h
      exact Option.some.inj h
  · replace h := ifp b1 h
    refine lv_iconst (v := (-1)) hx hb d_X_next_9 (by decide) ?_
    exact retI C hw rfl (Option.some.inj h) d_X_next_10
def f_X_least_l33 : Nat → Nat → Int32 → Int32 → Int32 → Int32 → Int32 → St → Option (Int32 × Int32 × St)
  | 0, _, _, _, _, _, _, _ => none
  | n + 1, c0, x1, x2, x3, x4, x5, σ => (if 20 < x5 then some (x3, x4, σ) else ((f_K_becomes 67 49 σ).bind fun q5 => (st (sI q5 67 11 x5) fun s8 => ((f_K_go 67 x1 (-1) (-1) s8).bind fun q9 => (if x4 ≤ q9.1 then (f_X_least_l33 n c0 x1 x2 x3 x4 (x5 + 1) q9.2) else (f_X_least_l33 n c0 x1 x2 x5 q9.1 (x5 + 1) q9.2))))))
def f_X_least (c0 : Nat) (p1 : Int32) (p2 : Int32) (σ : St) : Option (Int32 × St) := (if (f_X_inside p2 0 1) = false then some ((-1), σ) else (if (f_X_inside p1 1 10) = false then some ((-2), σ) else ((f_X_least_l33 FU c0 p1 p2 0 2147483647 0 σ).bind fun x_13 => (if p2 = 0 then some (x_13.1, x_13.2.2) else some (x_13.2.1, x_13.2.2)))))
set_option maxHeartbeats 400000 in
set_option maxRecDepth 20000 in
theorem c_X_least (g : GX) (c0 : Nat) (hc0 : tg BX c0 0) (p1 : Int32) (p2 : Int32) (σ : St) (q : Int32 × St) (h : f_X_least c0 p1 p2 σ = some q) (l : Launch) : CT BX l y_X_least (v_X_least :: lwG) 8 [.ref (g.2.1 c0), .int p1, .int p2] g σ (QI BX g q) := by
  refine mkC (cc := b_X_least) (maxL := 7) (ret := (some .int)) rfl (by decide) rfl (Nat.le_of_ble_eq_true rfl) ?_
  intro p e s m args below meth c A ls C hl hw
  obtain ⟨hx, hb, hr, hml, hown, hts, hK, hE, hA, hlk⟩ := id C
  replace hl : lv_has ls 7 [(0, .ref (g.2.1 c0)), (1, .int p1), (2, .int p2)] := hl
  obtain ⟨H, hH⟩ : ∃ z, z = s.heap := ⟨_, rfl⟩
  rw [← hH] at hw ⊢
  obtain ⟨locs, hlo⟩ : ∃ z : List Loc, z = [] := ⟨_, rfl⟩
  rw [← hlo] at hw ⊢
  unfold f_X_least at h
  refine lv_iload_n hx hb d_X_least_0 rfl (lv_at hl 2 rfl) ?_
  refine lv_iconst (v := 0) hx hb d_X_least_1 (by decide) ?_
  refine lv_iconst (v := 1) hx hb d_X_least_2 (by decide) ?_
  refine clZ0 (v := (f_X_inside p2 0 1)) C hw (invS (As := [.int p2, .int 0, .int 1]) C hw (c_X_inside g p2 0 1 σ l) rfl wc_X_83 nd_X_inside.2 ⟨by decide, by decide⟩ rfl hl.1 rfl (Nat.le_of_ble_eq_true rfl) d_X_least_3 ⟨Nat.le_refl _, Nat.le_refl _⟩) (fun H locs hw => ?_)
  refine ifnB (tgt := 11) C d_X_least_6 (by decide) (fun b1 => ?_) (fun b1 => ?_)
  · replace h := ifn b1 h
    refine lv_iload_n hx hb d_X_least_11 rfl (lv_at hl 1 rfl) ?_
    refine lv_iconst (v := 1) hx hb d_X_least_12 (by decide) ?_
    refine lv_bipush (v := 10) hx hb d_X_least_13 (by decide) ?_
    refine clZ0 (v := (f_X_inside p1 1 10)) C hw (invS (As := [.int p1, .int 1, .int 10]) C hw (c_X_inside g p1 1 10 σ l) rfl wc_X_83 nd_X_inside.2 ⟨by decide, by decide⟩ rfl hl.1 rfl (Nat.le_of_ble_eq_true rfl) d_X_least_15 ⟨Nat.le_refl _, Nat.le_refl _⟩) (fun H locs hw => ?_)
    refine ifnB (tgt := 24) C d_X_least_18 (by decide) (fun b2 => ?_) (fun b2 => ?_)
    · replace h := ifn b2 h
      refine lv_iconst (v := 0) hx hb d_X_least_24 (by decide) ?_
      refine lv_istore_n (lv' := [(3, .int 0), (0, .ref (g.2.1 c0)), (1, .int p1), (2, .int p2)]) hx hb d_X_least_25 rfl hl (by decide) rfl (fun ls hl => ?_)
      refine lv_ldc (v := 2147483647) hx hb hown (hts _ (inG 590 (by decide +kernel) (by decide +kernel))) d_X_least_26 ?_
      refine lv_istore (lv' := [(4, .int 2147483647), (3, .int 0), (0, .ref (g.2.1 c0)), (1, .int p1), (2, .int p2)]) hx hb d_X_least_28 hl (by decide) rfl (fun ls hl => ?_)
      refine lv_iconst (v := 0) hx hb d_X_least_30 (by decide) ?_
      refine lv_istore (lv' := [(5, .int 0), (4, .int 2147483647), (3, .int 0), (0, .ref (g.2.1 c0)), (1, .int p1), (2, .int p2)]) hx hb d_X_least_31 hl (by decide) rfl (fun ls hl => ?_)
      have L3 : ∀ (c0 : Nat) (hc0 : tg BX c0 0) (x1 : Int32) (x2 : Int32) (n : Nat) (x3 : Int32) (x4 : Int32) (x5 : Int32) (σ : St) (H : Heap) (locs : List Loc) (ls : Array Slot), HW BX g A s σ H locs → lv_has ls 7 [(0, .ref (g.2.1 c0)), (1, .int x1), (2, .int x2), (3, .int x3), (4, .int x4), (5, .int x5)] → ∀ (ex : Int32 × Int32 × St), f_X_least_l33 n c0 x1 x2 x3 x4 x5 σ = some ex → (∀ (y : Int32 × Int32 × St), ex = y → ∀ (H : Heap) (locs : List Loc) (ls : Array Slot), HW BX g A s y.2.2 H locs → lv_has ls 7 [(2, .int x2), (3, .int y.1), (4, .int y.2.1)] → W p l e (rmL 8) s m args below meth c H locs 0 0 (MQ below (QI BX g q A) args s 0 0 A) (F0 m 92 ls [])) → (True) → W p l e (rmL 8) s m args below meth c H locs 0 0 (MQ below (QI BX g q A) args s 0 0 A) (F0 m 33 ls []) := by
        intro c0 hc0 x1 x2 n
        induction n with
        | zero =>
          intro x3 x4 x5 σ H locs ls hw hl ex h kx3 kr3
          cases h
        | succ n ih =>
          intro x3 x4 x5 σ H locs ls hw hl ex h kx3 kr3
          rw [f_X_least_l33] at h
          refine lv_iload hx hb d_X_least_33 (lv_at hl 5 rfl) ?_
          refine lv_bipush (v := 20) hx hb d_X_least_35 (by decide) ?_
          refine lv_icmp_gt (tgt := 92) hx hb d_X_least_37 (by decide) (fun b4 => ?_) (fun b4 => ?_)
          · replace h := ifp b4 h
            exact kx3 _ (Option.some.inj h).symm H locs ls hw (lv_sub hl [2, 3, 4] rfl)
          · replace h := ifn b4 h
            refine lv_aload_n hx hb d_X_least_40 rfl (lv_at hl 0 rfl) ?_
            refine fg_X_30 C hw hc0 d_X_least_41 ?_
            refine lv_aload_n hx hb d_X_least_44 rfl (lv_at hl 0 rfl) ?_
            refine fg_X_23 C hw hc0 d_X_least_45 ?_
            refine bnd h (fun q5 k6 h => ?_)
            refine clV C hw (invV (As := [.ref (g.2.1 49)]) C hw (c_K_becomes g 67 tX_67 49 tX_49 σ q5 k6 l) rfl wc_X_165 nd_K_becomes ⟨by decide, by decide⟩ (rc_K C hw tX_67) rfl hl.1 rfl (Nat.le_of_ble_eq_true rfl) d_X_least_48 ⟨Nat.le_refl _, Nat.le_refl _⟩) (fun H locs hw => ?_)
            refine lv_aload_n hx hb d_X_least_51 rfl (lv_at hl 0 rfl) ?_
            refine fg_X_30 C hw hc0 d_X_least_52 ?_
            refine lv_iload hx hb d_X_least_55 (lv_at hl 5 rfl) ?_
            refine ste h (fun s8 e12 h => ?_)
            refine fp_X_149 C hw tX_67 d_X_least_57 (fun H locs hw => ?_)
            replace hw := HWe hw e12
            refine lv_aload_n hx hb d_X_least_60 rfl (lv_at hl 0 rfl) ?_
            refine fg_X_30 C hw hc0 d_X_least_61 ?_
            refine lv_iload_n hx hb d_X_least_64 rfl (lv_at hl 1 rfl) ?_
            refine lv_iconst (v := (-1)) hx hb d_X_least_65 (by decide) ?_
            refine lv_iconst (v := (-1)) hx hb d_X_least_66 (by decide) ?_
            refine bnd h (fun q9 k10 h => ?_)
            refine clI C hw (invV (As := [.int x1, .int (-1), .int (-1)]) C hw (c_K_go g 67 tX_67 x1 (-1) (-1) s8 q9 k10 l) rfl wc_X_162 nd_K_go ⟨by decide, by decide⟩ (rc_K C hw tX_67) rfl hl.1 rfl (Nat.le_of_ble_eq_true rfl) d_X_least_67 ⟨Nat.le_refl _, Nat.le_refl _⟩) (fun H locs hw => ?_)
            refine lv_istore (lv' := [(6, .int q9.1), (0, .ref (g.2.1 c0)), (1, .int x1), (2, .int x2), (3, .int x3), (4, .int x4), (5, .int x5)]) hx hb d_X_least_70 hl (by decide) rfl (fun ls hl => ?_)
            refine lv_iload hx hb d_X_least_72 (lv_at hl 0 rfl) ?_
            refine lv_iload hx hb d_X_least_74 (lv_at hl 5 rfl) ?_
            refine lv_icmp_ge (tgt := 86) hx hb d_X_least_76 (by decide) (fun b11 => ?_) (fun b11 => ?_)
            · replace h := ifp b11 h
              refine lv_iinc (v := (x5 + 1)) (lv' := [(5, .int (x5 + 1)), (6, .int q9.1), (0, .ref (g.2.1 c0)), (1, .int x1), (2, .int x2), (3, .int x3), (4, .int x4)]) hx hb d_X_least_86 hl (k := 6) rfl rfl (by decide) rfl (fun ls hl => ?_)
              refine lv_goto (tgt := 33) hx hb d_X_least_89 (by decide) ?_
              exact ih x3 x4 (x5 + 1) q9.2 H locs ls hw (lv_sub hl [2, 3, 4, 5, 6, 0] rfl) ex h kx3 kr3
            · replace h := ifn b11 h
              refine lv_iload hx hb d_X_least_79 (lv_at hl 6 rfl) ?_
              refine lv_istore_n (lv' := [(3, .int x5), (6, .int q9.1), (0, .ref (g.2.1 c0)), (1, .int x1), (2, .int x2), (4, .int x4), (5, .int x5)]) hx hb d_X_least_81 rfl hl (by decide) rfl (fun ls hl => ?_)
              refine lv_iload hx hb d_X_least_82 (lv_at hl 1 rfl) ?_
              refine lv_istore (lv' := [(4, .int q9.1), (3, .int x5), (6, .int q9.1), (0, .ref (g.2.1 c0)), (1, .int x1), (2, .int x2), (5, .int x5)]) hx hb d_X_least_84 hl (by decide) rfl (fun ls hl => ?_)
              refine lv_iinc (v := (x5 + 1)) (lv' := [(5, .int (x5 + 1)), (4, .int q9.1), (3, .int x5), (6, .int q9.1), (0, .ref (g.2.1 c0)), (1, .int x1), (2, .int x2)]) hx hb d_X_least_86 hl (k := 6) rfl rfl (by decide) rfl (fun ls hl => ?_)
              refine lv_goto (tgt := 33) hx hb d_X_least_89 (by decide) ?_
              exact ih x5 q9.1 (x5 + 1) q9.2 H locs ls hw (lv_sub hl [4, 5, 6, 2, 1, 0] rfl) ex h kx3 kr3
      refine bnd h (fun x_13 k14 h => ?_)
      refine L3 c0 hc0 p1 p2 FU 0 2147483647 0 σ H locs ls hw (lv_sub hl [3, 4, 5, 2, 1, 0] rfl) x_13 k14 (fun y17 e18 H locs ls hw hl => ?_) trivial
      subst e18
      refine lv_iload_n hx hb d_X_least_92 rfl (lv_at hl 0 rfl) ?_
      refine lv_if_ne (tgt := 100) hx hb d_X_least_93 (by decide) (fun b16 => ?_) (fun b16 => ?_)
      · replace h := ifn b16 h
        refine lv_iload hx hb d_X_least_100 (lv_at hl 2 rfl) ?_
        exact retI C hw rfl (Option.some.inj h) d_X_least_102
      · replace h := ifp b16 h
        refine lv_iload_n hx hb d_X_least_96 rfl (lv_at hl 1 rfl) ?_
        refine lv_goto (tgt := 102) hx hb d_X_least_97 (by decide) ?_
        exact retI C hw rfl (Option.some.inj h) d_X_least_102
    · replace h := ifp b2 h
      refine lv_bipush (v := (-2)) hx hb d_X_least_21 (by decide) ?_
      exact retI C hw rfl (Option.some.inj h) d_X_least_23
  · replace h := ifp b1 h
    refine lv_iconst (v := (-1)) hx hb d_X_least_9 (by decide) ?_
    exact retI C hw rfl (Option.some.inj h) d_X_least_10
def f_X_full_l33 : Nat → Nat → Int32 → Int32 → Int32 → Int32 → Int32 → St → Option (Int32 × Int32 × St)
  | 0, _, _, _, _, _, _, _ => none
  | n + 1, c0, x1, x2, x3, x4, x5, σ => (if 30 < x5 then some (x3, x4, σ) else ((f_K_becomes 67 49 σ).bind fun q5 => (st (sI q5 67 12 (10 * x5)) fun s8 => ((f_K_go 67 x1 (-1) (-1) s8).bind fun q9 => (if x4 ≤ (q9.1 * (x5 + 9)) then (f_X_full_l33 n c0 x1 x2 x3 x4 (x5 + 1) q9.2) else (f_X_full_l33 n c0 x1 x2 (10 * x5) (q9.1 * (x5 + 9)) (x5 + 1) q9.2))))))
def f_X_full (c0 : Nat) (p1 : Int32) (p2 : Int32) (σ : St) : Option (Int32 × St) := (if (f_X_inside p2 0 1) = false then some ((-1), σ) else (if (f_X_inside p1 1 10) = false then some ((-2), σ) else ((f_X_full_l33 FU c0 p1 p2 0 2147483647 1 σ).bind fun x_13 => (if p2 = 0 then some (x_13.1, x_13.2.2) else some (x_13.2.1, x_13.2.2)))))
set_option maxHeartbeats 400000 in
set_option maxRecDepth 20000 in
theorem c_X_full (g : GX) (c0 : Nat) (hc0 : tg BX c0 0) (p1 : Int32) (p2 : Int32) (σ : St) (q : Int32 × St) (h : f_X_full c0 p1 p2 σ = some q) (l : Launch) : CT BX l y_X_full (v_X_full :: lwG) 8 [.ref (g.2.1 c0), .int p1, .int p2] g σ (QI BX g q) := by
  refine mkC (cc := b_X_full) (maxL := 7) (ret := (some .int)) rfl (by decide) rfl (Nat.le_of_ble_eq_true rfl) ?_
  intro p e s m args below meth c A ls C hl hw
  obtain ⟨hx, hb, hr, hml, hown, hts, hK, hE, hA, hlk⟩ := id C
  replace hl : lv_has ls 7 [(0, .ref (g.2.1 c0)), (1, .int p1), (2, .int p2)] := hl
  obtain ⟨H, hH⟩ : ∃ z, z = s.heap := ⟨_, rfl⟩
  rw [← hH] at hw ⊢
  obtain ⟨locs, hlo⟩ : ∃ z : List Loc, z = [] := ⟨_, rfl⟩
  rw [← hlo] at hw ⊢
  unfold f_X_full at h
  refine lv_iload_n hx hb d_X_full_0 rfl (lv_at hl 2 rfl) ?_
  refine lv_iconst (v := 0) hx hb d_X_full_1 (by decide) ?_
  refine lv_iconst (v := 1) hx hb d_X_full_2 (by decide) ?_
  refine clZ0 (v := (f_X_inside p2 0 1)) C hw (invS (As := [.int p2, .int 0, .int 1]) C hw (c_X_inside g p2 0 1 σ l) rfl wc_X_83 nd_X_inside.2 ⟨by decide, by decide⟩ rfl hl.1 rfl (Nat.le_of_ble_eq_true rfl) d_X_full_3 ⟨Nat.le_refl _, Nat.le_refl _⟩) (fun H locs hw => ?_)
  refine ifnB (tgt := 11) C d_X_full_6 (by decide) (fun b1 => ?_) (fun b1 => ?_)
  · replace h := ifn b1 h
    refine lv_iload_n hx hb d_X_full_11 rfl (lv_at hl 1 rfl) ?_
    refine lv_iconst (v := 1) hx hb d_X_full_12 (by decide) ?_
    refine lv_bipush (v := 10) hx hb d_X_full_13 (by decide) ?_
    refine clZ0 (v := (f_X_inside p1 1 10)) C hw (invS (As := [.int p1, .int 1, .int 10]) C hw (c_X_inside g p1 1 10 σ l) rfl wc_X_83 nd_X_inside.2 ⟨by decide, by decide⟩ rfl hl.1 rfl (Nat.le_of_ble_eq_true rfl) d_X_full_15 ⟨Nat.le_refl _, Nat.le_refl _⟩) (fun H locs hw => ?_)
    refine ifnB (tgt := 24) C d_X_full_18 (by decide) (fun b2 => ?_) (fun b2 => ?_)
    · replace h := ifn b2 h
      refine lv_iconst (v := 0) hx hb d_X_full_24 (by decide) ?_
      refine lv_istore_n (lv' := [(3, .int 0), (0, .ref (g.2.1 c0)), (1, .int p1), (2, .int p2)]) hx hb d_X_full_25 rfl hl (by decide) rfl (fun ls hl => ?_)
      refine lv_ldc (v := 2147483647) hx hb hown (hts _ (inG 590 (by decide +kernel) (by decide +kernel))) d_X_full_26 ?_
      refine lv_istore (lv' := [(4, .int 2147483647), (3, .int 0), (0, .ref (g.2.1 c0)), (1, .int p1), (2, .int p2)]) hx hb d_X_full_28 hl (by decide) rfl (fun ls hl => ?_)
      refine lv_iconst (v := 1) hx hb d_X_full_30 (by decide) ?_
      refine lv_istore (lv' := [(5, .int 1), (4, .int 2147483647), (3, .int 0), (0, .ref (g.2.1 c0)), (1, .int p1), (2, .int p2)]) hx hb d_X_full_31 hl (by decide) rfl (fun ls hl => ?_)
      have L3 : ∀ (c0 : Nat) (hc0 : tg BX c0 0) (x1 : Int32) (x2 : Int32) (n : Nat) (x3 : Int32) (x4 : Int32) (x5 : Int32) (σ : St) (H : Heap) (locs : List Loc) (ls : Array Slot), HW BX g A s σ H locs → lv_has ls 7 [(0, .ref (g.2.1 c0)), (1, .int x1), (2, .int x2), (3, .int x3), (4, .int x4), (5, .int x5)] → ∀ (ex : Int32 × Int32 × St), f_X_full_l33 n c0 x1 x2 x3 x4 x5 σ = some ex → (∀ (y : Int32 × Int32 × St), ex = y → ∀ (H : Heap) (locs : List Loc) (ls : Array Slot), HW BX g A s y.2.2 H locs → lv_has ls 7 [(2, .int x2), (3, .int y.1), (4, .int y.2.1)] → W p l e (rmL 8) s m args below meth c H locs 0 0 (MQ below (QI BX g q A) args s 0 0 A) (F0 m 104 ls [])) → (True) → W p l e (rmL 8) s m args below meth c H locs 0 0 (MQ below (QI BX g q A) args s 0 0 A) (F0 m 33 ls []) := by
        intro c0 hc0 x1 x2 n
        induction n with
        | zero =>
          intro x3 x4 x5 σ H locs ls hw hl ex h kx3 kr3
          cases h
        | succ n ih =>
          intro x3 x4 x5 σ H locs ls hw hl ex h kx3 kr3
          rw [f_X_full_l33] at h
          refine lv_iload hx hb d_X_full_33 (lv_at hl 5 rfl) ?_
          refine lv_bipush (v := 30) hx hb d_X_full_35 (by decide) ?_
          refine lv_icmp_gt (tgt := 104) hx hb d_X_full_37 (by decide) (fun b4 => ?_) (fun b4 => ?_)
          · replace h := ifp b4 h
            exact kx3 _ (Option.some.inj h).symm H locs ls hw (lv_sub hl [2, 3, 4] rfl)
          · replace h := ifn b4 h
            refine lv_aload_n hx hb d_X_full_40 rfl (lv_at hl 0 rfl) ?_
            refine fg_X_30 C hw hc0 d_X_full_41 ?_
            refine lv_aload_n hx hb d_X_full_44 rfl (lv_at hl 0 rfl) ?_
            refine fg_X_23 C hw hc0 d_X_full_45 ?_
            refine bnd h (fun q5 k6 h => ?_)
            refine clV C hw (invV (As := [.ref (g.2.1 49)]) C hw (c_K_becomes g 67 tX_67 49 tX_49 σ q5 k6 l) rfl wc_X_165 nd_K_becomes ⟨by decide, by decide⟩ (rc_K C hw tX_67) rfl hl.1 rfl (Nat.le_of_ble_eq_true rfl) d_X_full_48 ⟨Nat.le_refl _, Nat.le_refl _⟩) (fun H locs hw => ?_)
            refine lv_aload_n hx hb d_X_full_51 rfl (lv_at hl 0 rfl) ?_
            refine fg_X_30 C hw hc0 d_X_full_52 ?_
            refine lv_bipush (v := 10) hx hb d_X_full_55 (by decide) ?_
            refine lv_iload hx hb d_X_full_57 (lv_at hl 5 rfl) ?_
            refine lv_imul hx hb d_X_full_59 ?_
            refine ste h (fun s8 e12 h => ?_)
            refine fp_X_152 C hw tX_67 d_X_full_60 (fun H locs hw => ?_)
            replace hw := HWe hw e12
            refine lv_aload_n hx hb d_X_full_63 rfl (lv_at hl 0 rfl) ?_
            refine fg_X_30 C hw hc0 d_X_full_64 ?_
            refine lv_iload_n hx hb d_X_full_67 rfl (lv_at hl 1 rfl) ?_
            refine lv_iconst (v := (-1)) hx hb d_X_full_68 (by decide) ?_
            refine lv_iconst (v := (-1)) hx hb d_X_full_69 (by decide) ?_
            refine bnd h (fun q9 k10 h => ?_)
            refine clI C hw (invV (As := [.int x1, .int (-1), .int (-1)]) C hw (c_K_go g 67 tX_67 x1 (-1) (-1) s8 q9 k10 l) rfl wc_X_162 nd_K_go ⟨by decide, by decide⟩ (rc_K C hw tX_67) rfl hl.1 rfl (Nat.le_of_ble_eq_true rfl) d_X_full_70 ⟨Nat.le_refl _, Nat.le_refl _⟩) (fun H locs hw => ?_)
            refine lv_iload hx hb d_X_full_73 (lv_at hl 5 rfl) ?_
            refine lv_bipush (v := 9) hx hb d_X_full_75 (by decide) ?_
            refine lv_iadd hx hb d_X_full_77 ?_
            refine lv_imul hx hb d_X_full_78 ?_
            refine lv_istore (lv' := [(6, .int (q9.1 * (x5 + 9))), (0, .ref (g.2.1 c0)), (1, .int x1), (2, .int x2), (3, .int x3), (4, .int x4), (5, .int x5)]) hx hb d_X_full_79 hl (by decide) rfl (fun ls hl => ?_)
            refine lv_iload hx hb d_X_full_81 (lv_at hl 0 rfl) ?_
            refine lv_iload hx hb d_X_full_83 (lv_at hl 5 rfl) ?_
            refine lv_icmp_ge (tgt := 98) hx hb d_X_full_85 (by decide) (fun b11 => ?_) (fun b11 => ?_)
            · replace h := ifp b11 h
              refine lv_iinc (v := (x5 + 1)) (lv' := [(5, .int (x5 + 1)), (6, .int (q9.1 * (x5 + 9))), (0, .ref (g.2.1 c0)), (1, .int x1), (2, .int x2), (3, .int x3), (4, .int x4)]) hx hb d_X_full_98 hl (k := 6) rfl rfl (by decide) rfl (fun ls hl => ?_)
              refine lv_goto (tgt := 33) hx hb d_X_full_101 (by decide) ?_
              exact ih x3 x4 (x5 + 1) q9.2 H locs ls hw (lv_sub hl [2, 3, 4, 5, 6, 0] rfl) ex h kx3 kr3
            · replace h := ifn b11 h
              refine lv_bipush (v := 10) hx hb d_X_full_88 (by decide) ?_
              refine lv_iload hx hb d_X_full_90 (lv_at hl 6 rfl) ?_
              refine lv_imul hx hb d_X_full_92 ?_
              refine lv_istore_n (lv' := [(3, .int (10 * x5)), (6, .int (q9.1 * (x5 + 9))), (0, .ref (g.2.1 c0)), (1, .int x1), (2, .int x2), (4, .int x4), (5, .int x5)]) hx hb d_X_full_93 rfl hl (by decide) rfl (fun ls hl => ?_)
              refine lv_iload hx hb d_X_full_94 (lv_at hl 1 rfl) ?_
              refine lv_istore (lv' := [(4, .int (q9.1 * (x5 + 9))), (3, .int (10 * x5)), (6, .int (q9.1 * (x5 + 9))), (0, .ref (g.2.1 c0)), (1, .int x1), (2, .int x2), (5, .int x5)]) hx hb d_X_full_96 hl (by decide) rfl (fun ls hl => ?_)
              refine lv_iinc (v := (x5 + 1)) (lv' := [(5, .int (x5 + 1)), (4, .int (q9.1 * (x5 + 9))), (3, .int (10 * x5)), (6, .int (q9.1 * (x5 + 9))), (0, .ref (g.2.1 c0)), (1, .int x1), (2, .int x2)]) hx hb d_X_full_98 hl (k := 6) rfl rfl (by decide) rfl (fun ls hl => ?_)
              refine lv_goto (tgt := 33) hx hb d_X_full_101 (by decide) ?_
              exact ih (10 * x5) (q9.1 * (x5 + 9)) (x5 + 1) q9.2 H locs ls hw (lv_sub hl [4, 5, 6, 2, 1, 0] rfl) ex h kx3 kr3
      refine bnd h (fun x_13 k14 h => ?_)
      refine L3 c0 hc0 p1 p2 FU 0 2147483647 1 σ H locs ls hw (lv_sub hl [3, 4, 5, 2, 1, 0] rfl) x_13 k14 (fun y17 e18 H locs ls hw hl => ?_) trivial
      subst e18
      refine lv_iload_n hx hb d_X_full_104 rfl (lv_at hl 0 rfl) ?_
      refine lv_if_ne (tgt := 112) hx hb d_X_full_105 (by decide) (fun b16 => ?_) (fun b16 => ?_)
      · replace h := ifn b16 h
        refine lv_iload hx hb d_X_full_112 (lv_at hl 2 rfl) ?_
        exact retI C hw rfl (Option.some.inj h) d_X_full_114
      · replace h := ifp b16 h
        refine lv_iload_n hx hb d_X_full_108 rfl (lv_at hl 1 rfl) ?_
        refine lv_goto (tgt := 114) hx hb d_X_full_109 (by decide) ?_
        exact retI C hw rfl (Option.some.inj h) d_X_full_114
    · replace h := ifp b2 h
      refine lv_bipush (v := (-2)) hx hb d_X_full_21 (by decide) ?_
      exact retI C hw rfl (Option.some.inj h) d_X_full_23
  · replace h := ifp b1 h
    refine lv_iconst (v := (-1)) hx hb d_X_full_9 (by decide) ?_
    exact retI C hw rfl (Option.some.inj h) d_X_full_10
def f_X_ordersOf_l4 : Nat → Int32 → Int32 → Int32 → Option (Int32)
  | 0, _, _, _ => none
  | n + 1, x0, x1, x2 => (if x0 < x2 then some x1 else (f_X_ordersOf_l4 n x0 (x1 * x2) (x2 + 1)))
def f_X_ordersOf (p0 : Int32) : Option (Int32) := ((f_X_ordersOf_l4 FU p0 1 2).bind fun x_3 => some x_3)
set_option maxHeartbeats 400000 in
set_option maxRecDepth 20000 in
theorem c_X_ordersOf (g : GX) (p0 : Int32) (σ : St) (q : Int32) (h : f_X_ordersOf p0 = some q) (l : Launch) : CT BX l y_X_ordersOf (v_X_ordersOf :: lwG) 1 [.int p0] g σ (QI BX g (q, σ)) := by
  refine mkC (cc := b_X_ordersOf) (maxL := 3) (ret := (some .int)) rfl (by decide) rfl (Nat.le_of_ble_eq_true rfl) ?_
  intro p e s m args below meth c A ls C hl hw
  obtain ⟨hx, hb, hr, hml, hown, hts, hK, hE, hA, hlk⟩ := id C
  replace hl : lv_has ls 3 [(0, .int p0)] := hl
  obtain ⟨H, hH⟩ : ∃ z, z = s.heap := ⟨_, rfl⟩
  rw [← hH] at hw ⊢
  obtain ⟨locs, hlo⟩ : ∃ z : List Loc, z = [] := ⟨_, rfl⟩
  rw [← hlo] at hw ⊢
  unfold f_X_ordersOf at h
  refine lv_iconst (v := 1) hx hb d_X_ordersOf_0 (by decide) ?_
  refine lv_istore_n (lv' := [(1, .int 1), (0, .int p0)]) hx hb d_X_ordersOf_1 rfl hl (by decide) rfl (fun ls hl => ?_)
  refine lv_iconst (v := 2) hx hb d_X_ordersOf_2 (by decide) ?_
  refine lv_istore_n (lv' := [(2, .int 2), (1, .int 1), (0, .int p0)]) hx hb d_X_ordersOf_3 rfl hl (by decide) rfl (fun ls hl => ?_)
  have L1 : ∀ (x0 : Int32) (n : Nat) (x1 : Int32) (x2 : Int32) (σ : St) (H : Heap) (locs : List Loc) (ls : Array Slot), HW BX g A s σ H locs → lv_has ls 3 [(0, .int x0), (1, .int x1), (2, .int x2)] → ∀ (ex : Int32), f_X_ordersOf_l4 n x0 x1 x2 = some ex → (∀ (y : Int32), ex = y → ∀ (H : Heap) (locs : List Loc) (ls : Array Slot), HW BX g A s σ H locs → lv_has ls 3 [(1, .int y)] → W p l e (rmL 1) s m args below meth c H locs 0 0 (MQ below (QI BX g (q, σ) A) args s 0 0 A) (F0 m 19 ls [])) → (True) → W p l e (rmL 1) s m args below meth c H locs 0 0 (MQ below (QI BX g (q, σ) A) args s 0 0 A) (F0 m 4 ls []) := by
    intro x0 n
    induction n with
    | zero =>
      intro x1 x2 σ H locs ls hw hl ex h kx1 kr1
      cases h
    | succ n ih =>
      intro x1 x2 σ H locs ls hw hl ex h kx1 kr1
      rw [f_X_ordersOf_l4] at h
      refine lv_iload_n hx hb d_X_ordersOf_4 rfl (lv_at hl 2 rfl) ?_
      refine lv_iload_n hx hb d_X_ordersOf_5 rfl (lv_at hl 0 rfl) ?_
      refine lv_icmp_gt (tgt := 19) hx hb d_X_ordersOf_6 (by decide) (fun b2 => ?_) (fun b2 => ?_)
      · replace h := ifp b2 h
        exact kx1 _ (Option.some.inj h).symm H locs ls hw (lv_sub hl [1] rfl)
      · replace h := ifn b2 h
        refine lv_iload_n hx hb d_X_ordersOf_9 rfl (lv_at hl 1 rfl) ?_
        refine lv_iload_n hx hb d_X_ordersOf_10 rfl (lv_at hl 2 rfl) ?_
        refine lv_imul hx hb d_X_ordersOf_11 ?_
        refine lv_istore_n (lv' := [(1, .int (x1 * x2)), (0, .int x0), (2, .int x2)]) hx hb d_X_ordersOf_12 rfl hl (by decide) rfl (fun ls hl => ?_)
        refine lv_iinc (v := (x2 + 1)) (lv' := [(2, .int (x2 + 1)), (1, .int (x1 * x2)), (0, .int x0)]) hx hb d_X_ordersOf_13 hl (k := 2) rfl rfl (by decide) rfl (fun ls hl => ?_)
        refine lv_goto (tgt := 4) hx hb d_X_ordersOf_16 (by decide) ?_
        exact ih (x1 * x2) (x2 + 1) σ H locs ls hw (lv_sub hl [2, 1, 0] rfl) ex h kx1 kr1
  refine bnd h (fun x_3 k4 h => ?_)
  refine L1 p0 FU 1 2 σ H locs ls hw (lv_sub hl [2, 1, 0] rfl) x_3 k4 (fun y6 e7 H locs ls hw hl => ?_) trivial
  subst e7
  refine lv_iload_n hx hb d_X_ordersOf_19 rfl (lv_at hl 0 rfl) ?_
  exact retI C hw rfl (congrArg (fun z => (z, σ)) (Option.some.inj h)) d_X_ordersOf_20
def f_X_unused_l5 : Nat → Int32 → Int32 → Int32 → Int32 → Option ((Unit) ⊕ (Int32))
  | 0, _, _, _, _ => none
  | n + 1, x0, x2, x3, x4 => (if x2 ≤ x4 then some (Sum.inl ()) else (if ((x0 >>> (x4 &&& (31 : Int32))) &&& 1) = 0 then (if x3 = 0 then some (Sum.inr x4) else (f_X_unused_l5 n x0 x2 (x3 + (-1)) (x4 + 1))) else (f_X_unused_l5 n x0 x2 x3 (x4 + 1))))
def f_X_unused (p0 : Int32) (p1 : Int32) (p2 : Int32) : Option (Int32) := ((f_X_unused_l5 FU p0 p2 p1 0).bind fun x_5 => Sum.elim (fun y7 => some 0) (fun z => some z) x_5)
set_option maxHeartbeats 400000 in
set_option maxRecDepth 20000 in
theorem c_X_unused (g : GX) (p0 : Int32) (p1 : Int32) (p2 : Int32) (σ : St) (q : Int32) (h : f_X_unused p0 p1 p2 = some q) (l : Launch) : CT BX l y_X_unused (v_X_unused :: lwG) 1 [.int p0, .int p1, .int p2] g σ (QI BX g (q, σ)) := by
  refine mkC (cc := b_X_unused) (maxL := 5) (ret := (some .int)) rfl (by decide) rfl (Nat.le_of_ble_eq_true rfl) ?_
  intro p e s m args below meth c A ls C hl hw
  obtain ⟨hx, hb, hr, hml, hown, hts, hK, hE, hA, hlk⟩ := id C
  replace hl : lv_has ls 5 [(0, .int p0), (1, .int p1), (2, .int p2)] := hl
  obtain ⟨H, hH⟩ : ∃ z, z = s.heap := ⟨_, rfl⟩
  rw [← hH] at hw ⊢
  obtain ⟨locs, hlo⟩ : ∃ z : List Loc, z = [] := ⟨_, rfl⟩
  rw [← hlo] at hw ⊢
  unfold f_X_unused at h
  refine lv_iload_n hx hb d_X_unused_0 rfl (lv_at hl 1 rfl) ?_
  refine lv_istore_n (lv' := [(3, .int p1), (0, .int p0), (1, .int p1), (2, .int p2)]) hx hb d_X_unused_1 rfl hl (by decide) rfl (fun ls hl => ?_)
  refine lv_iconst (v := 0) hx hb d_X_unused_2 (by decide) ?_
  refine lv_istore (lv' := [(4, .int 0), (3, .int p1), (0, .int p0), (1, .int p1), (2, .int p2)]) hx hb d_X_unused_3 hl (by decide) rfl (fun ls hl => ?_)
  have L1 : ∀ (x0 : Int32) (x2 : Int32) (n : Nat) (x3 : Int32) (x4 : Int32) (σ : St) (H : Heap) (locs : List Loc) (ls : Array Slot), HW BX g A s σ H locs → lv_has ls 5 [(0, .int x0), (2, .int x2), (3, .int x3), (4, .int x4)] → ∀ (ex : (Unit) ⊕ (Int32)), f_X_unused_l5 n x0 x2 x3 x4 = some ex → (∀ (y : Unit), ex = Sum.inl y → ∀ (H : Heap) (locs : List Loc) (ls : Array Slot), HW BX g A s σ H locs → lv_has ls 5 [] → W p l e (rmL 1) s m args below meth c H locs 0 0 (MQ below (QI BX g (q, σ) A) args s 0 0 A) (F0 m 36 ls [])) → (∀ (z : Int32), ex = Sum.inr z → z = q) → W p l e (rmL 1) s m args below meth c H locs 0 0 (MQ below (QI BX g (q, σ) A) args s 0 0 A) (F0 m 5 ls []) := by
    intro x0 x2 n
    induction n with
    | zero =>
      intro x3 x4 σ H locs ls hw hl ex h kx1 kr1
      cases h
    | succ n ih =>
      intro x3 x4 σ H locs ls hw hl ex h kx1 kr1
      rw [f_X_unused_l5] at h
      refine lv_iload hx hb d_X_unused_5 (lv_at hl 3 rfl) ?_
      refine lv_iload_n hx hb d_X_unused_7 rfl (lv_at hl 1 rfl) ?_
      refine lv_icmp_ge (tgt := 36) hx hb d_X_unused_8 (by decide) (fun b2 => ?_) (fun b2 => ?_)
      · replace h := ifp b2 h
        exact kx1 _ (Option.some.inj h).symm H locs ls hw (lv_sub hl [] rfl)
      · replace h := ifn b2 h
        refine lv_iload_n hx hb d_X_unused_11 rfl (lv_at hl 0 rfl) ?_
        refine lv_iload hx hb d_X_unused_12 (lv_at hl 3 rfl) ?_
        refine lv_ishr hx hb d_X_unused_14 ?_
        refine lv_iconst (v := 1) hx hb d_X_unused_15 (by decide) ?_
        refine lv_iand hx hb d_X_unused_16 ?_
        refine lv_if_ne (tgt := 30) hx hb d_X_unused_17 (by decide) (fun b3 => ?_) (fun b3 => ?_)
        · replace h := ifn b3 h
          refine lv_iinc (v := (x4 + 1)) (lv' := [(4, .int (x4 + 1)), (0, .int x0), (2, .int x2), (3, .int x3)]) hx hb d_X_unused_30 hl (k := 3) rfl rfl (by decide) rfl (fun ls hl => ?_)
          refine lv_goto (tgt := 5) hx hb d_X_unused_33 (by decide) ?_
          exact ih x3 (x4 + 1) σ H locs ls hw (lv_sub hl [1, 2, 3, 0] rfl) ex h kx1 kr1
        · replace h := ifp b3 h
          refine lv_iload_n hx hb d_X_unused_20 rfl (lv_at hl 2 rfl) ?_
          refine lv_if_ne (tgt := 27) hx hb d_X_unused_21 (by decide) (fun b4 => ?_) (fun b4 => ?_)
          · replace h := ifn b4 h
            refine lv_iinc (v := (x3 + (-1))) (lv' := [(3, .int (x3 + (-1))), (0, .int x0), (2, .int x2), (4, .int x4)]) hx hb d_X_unused_27 hl (k := 2) rfl rfl (by decide) rfl (fun ls hl => ?_)
            refine lv_iinc (v := (x4 + 1)) (lv' := [(4, .int (x4 + 1)), (3, .int (x3 + (-1))), (0, .int x0), (2, .int x2)]) hx hb d_X_unused_30 hl (k := 3) rfl rfl (by decide) rfl (fun ls hl => ?_)
            refine lv_goto (tgt := 5) hx hb d_X_unused_33 (by decide) ?_
            exact ih (x3 + (-1)) (x4 + 1) σ H locs ls hw (lv_sub hl [2, 3, 1, 0] rfl) ex h kx1 kr1
          · replace h := ifp b4 h
            refine lv_iload hx hb d_X_unused_24 (lv_at hl 3 rfl) ?_
            exact retI C hw rfl (congrArg (fun z => (z, σ)) (kr1 _ (Option.some.inj h).symm)) d_X_unused_26
  refine bnd h (fun x_5 k6 h => ?_)
  refine L1 p0 p2 FU p1 0 σ H locs ls hw (lv_sub hl [2, 4, 1, 0] rfl) x_5 k6 (fun y7 e8 H locs ls hw hl => ?_) (fun z e8 => ?_)
  · rw [e8] at h
    replace h := sel h
    refine lv_iconst (v := 0) hx hb d_X_unused_36 (by decide) ?_
    exact retI C hw rfl (congrArg (fun z => (z, σ)) (Option.some.inj h)) d_X_unused_37
  · rw [e8] at h
    replace h := ser h
    exact Option.some.inj h
def f_X_putOrder_l12 : Nat → Nat → Int32 → Int32 → Int32 → Int32 → Int32 → St → Option ((St) ⊕ (St))
  | 0, _, _, _, _, _, _, _ => none
  | n + 1, c0, x3, x4, x5, x6, x7, σ => (if x3 ≤ x7 then some (Sum.inl σ) else (if 5 ≤ x7 then some (Sum.inl σ) else (if (x3 - x7) = 0 then none else (if 1 ≤ (x6 / (x3 - x7)) then (if (x6 / (x3 - x7)) = 0 then none else ((f_X_unused x4 (x5 / (x6 / (x3 - x7))) x3).bind fun q7 => (if ok x7 5 = true then (st (sJ σ 87 (upd (vJ σ 87) (nx x7) q7)) fun s10 => (if ok x7 5 = true then (if (x6 / (x3 - x7)) = 0 then none else (f_X_putOrder_l12 n c0 x3 (x4 ||| (1 <<< ((vJ s10 87 (nx x7)) &&& (31 : Int32)))) (x5 % (x6 / (x3 - x7))) (x6 / (x3 - x7)) (x7 + 1) s10)) else none)) else none))) else some (Sum.inr σ)))))
def f_X_putOrder (c0 : Nat) (p1 : Int32) (p2 : Int32) (p3 : Int32) (σ : St) : Option (St) := ((f_X_putOrder_l12 FU c0 p3 0 p1 p2 0 σ).bind fun x_14 => Sum.elim (fun y16 => some y16) (fun z => some z) x_14)
set_option maxHeartbeats 400000 in
set_option maxRecDepth 20000 in
theorem c_X_putOrder (g : GX) (c0 : Nat) (hc0 : tg BX c0 0) (p1 : Int32) (p2 : Int32) (p3 : Int32) (σ : St) (q : St) (h : f_X_putOrder c0 p1 p2 p3 σ = some q) (l : Launch) : CT BX l y_X_putOrder (v_X_putOrder :: lwG) 2 [.ref (g.2.1 c0), .int p1, .int p2, .int p3] g σ (QV BX g q) := by
  refine mkC (cc := b_X_putOrder) (maxL := 8) (ret := none) rfl (by decide) rfl (Nat.le_of_ble_eq_true rfl) ?_
  intro p e s m args below meth c A ls C hl hw
  obtain ⟨hx, hb, hr, hml, hown, hts, hK, hE, hA, hlk⟩ := id C
  replace hl : lv_has ls 8 [(0, .ref (g.2.1 c0)), (1, .int p1), (2, .int p2), (3, .int p3)] := hl
  obtain ⟨H, hH⟩ : ∃ z, z = s.heap := ⟨_, rfl⟩
  rw [← hH] at hw ⊢
  obtain ⟨locs, hlo⟩ : ∃ z : List Loc, z = [] := ⟨_, rfl⟩
  rw [← hlo] at hw ⊢
  unfold f_X_putOrder at h
  refine lv_iconst (v := 0) hx hb d_X_putOrder_0 (by decide) ?_
  refine lv_istore (lv' := [(4, .int 0), (0, .ref (g.2.1 c0)), (1, .int p1), (2, .int p2), (3, .int p3)]) hx hb d_X_putOrder_1 hl (by decide) rfl (fun ls hl => ?_)
  refine lv_iload_n hx hb d_X_putOrder_3 rfl (lv_at hl 2 rfl) ?_
  refine lv_istore (lv' := [(5, .int p1), (4, .int 0), (0, .ref (g.2.1 c0)), (1, .int p1), (2, .int p2), (3, .int p3)]) hx hb d_X_putOrder_4 hl (by decide) rfl (fun ls hl => ?_)
  refine lv_iload_n hx hb d_X_putOrder_6 rfl (lv_at hl 4 rfl) ?_
  refine lv_istore (lv' := [(6, .int p2), (5, .int p1), (4, .int 0), (0, .ref (g.2.1 c0)), (1, .int p1), (2, .int p2), (3, .int p3)]) hx hb d_X_putOrder_7 hl (by decide) rfl (fun ls hl => ?_)
  refine lv_iconst (v := 0) hx hb d_X_putOrder_9 (by decide) ?_
  refine lv_istore (lv' := [(7, .int 0), (6, .int p2), (5, .int p1), (4, .int 0), (0, .ref (g.2.1 c0)), (1, .int p1), (2, .int p2), (3, .int p3)]) hx hb d_X_putOrder_10 hl (by decide) rfl (fun ls hl => ?_)
  have L1 : ∀ (c0 : Nat) (hc0 : tg BX c0 0) (x3 : Int32) (n : Nat) (x4 : Int32) (x5 : Int32) (x6 : Int32) (x7 : Int32) (σ : St) (H : Heap) (locs : List Loc) (ls : Array Slot), HW BX g A s σ H locs → lv_has ls 8 [(0, .ref (g.2.1 c0)), (3, .int x3), (4, .int x4), (5, .int x5), (6, .int x6), (7, .int x7)] → ∀ (ex : (St) ⊕ (St)), f_X_putOrder_l12 n c0 x3 x4 x5 x6 x7 σ = some ex → (∀ (y : St), ex = Sum.inl y → ∀ (H : Heap) (locs : List Loc) (ls : Array Slot), HW BX g A s y H locs → lv_has ls 8 [] → W p l e (rmL 2) s m args below meth c H locs 0 0 (MQ below (QV BX g q A) args s 0 0 A) (F0 m 89 ls [])) → (∀ (z : St), ex = Sum.inr z → z = q) → W p l e (rmL 2) s m args below meth c H locs 0 0 (MQ below (QV BX g q A) args s 0 0 A) (F0 m 12 ls []) := by
    intro c0 hc0 x3 n
    induction n with
    | zero =>
      intro x4 x5 x6 x7 σ H locs ls hw hl ex h kx1 kr1
      cases h
    | succ n ih =>
      intro x4 x5 x6 x7 σ H locs ls hw hl ex h kx1 kr1
      rw [f_X_putOrder_l12] at h
      refine lv_iload hx hb d_X_putOrder_12 (lv_at hl 5 rfl) ?_
      refine lv_iload_n hx hb d_X_putOrder_14 rfl (lv_at hl 1 rfl) ?_
      refine lv_icmp_ge (tgt := 89) hx hb d_X_putOrder_15 (by decide) (fun b2 => ?_) (fun b2 => ?_)
      · replace h := ifp b2 h
        exact kx1 _ (Option.some.inj h).symm H locs ls hw (lv_sub hl [] rfl)
      · replace h := ifn b2 h
        refine lv_iload hx hb d_X_putOrder_18 (lv_at hl 5 rfl) ?_
        refine lv_aload_n hx hb d_X_putOrder_20 rfl (lv_at hl 0 rfl) ?_
        refine fg_X_62 C hw hc0 d_X_putOrder_21 ?_
        refine lnI (n := 5) (v := 5) C hw tX_87 (by decide) (by decide) d_X_putOrder_24 ?_
        refine lv_icmp_ge (tgt := 89) hx hb d_X_putOrder_25 (by decide) (fun b3 => ?_) (fun b3 => ?_)
        · replace h := ifp b3 h
          exact kx1 _ (Option.some.inj h).symm H locs ls hw (lv_sub hl [] rfl)
        · replace h := ifn b3 h
          refine lv_iload hx hb d_X_putOrder_28 (lv_at hl 4 rfl) ?_
          refine lv_iload_n hx hb d_X_putOrder_30 rfl (lv_at hl 1 rfl) ?_
          refine lv_iload hx hb d_X_putOrder_31 (lv_at hl 5 rfl) ?_
          refine lv_isub hx hb d_X_putOrder_33 ?_
          refine gdz h (fun g4 h => ?_)
          refine lv_idiv hx hb d_X_putOrder_34 g4 ?_
          refine lv_istore (lv' := [(6, .int (x6 / (x3 - x7))), (0, .ref (g.2.1 c0)), (3, .int x3), (4, .int x4), (5, .int x5), (7, .int x7)]) hx hb d_X_putOrder_35 hl (by decide) rfl (fun ls hl => ?_)
          refine lv_iload hx hb d_X_putOrder_37 (lv_at hl 0 rfl) ?_
          refine lv_iconst (v := 1) hx hb d_X_putOrder_39 (by decide) ?_
          refine lv_icmp_ge (tgt := 44) hx hb d_X_putOrder_40 (by decide) (fun b5 => ?_) (fun b5 => ?_)
          · replace h := ifp b5 h
            refine lv_aload_n hx hb d_X_putOrder_44 rfl (lv_at hl 1 rfl) ?_
            refine fg_X_62 C hw hc0 d_X_putOrder_45 ?_
            refine lv_iload hx hb d_X_putOrder_48 (lv_at hl 5 rfl) ?_
            refine lv_iload hx hb d_X_putOrder_50 (lv_at hl 3 rfl) ?_
            refine lv_iload hx hb d_X_putOrder_52 (lv_at hl 4 rfl) ?_
            refine lv_iload hx hb d_X_putOrder_54 (lv_at hl 0 rfl) ?_
            refine gdz h (fun g6 h => ?_)
            refine lv_idiv hx hb d_X_putOrder_56 g6 ?_
            refine lv_iload_n hx hb d_X_putOrder_57 rfl (lv_at hl 2 rfl) ?_
            refine bnd h (fun q7 k8 h => ?_)
            refine clI0 (v := q7) C hw (invS (As := [.int x4, .int (x5 / (x6 / (x3 - x7))), .int x3]) C hw (c_X_unused g x4 (x5 / (x6 / (x3 - x7))) x3 σ q7 k8 l) rfl wc_X_265 nd_X_unused.2 ⟨by decide, by decide⟩ rfl hl.1 rfl (Nat.le_of_ble_eq_true rfl) d_X_putOrder_58 ⟨Nat.le_refl _, Nat.le_refl _⟩) (fun H locs hw => ?_)
            refine gde h (fun g9 h => ?_)
            refine ste h (fun s10 e13 h => ?_)
            refine stI (n := 5) C hw tX_87 (by decide) g9 d_X_putOrder_61 (fun H locs hw => ?_)
            replace hw := HWe hw e13
            refine lv_iload hx hb d_X_putOrder_62 (lv_at hl 3 rfl) ?_
            refine lv_iconst (v := 1) hx hb d_X_putOrder_64 (by decide) ?_
            refine lv_aload_n hx hb d_X_putOrder_65 rfl (lv_at hl 1 rfl) ?_
            refine fg_X_62 C hw hc0 d_X_putOrder_66 ?_
            refine lv_iload hx hb d_X_putOrder_69 (lv_at hl 5 rfl) ?_
            refine gde h (fun g11 h => ?_)
            refine ldI (n := 5) C hw tX_87 (by decide) g11 d_X_putOrder_71 ?_
            refine lv_ishl hx hb d_X_putOrder_72 ?_
            refine lv_ior hx hb d_X_putOrder_73 ?_
            refine lv_istore (lv' := [(4, .int (x4 ||| (1 <<< ((vJ s10 87 (nx x7)) &&& (31 : Int32))))), (6, .int (x6 / (x3 - x7))), (0, .ref (g.2.1 c0)), (3, .int x3), (5, .int x5), (7, .int x7)]) hx hb d_X_putOrder_74 hl (by decide) rfl (fun ls hl => ?_)
            refine lv_iload hx hb d_X_putOrder_76 (lv_at hl 4 rfl) ?_
            refine lv_iload hx hb d_X_putOrder_78 (lv_at hl 1 rfl) ?_
            refine gdz h (fun g12 h => ?_)
            refine remR C g12 d_X_putOrder_80 ?_
            refine lv_istore (lv' := [(5, .int (x5 % (x6 / (x3 - x7)))), (4, .int (x4 ||| (1 <<< ((vJ s10 87 (nx x7)) &&& (31 : Int32))))), (6, .int (x6 / (x3 - x7))), (0, .ref (g.2.1 c0)), (3, .int x3), (7, .int x7)]) hx hb d_X_putOrder_81 hl (by decide) rfl (fun ls hl => ?_)
            refine lv_iinc (v := (x7 + 1)) (lv' := [(7, .int (x7 + 1)), (5, .int (x5 % (x6 / (x3 - x7)))), (4, .int (x4 ||| (1 <<< ((vJ s10 87 (nx x7)) &&& (31 : Int32))))), (6, .int (x6 / (x3 - x7))), (0, .ref (g.2.1 c0)), (3, .int x3)]) hx hb d_X_putOrder_83 hl (k := 5) rfl rfl (by decide) rfl (fun ls hl => ?_)
            refine lv_goto (tgt := 12) hx hb d_X_putOrder_86 (by decide) ?_
            exact ih (x4 ||| (1 <<< ((vJ s10 87 (nx x7)) &&& (31 : Int32)))) (x5 % (x6 / (x3 - x7))) (x6 / (x3 - x7)) (x7 + 1) s10 H locs ls hw (lv_sub hl [4, 5, 2, 1, 3, 0] rfl) ex h kx1 kr1
          · replace h := ifn b5 h
            exact retV C hw rfl (kr1 _ (Option.some.inj h).symm) d_X_putOrder_43
  refine bnd h (fun x_14 k15 h => ?_)
  refine L1 c0 hc0 p3 FU 0 p1 p2 0 σ H locs ls hw (lv_sub hl [4, 7, 3, 2, 1, 0] rfl) x_14 k15 (fun y16 e17 H locs ls hw hl => ?_) (fun z e17 => ?_)
  · rw [e17] at h
    replace h := sel h
    exact retV C hw rfl (Option.some.inj h) d_X_putOrder_89
  · rw [e17] at h
    replace h := ser h
    exact Option.some.inj h
def f_X_takenByOrder_l15 : Nat → Nat → Int32 → Int32 → St → Option (Int32 × St)
  | 0, _, _, _, _ => none
  | n + 1, c0, x1, x2, σ => (if (vI σ 67 0) ≤ x2 then some (x1, σ) else (if 5 ≤ x2 then some (x1, σ) else (if ok x2 5 = true then ((f_K_taking 67 (vJ σ 87 (nx x2)) σ).bind fun q7 => (f_X_takenByOrder_l15 n c0 (x1 + q7.1) (x2 + 1) q7.2)) else none)))
def f_X_takenByOrder (c0 : Nat) (σ : St) : Option (Int32 × St) := ((f_K_becomes 67 49 σ).bind fun q1 => ((f_X_takenByOrder_l15 FU c0 0 0 q1).bind fun x_9 => some (x_9.1, x_9.2)))
set_option maxHeartbeats 400000 in
set_option maxRecDepth 20000 in
theorem c_X_takenByOrder (g : GX) (c0 : Nat) (hc0 : tg BX c0 0) (σ : St) (q : Int32 × St) (h : f_X_takenByOrder c0 σ = some q) (l : Launch) : CT BX l y_X_takenByOrder (v_X_takenByOrder :: lwG) 7 [.ref (g.2.1 c0)] g σ (QI BX g q) := by
  refine mkC (cc := b_X_takenByOrder) (maxL := 3) (ret := (some .int)) rfl (by decide) rfl (Nat.le_of_ble_eq_true rfl) ?_
  intro p e s m args below meth c A ls C hl hw
  obtain ⟨hx, hb, hr, hml, hown, hts, hK, hE, hA, hlk⟩ := id C
  replace hl : lv_has ls 3 [(0, .ref (g.2.1 c0))] := hl
  obtain ⟨H, hH⟩ : ∃ z, z = s.heap := ⟨_, rfl⟩
  rw [← hH] at hw ⊢
  obtain ⟨locs, hlo⟩ : ∃ z : List Loc, z = [] := ⟨_, rfl⟩
  rw [← hlo] at hw ⊢
  unfold f_X_takenByOrder at h
  refine lv_aload_n hx hb d_X_takenByOrder_0 rfl (lv_at hl 0 rfl) ?_
  refine fg_X_30 C hw hc0 d_X_takenByOrder_1 ?_
  refine lv_aload_n hx hb d_X_takenByOrder_4 rfl (lv_at hl 0 rfl) ?_
  refine fg_X_23 C hw hc0 d_X_takenByOrder_5 ?_
  refine bnd h (fun q1 k2 h => ?_)
  refine clV C hw (invV (As := [.ref (g.2.1 49)]) C hw (c_K_becomes g 67 tX_67 49 tX_49 σ q1 k2 l) rfl wc_X_165 nd_K_becomes ⟨by decide, by decide⟩ (rc_K C hw tX_67) rfl hl.1 rfl (Nat.le_of_ble_eq_true rfl) d_X_takenByOrder_8 ⟨Nat.le_refl _, Nat.le_refl _⟩) (fun H locs hw => ?_)
  refine lv_iconst (v := 0) hx hb d_X_takenByOrder_11 (by decide) ?_
  refine lv_istore_n (lv' := [(1, .int 0), (0, .ref (g.2.1 c0))]) hx hb d_X_takenByOrder_12 rfl hl (by decide) rfl (fun ls hl => ?_)
  refine lv_iconst (v := 0) hx hb d_X_takenByOrder_13 (by decide) ?_
  refine lv_istore_n (lv' := [(2, .int 0), (1, .int 0), (0, .ref (g.2.1 c0))]) hx hb d_X_takenByOrder_14 rfl hl (by decide) rfl (fun ls hl => ?_)
  have L3 : ∀ (c0 : Nat) (hc0 : tg BX c0 0) (n : Nat) (x1 : Int32) (x2 : Int32) (σ : St) (H : Heap) (locs : List Loc) (ls : Array Slot), HW BX g A s σ H locs → lv_has ls 3 [(0, .ref (g.2.1 c0)), (1, .int x1), (2, .int x2)] → ∀ (ex : Int32 × St), f_X_takenByOrder_l15 n c0 x1 x2 σ = some ex → (∀ (y : Int32 × St), ex = y → ∀ (H : Heap) (locs : List Loc) (ls : Array Slot), HW BX g A s y.2 H locs → lv_has ls 3 [(1, .int y.1)] → W p l e (rmL 7) s m args below meth c H locs 0 0 (MQ below (QI BX g q A) args s 0 0 A) (F0 m 57 ls [])) → (True) → W p l e (rmL 7) s m args below meth c H locs 0 0 (MQ below (QI BX g q A) args s 0 0 A) (F0 m 15 ls []) := by
    intro c0 hc0 n
    induction n with
    | zero =>
      intro x1 x2 σ H locs ls hw hl ex h kx3 kr3
      cases h
    | succ n ih =>
      intro x1 x2 σ H locs ls hw hl ex h kx3 kr3
      rw [f_X_takenByOrder_l15] at h
      refine lv_iload_n hx hb d_X_takenByOrder_15 rfl (lv_at hl 2 rfl) ?_
      refine lv_aload_n hx hb d_X_takenByOrder_16 rfl (lv_at hl 0 rfl) ?_
      refine fg_X_30 C hw hc0 d_X_takenByOrder_17 ?_
      refine fg_X_87 C hw tX_67 d_X_takenByOrder_20 ?_
      refine lv_icmp_ge (tgt := 57) hx hb d_X_takenByOrder_23 (by decide) (fun b4 => ?_) (fun b4 => ?_)
      · replace h := ifp b4 h
        exact kx3 _ (Option.some.inj h).symm H locs ls hw (lv_sub hl [1] rfl)
      · replace h := ifn b4 h
        refine lv_iload_n hx hb d_X_takenByOrder_26 rfl (lv_at hl 2 rfl) ?_
        refine lv_aload_n hx hb d_X_takenByOrder_27 rfl (lv_at hl 0 rfl) ?_
        refine fg_X_62 C hw hc0 d_X_takenByOrder_28 ?_
        refine lnI (n := 5) (v := 5) C hw tX_87 (by decide) (by decide) d_X_takenByOrder_31 ?_
        refine lv_icmp_ge (tgt := 57) hx hb d_X_takenByOrder_32 (by decide) (fun b5 => ?_) (fun b5 => ?_)
        · replace h := ifp b5 h
          exact kx3 _ (Option.some.inj h).symm H locs ls hw (lv_sub hl [1] rfl)
        · replace h := ifn b5 h
          refine lv_iload_n hx hb d_X_takenByOrder_35 rfl (lv_at hl 1 rfl) ?_
          refine lv_aload_n hx hb d_X_takenByOrder_36 rfl (lv_at hl 0 rfl) ?_
          refine fg_X_30 C hw hc0 d_X_takenByOrder_37 ?_
          refine lv_aload_n hx hb d_X_takenByOrder_40 rfl (lv_at hl 0 rfl) ?_
          refine fg_X_62 C hw hc0 d_X_takenByOrder_41 ?_
          refine lv_iload_n hx hb d_X_takenByOrder_44 rfl (lv_at hl 2 rfl) ?_
          refine gde h (fun g6 h => ?_)
          refine ldI (n := 5) C hw tX_87 (by decide) g6 d_X_takenByOrder_45 ?_
          refine bnd h (fun q7 k8 h => ?_)
          refine clI C hw (invV (As := [.int (vJ σ 87 (nx x2))]) C hw (c_K_taking g 67 tX_67 (vJ σ 87 (nx x2)) σ q7 k8 l) rfl wc_X_159 nd_K_taking ⟨by decide, by decide⟩ (rc_K C hw tX_67) rfl hl.1 rfl (Nat.le_of_ble_eq_true rfl) d_X_takenByOrder_46 ⟨Nat.le_refl _, Nat.le_refl _⟩) (fun H locs hw => ?_)
          refine lv_iadd hx hb d_X_takenByOrder_49 ?_
          refine lv_istore_n (lv' := [(1, .int (x1 + q7.1)), (0, .ref (g.2.1 c0)), (2, .int x2)]) hx hb d_X_takenByOrder_50 rfl hl (by decide) rfl (fun ls hl => ?_)
          refine lv_iinc (v := (x2 + 1)) (lv' := [(2, .int (x2 + 1)), (1, .int (x1 + q7.1)), (0, .ref (g.2.1 c0))]) hx hb d_X_takenByOrder_51 hl (k := 2) rfl rfl (by decide) rfl (fun ls hl => ?_)
          refine lv_goto (tgt := 15) hx hb d_X_takenByOrder_54 (by decide) ?_
          exact ih (x1 + q7.1) (x2 + 1) q7.2 H locs ls hw (lv_sub hl [2, 1, 0] rfl) ex h kx3 kr3
  refine bnd h (fun x_9 k10 h => ?_)
  refine L3 c0 hc0 FU 0 0 q1 H locs ls hw (lv_sub hl [2, 1, 0] rfl) x_9 k10 (fun y12 e13 H locs ls hw hl => ?_) trivial
  subst e13
  refine lv_iload_n hx hb d_X_takenByOrder_57 rfl (lv_at hl 0 rfl) ?_
  exact retI C hw rfl (Option.some.inj h) d_X_takenByOrder_58
def f_X_order_l55 : Nat → Nat → Int32 → Int32 → Int32 → Int32 → St → Option (Int32 × St)
  | 0, _, _, _, _, _, _ => none
  | n + 1, c0, x1, x3, x2, x4, σ => (if x3 ≤ x4 then some (x2, σ) else ((f_X_putOrder c0 x4 x3 (vI σ 49 0) σ).bind fun q8 => ((f_X_takenByOrder c0 q8).bind fun q10 => (if q10.1 ≤ x2 then (f_X_order_l55 n c0 x1 x3 x2 (x4 + 1) q10.2) else (if okc 0 5 5 = true then (if okc 0 5 5 = true then (st (sJ q10.2 88 (va_cpy (vJ q10.2 87) (vJ q10.2 88) (nx 0) (nx 0) (nx 5))) fun s15 => (f_X_order_l55 n c0 x1 x3 q10.1 (x4 + 1) s15)) else none) else none)))))
def f_X_order (c0 : Nat) (p1 : Int32) (σ : St) : Option (Int32 × St) := (if (f_X_inside p1 (-1) 4) = false then some ((-1), σ) else (if (vI σ 49 0) ≤ 5 then (if p1 < (vI σ 49 0) then ((f_X_ordersOf (vI σ 49 0)).bind fun q4 => ((f_X_order_l55 FU c0 p1 q4 (-1) 0 σ).bind fun x_17 => (if 0 ≤ p1 then (if ok p1 5 = true then some ((vJ x_17.2 88 (nx p1)), x_17.2) else none) else some (x_17.1, x_17.2)))) else some ((-5), σ)) else some ((-9), σ)))
set_option maxHeartbeats 400000 in
set_option maxRecDepth 20000 in
theorem c_X_order (g : GX) (c0 : Nat) (hc0 : tg BX c0 0) (p1 : Int32) (σ : St) (q : Int32 × St) (h : f_X_order c0 p1 σ = some q) (l : Launch) : CT BX l y_X_order (v_X_order :: lwG) 8 [.ref (g.2.1 c0), .int p1] g σ (QI BX g q) := by
  refine mkC (cc := b_X_order) (maxL := 6) (ret := (some .int)) rfl (by decide) rfl (Nat.le_of_ble_eq_true rfl) ?_
  intro p e s m args below meth c A ls C hl hw
  obtain ⟨hx, hb, hr, hml, hown, hts, hK, hE, hA, hlk⟩ := id C
  replace hl : lv_has ls 6 [(0, .ref (g.2.1 c0)), (1, .int p1)] := hl
  obtain ⟨H, hH⟩ : ∃ z, z = s.heap := ⟨_, rfl⟩
  rw [← hH] at hw ⊢
  obtain ⟨locs, hlo⟩ : ∃ z : List Loc, z = [] := ⟨_, rfl⟩
  rw [← hlo] at hw ⊢
  unfold f_X_order at h
  refine lv_iload_n hx hb d_X_order_0 rfl (lv_at hl 1 rfl) ?_
  refine lv_iconst (v := (-1)) hx hb d_X_order_1 (by decide) ?_
  refine lv_iconst (v := 4) hx hb d_X_order_2 (by decide) ?_
  refine clZ0 (v := (f_X_inside p1 (-1) 4)) C hw (invS (As := [.int p1, .int (-1), .int 4]) C hw (c_X_inside g p1 (-1) 4 σ l) rfl wc_X_83 nd_X_inside.2 ⟨by decide, by decide⟩ rfl hl.1 rfl (Nat.le_of_ble_eq_true rfl) d_X_order_3 ⟨Nat.le_refl _, Nat.le_refl _⟩) (fun H locs hw => ?_)
  refine ifnB (tgt := 11) C d_X_order_6 (by decide) (fun b1 => ?_) (fun b1 => ?_)
  · replace h := ifn b1 h
    refine lv_aload_n hx hb d_X_order_11 rfl (lv_at hl 0 rfl) ?_
    refine fg_X_23 C hw hc0 d_X_order_12 ?_
    refine fg_X_87 C hw tX_49 d_X_order_15 ?_
    refine lv_iconst (v := 5) hx hb d_X_order_18 (by decide) ?_
    refine lv_icmp_le (tgt := 25) hx hb d_X_order_19 (by decide) (fun b2 => ?_) (fun b2 => ?_)
    · replace h := ifp b2 h
      refine lv_iload_n hx hb d_X_order_25 rfl (lv_at hl 1 rfl) ?_
      refine lv_aload_n hx hb d_X_order_26 rfl (lv_at hl 0 rfl) ?_
      refine fg_X_23 C hw hc0 d_X_order_27 ?_
      refine fg_X_87 C hw tX_49 d_X_order_30 ?_
      refine lv_icmp_lt (tgt := 39) hx hb d_X_order_33 (by decide) (fun b3 => ?_) (fun b3 => ?_)
      · replace h := ifp b3 h
        refine lv_iconst (v := (-1)) hx hb d_X_order_39 (by decide) ?_
        refine lv_istore_n (lv' := [(2, .int (-1)), (0, .ref (g.2.1 c0)), (1, .int p1)]) hx hb d_X_order_40 rfl hl (by decide) rfl (fun ls hl => ?_)
        refine lv_aload_n hx hb d_X_order_41 rfl (lv_at hl 1 rfl) ?_
        refine fg_X_23 C hw hc0 d_X_order_42 ?_
        refine fg_X_87 C hw tX_49 d_X_order_45 ?_
        refine bnd h (fun q4 k5 h => ?_)
        refine clI0 (v := q4) C hw (invS (As := [.int (vI σ 49 0)]) C hw (c_X_ordersOf g (vI σ 49 0) σ q4 k5 l) rfl wc_X_178 nd_X_ordersOf.2 ⟨by decide, by decide⟩ rfl hl.1 rfl (Nat.le_of_ble_eq_true rfl) d_X_order_48 ⟨Nat.le_refl _, Nat.le_refl _⟩) (fun H locs hw => ?_)
        refine lv_istore_n (lv' := [(3, .int q4), (2, .int (-1)), (0, .ref (g.2.1 c0)), (1, .int p1)]) hx hb d_X_order_51 rfl hl (by decide) rfl (fun ls hl => ?_)
        refine lv_iconst (v := 0) hx hb d_X_order_52 (by decide) ?_
        refine lv_istore (lv' := [(4, .int 0), (3, .int q4), (2, .int (-1)), (0, .ref (g.2.1 c0)), (1, .int p1)]) hx hb d_X_order_53 hl (by decide) rfl (fun ls hl => ?_)
        have L6 : ∀ (c0 : Nat) (hc0 : tg BX c0 0) (x1 : Int32) (x3 : Int32) (n : Nat) (x2 : Int32) (x4 : Int32) (σ : St) (H : Heap) (locs : List Loc) (ls : Array Slot), HW BX g A s σ H locs → lv_has ls 6 [(0, .ref (g.2.1 c0)), (1, .int x1), (2, .int x2), (3, .int x3), (4, .int x4)] → ∀ (ex : Int32 × St), f_X_order_l55 n c0 x1 x3 x2 x4 σ = some ex → (∀ (y : Int32 × St), ex = y → ∀ (H : Heap) (locs : List Loc) (ls : Array Slot), HW BX g A s y.2 H locs → lv_has ls 6 [(0, .ref (g.2.1 c0)), (1, .int x1), (2, .int y.1)] → W p l e (rmL 8) s m args below meth c H locs 0 0 (MQ below (QI BX g q A) args s 0 0 A) (F0 m 114 ls [])) → (True) → W p l e (rmL 8) s m args below meth c H locs 0 0 (MQ below (QI BX g q A) args s 0 0 A) (F0 m 55 ls []) := by
          intro c0 hc0 x1 x3 n
          induction n with
          | zero =>
            intro x2 x4 σ H locs ls hw hl ex h kx6 kr6
            cases h
          | succ n ih =>
            intro x2 x4 σ H locs ls hw hl ex h kx6 kr6
            rw [f_X_order_l55] at h
            refine lv_iload hx hb d_X_order_55 (lv_at hl 4 rfl) ?_
            refine lv_iload_n hx hb d_X_order_57 rfl (lv_at hl 3 rfl) ?_
            refine lv_icmp_ge (tgt := 114) hx hb d_X_order_58 (by decide) (fun b7 => ?_) (fun b7 => ?_)
            · replace h := ifp b7 h
              exact kx6 _ (Option.some.inj h).symm H locs ls hw (lv_sub hl [0, 1, 2] rfl)
            · replace h := ifn b7 h
              refine lv_aload_n hx hb d_X_order_61 rfl (lv_at hl 0 rfl) ?_
              refine lv_iload hx hb d_X_order_62 (lv_at hl 4 rfl) ?_
              refine lv_iload_n hx hb d_X_order_64 rfl (lv_at hl 3 rfl) ?_
              refine lv_aload_n hx hb d_X_order_65 rfl (lv_at hl 0 rfl) ?_
              refine fg_X_23 C hw hc0 d_X_order_66 ?_
              refine fg_X_87 C hw tX_49 d_X_order_69 ?_
              refine bnd h (fun q8 k9 h => ?_)
              refine clV C hw (invV (As := [.int x4, .int x3, .int (vI σ 49 0)]) C hw (c_X_putOrder g c0 hc0 x4 x3 (vI σ 49 0) σ q8 k9 l) rfl wc_X_181 nd_X_putOrder ⟨by decide, by decide⟩ (rc_X C hw hc0) rfl hl.1 rfl (Nat.le_of_ble_eq_true rfl) d_X_order_72 ⟨Nat.le_refl _, Nat.le_refl _⟩) (fun H locs hw => ?_)
              refine lv_aload_n hx hb d_X_order_75 rfl (lv_at hl 0 rfl) ?_
              refine bnd h (fun q10 k11 h => ?_)
              refine clI C hw (invV (As := []) C hw (c_X_takenByOrder g c0 hc0 q8 q10 k11 l) rfl wc_X_185 nd_X_takenByOrder ⟨by decide, by decide⟩ (rc_X C hw hc0) rfl hl.1 rfl (Nat.le_of_ble_eq_true rfl) d_X_order_76 ⟨Nat.le_refl _, Nat.le_refl _⟩) (fun H locs hw => ?_)
              refine lv_istore (lv' := [(5, .int q10.1), (0, .ref (g.2.1 c0)), (1, .int x1), (2, .int x2), (3, .int x3), (4, .int x4)]) hx hb d_X_order_79 hl (by decide) rfl (fun ls hl => ?_)
              refine lv_iload hx hb d_X_order_81 (lv_at hl 0 rfl) ?_
              refine lv_iload_n hx hb d_X_order_83 rfl (lv_at hl 3 rfl) ?_
              refine lv_icmp_le (tgt := 108) hx hb d_X_order_84 (by decide) (fun b12 => ?_) (fun b12 => ?_)
              · replace h := ifp b12 h
                refine lv_iinc (v := (x4 + 1)) (lv' := [(4, .int (x4 + 1)), (5, .int q10.1), (0, .ref (g.2.1 c0)), (1, .int x1), (2, .int x2), (3, .int x3)]) hx hb d_X_order_108 hl (k := 5) rfl rfl (by decide) rfl (fun ls hl => ?_)
                refine lv_goto (tgt := 55) hx hb d_X_order_111 (by decide) ?_
                exact ih x2 (x4 + 1) q10.2 H locs ls hw (lv_sub hl [2, 3, 4, 5, 0] rfl) ex h kx6 kr6
              · replace h := ifn b12 h
                refine lv_iload hx hb d_X_order_87 (lv_at hl 0 rfl) ?_
                refine lv_istore_n (lv' := [(2, .int q10.1), (5, .int q10.1), (0, .ref (g.2.1 c0)), (1, .int x1), (3, .int x3), (4, .int x4)]) hx hb d_X_order_89 rfl hl (by decide) rfl (fun ls hl => ?_)
                refine lv_aload_n hx hb d_X_order_90 rfl (lv_at hl 2 rfl) ?_
                refine fg_X_62 C hw hc0 d_X_order_91 ?_
                refine lv_iconst (v := 0) hx hb d_X_order_94 (by decide) ?_
                refine lv_aload_n hx hb d_X_order_95 rfl (lv_at hl 2 rfl) ?_
                refine fg_X_66 C hw hc0 d_X_order_96 ?_
                refine lv_iconst (v := 0) hx hb d_X_order_99 (by decide) ?_
                refine lv_aload_n hx hb d_X_order_100 rfl (lv_at hl 2 rfl) ?_
                refine fg_X_66 C hw hc0 d_X_order_101 ?_
                refine lnI (n := 5) (v := 5) C hw tX_88 (by decide) (by decide) d_X_order_104 ?_
                refine gde h (fun g13 h => ?_)
                refine gde h (fun g14 h => ?_)
                refine ste h (fun s15 e16 h => ?_)
                refine cpI (n0 := 5) (n1 := 5) C hw wc_X_189 tX_87 (by decide) tX_88 (by decide) g13 g14 hl.1 (Nat.le_of_ble_eq_true rfl) (Nat.le_of_ble_eq_true rfl) d_X_order_105 (fun H locs hw => ?_)
                replace hw := HWe hw e16
                refine lv_iinc (v := (x4 + 1)) (lv' := [(4, .int (x4 + 1)), (2, .int q10.1), (5, .int q10.1), (0, .ref (g.2.1 c0)), (1, .int x1), (3, .int x3)]) hx hb d_X_order_108 hl (k := 5) rfl rfl (by decide) rfl (fun ls hl => ?_)
                refine lv_goto (tgt := 55) hx hb d_X_order_111 (by decide) ?_
                exact ih q10.1 (x4 + 1) s15 H locs ls hw (lv_sub hl [3, 4, 1, 5, 0] rfl) ex h kx6 kr6
        refine bnd h (fun x_17 k18 h => ?_)
        refine L6 c0 hc0 p1 q4 FU (-1) 0 σ H locs ls hw (lv_sub hl [3, 4, 2, 1, 0] rfl) x_17 k18 (fun y22 e23 H locs ls hw hl => ?_) trivial
        subst e23
        refine lv_iload_n hx hb d_X_order_114 rfl (lv_at hl 1 rfl) ?_
        refine lv_if_ge (tgt := 122) hx hb d_X_order_115 (by decide) (fun b20 => ?_) (fun b20 => ?_)
        · replace h := ifp b20 h
          refine lv_aload_n hx hb d_X_order_122 rfl (lv_at hl 0 rfl) ?_
          refine fg_X_66 C hw hc0 d_X_order_123 ?_
          refine lv_iload_n hx hb d_X_order_126 rfl (lv_at hl 1 rfl) ?_
          refine gde h (fun g21 h => ?_)
          refine ldI (n := 5) C hw tX_88 (by decide) g21 d_X_order_127 ?_
          exact retI C hw rfl (Option.some.inj h) d_X_order_128
        · replace h := ifn b20 h
          refine lv_iload_n hx hb d_X_order_118 rfl (lv_at hl 2 rfl) ?_
          refine lv_goto (tgt := 128) hx hb d_X_order_119 (by decide) ?_
          exact retI C hw rfl (Option.some.inj h) d_X_order_128
      · replace h := ifn b3 h
        refine lv_bipush (v := (-5)) hx hb d_X_order_36 (by decide) ?_
        exact retI C hw rfl (Option.some.inj h) d_X_order_38
    · replace h := ifn b2 h
      refine lv_bipush (v := (-9)) hx hb d_X_order_22 (by decide) ?_
      exact retI C hw rfl (Option.some.inj h) d_X_order_24
  · replace h := ifp b1 h
    refine lv_iconst (v := (-1)) hx hb d_X_order_9 (by decide) ?_
    exact retI C hw rfl (Option.some.inj h) d_X_order_10
def f_X_without (c0 : Nat) (p1 : Int32) (p2 : Int32) (σ : St) : Option (Int32 × St) := (if (f_X_isTaker c0 p1 σ) = false then some ((-10001), σ) else (if (f_X_inside p2 0 30) = false then some ((-10002), σ) else ((f_K_becomes 67 49 σ).bind fun q3 => ((f_K_go 67 p2 (-1) (-1) q3).bind fun q5 => ((f_K_becomes 67 49 q5.2).bind fun q7 => ((f_K_go 67 p2 (-1) p1 q7).bind fun q9 => some ((q5.1 - q9.1), q9.2)))))))
set_option maxHeartbeats 400000 in
set_option maxRecDepth 20000 in
theorem c_X_without (g : GX) (c0 : Nat) (hc0 : tg BX c0 0) (p1 : Int32) (p2 : Int32) (σ : St) (q : Int32 × St) (h : f_X_without c0 p1 p2 σ = some q) (l : Launch) : CT BX l y_X_without (v_X_without :: lwG) 8 [.ref (g.2.1 c0), .int p1, .int p2] g σ (QI BX g q) := by
  refine mkC (cc := b_X_without) (maxL := 4) (ret := (some .int)) rfl (by decide) rfl (Nat.le_of_ble_eq_true rfl) ?_
  intro p e s m args below meth c A ls C hl hw
  obtain ⟨hx, hb, hr, hml, hown, hts, hK, hE, hA, hlk⟩ := id C
  replace hl : lv_has ls 4 [(0, .ref (g.2.1 c0)), (1, .int p1), (2, .int p2)] := hl
  obtain ⟨H, hH⟩ : ∃ z, z = s.heap := ⟨_, rfl⟩
  rw [← hH] at hw ⊢
  obtain ⟨locs, hlo⟩ : ∃ z : List Loc, z = [] := ⟨_, rfl⟩
  rw [← hlo] at hw ⊢
  unfold f_X_without at h
  refine lv_aload_n hx hb d_X_without_0 rfl (lv_at hl 0 rfl) ?_
  refine lv_iload_n hx hb d_X_without_1 rfl (lv_at hl 1 rfl) ?_
  refine clZ0 (v := (f_X_isTaker c0 p1 σ)) C hw (invV (As := [.int p1]) C hw (c_X_isTaker g c0 hc0 p1 σ l) rfl wc_X_94 nd_X_isTaker ⟨by decide, by decide⟩ (rc_X C hw hc0) rfl hl.1 rfl (Nat.le_of_ble_eq_true rfl) d_X_without_2 ⟨Nat.le_refl _, Nat.le_refl _⟩) (fun H locs hw => ?_)
  refine ifnB (tgt := 12) C d_X_without_5 (by decide) (fun b1 => ?_) (fun b1 => ?_)
  · replace h := ifn b1 h
    refine lv_iload_n hx hb d_X_without_12 rfl (lv_at hl 2 rfl) ?_
    refine lv_iconst (v := 0) hx hb d_X_without_13 (by decide) ?_
    refine lv_bipush (v := 30) hx hb d_X_without_14 (by decide) ?_
    refine clZ0 (v := (f_X_inside p2 0 30)) C hw (invS (As := [.int p2, .int 0, .int 30]) C hw (c_X_inside g p2 0 30 σ l) rfl wc_X_83 nd_X_inside.2 ⟨by decide, by decide⟩ rfl hl.1 rfl (Nat.le_of_ble_eq_true rfl) d_X_without_16 ⟨Nat.le_refl _, Nat.le_refl _⟩) (fun H locs hw => ?_)
    refine ifnB (tgt := 26) C d_X_without_19 (by decide) (fun b2 => ?_) (fun b2 => ?_)
    · replace h := ifn b2 h
      refine lv_aload_n hx hb d_X_without_26 rfl (lv_at hl 0 rfl) ?_
      refine fg_X_30 C hw hc0 d_X_without_27 ?_
      refine lv_aload_n hx hb d_X_without_30 rfl (lv_at hl 0 rfl) ?_
      refine fg_X_23 C hw hc0 d_X_without_31 ?_
      refine bnd h (fun q3 k4 h => ?_)
      refine clV C hw (invV (As := [.ref (g.2.1 49)]) C hw (c_K_becomes g 67 tX_67 49 tX_49 σ q3 k4 l) rfl wc_X_165 nd_K_becomes ⟨by decide, by decide⟩ (rc_K C hw tX_67) rfl hl.1 rfl (Nat.le_of_ble_eq_true rfl) d_X_without_34 ⟨Nat.le_refl _, Nat.le_refl _⟩) (fun H locs hw => ?_)
      refine lv_aload_n hx hb d_X_without_37 rfl (lv_at hl 0 rfl) ?_
      refine fg_X_30 C hw hc0 d_X_without_38 ?_
      refine lv_iload_n hx hb d_X_without_41 rfl (lv_at hl 2 rfl) ?_
      refine lv_iconst (v := (-1)) hx hb d_X_without_42 (by decide) ?_
      refine lv_iconst (v := (-1)) hx hb d_X_without_43 (by decide) ?_
      refine bnd h (fun q5 k6 h => ?_)
      refine clI C hw (invV (As := [.int p2, .int (-1), .int (-1)]) C hw (c_K_go g 67 tX_67 p2 (-1) (-1) q3 q5 k6 l) rfl wc_X_162 nd_K_go ⟨by decide, by decide⟩ (rc_K C hw tX_67) rfl hl.1 rfl (Nat.le_of_ble_eq_true rfl) d_X_without_44 ⟨Nat.le_refl _, Nat.le_refl _⟩) (fun H locs hw => ?_)
      refine lv_istore_n (lv' := [(3, .int q5.1), (0, .ref (g.2.1 c0)), (1, .int p1), (2, .int p2)]) hx hb d_X_without_47 rfl hl (by decide) rfl (fun ls hl => ?_)
      refine lv_aload_n hx hb d_X_without_48 rfl (lv_at hl 1 rfl) ?_
      refine fg_X_30 C hw hc0 d_X_without_49 ?_
      refine lv_aload_n hx hb d_X_without_52 rfl (lv_at hl 1 rfl) ?_
      refine fg_X_23 C hw hc0 d_X_without_53 ?_
      refine bnd h (fun q7 k8 h => ?_)
      refine clV C hw (invV (As := [.ref (g.2.1 49)]) C hw (c_K_becomes g 67 tX_67 49 tX_49 q5.2 q7 k8 l) rfl wc_X_165 nd_K_becomes ⟨by decide, by decide⟩ (rc_K C hw tX_67) rfl hl.1 rfl (Nat.le_of_ble_eq_true rfl) d_X_without_56 ⟨Nat.le_refl _, Nat.le_refl _⟩) (fun H locs hw => ?_)
      refine lv_iload_n hx hb d_X_without_59 rfl (lv_at hl 0 rfl) ?_
      refine lv_aload_n hx hb d_X_without_60 rfl (lv_at hl 1 rfl) ?_
      refine fg_X_30 C hw hc0 d_X_without_61 ?_
      refine lv_iload_n hx hb d_X_without_64 rfl (lv_at hl 3 rfl) ?_
      refine lv_iconst (v := (-1)) hx hb d_X_without_65 (by decide) ?_
      refine lv_iload_n hx hb d_X_without_66 rfl (lv_at hl 2 rfl) ?_
      refine bnd h (fun q9 k10 h => ?_)
      refine clI C hw (invV (As := [.int p2, .int (-1), .int p1]) C hw (c_K_go g 67 tX_67 p2 (-1) p1 q7 q9 k10 l) rfl wc_X_162 nd_K_go ⟨by decide, by decide⟩ (rc_K C hw tX_67) rfl hl.1 rfl (Nat.le_of_ble_eq_true rfl) d_X_without_67 ⟨Nat.le_refl _, Nat.le_refl _⟩) (fun H locs hw => ?_)
      refine lv_isub hx hb d_X_without_70 ?_
      exact retI C hw rfl (Option.some.inj h) d_X_without_71
    · replace h := ifp b2 h
      refine lv_sipush (v := (-10002)) hx hb d_X_without_22 (by decide) ?_
      exact retI C hw rfl (Option.some.inj h) d_X_without_25
  · replace h := ifp b1 h
    refine lv_sipush (v := (-10001)) hx hb d_X_without_8 (by decide) ?_
    exact retI C hw rfl (Option.some.inj h) d_X_without_11
def f_X_few_l40 : Nat → Nat → Int32 → Int32 → Int32 → Int32 → St → Option ((St) ⊕ (Int32 × St))
  | 0, _, _, _, _, _, _ => none
  | n + 1, c0, x1, x2, x3, x4, σ => (if 300 ≤ x4 then some (Sum.inl σ) else (if (vI σ 67 0) ≤ 0 then some (Sum.inl σ) else ((f_K_taking 67 x3 σ).bind fun q8 => (if (f_X_inside (vI q8.2 67 13) 1 x1) = false then (if (x3 + 1) = (vI q8.2 67 0) then (st (sI q8.2 67 9 ((vI q8.2 67 9) + 1)) fun s13 => (f_X_few_l40 n c0 x1 x2 0 (x4 + 1) s13)) else (f_X_few_l40 n c0 x1 x2 (x3 + 1) (x4 + 1) q8.2)) else (if x2 = 0 then some (Sum.inr (x4, q8.2)) else some (Sum.inr (x3, q8.2)))))))
def f_X_few (c0 : Nat) (p1 : Int32) (p2 : Int32) (σ : St) : Option (Int32 × St) := (if (f_X_inside p2 0 1) = false then some ((-1), σ) else (if (f_X_inside p1 0 99) = false then some ((-2), σ) else ((f_K_becomes 67 49 σ).bind fun q3 => ((f_X_few_l40 FU c0 p1 p2 0 0 q3).bind fun x_16 => Sum.elim (fun y18 => some ((-5), y18)) (fun z => some z) x_16))))
set_option maxHeartbeats 400000 in
set_option maxRecDepth 20000 in
theorem c_X_few (g : GX) (c0 : Nat) (hc0 : tg BX c0 0) (p1 : Int32) (p2 : Int32) (σ : St) (q : Int32 × St) (h : f_X_few c0 p1 p2 σ = some q) (l : Launch) : CT BX l y_X_few (v_X_few :: lwG) 7 [.ref (g.2.1 c0), .int p1, .int p2] g σ (QI BX g q) := by
  refine mkC (cc := b_X_few) (maxL := 5) (ret := (some .int)) rfl (by decide) rfl (Nat.le_of_ble_eq_true rfl) ?_
  intro p e s m args below meth c A ls C hl hw
  obtain ⟨hx, hb, hr, hml, hown, hts, hK, hE, hA, hlk⟩ := id C
  replace hl : lv_has ls 5 [(0, .ref (g.2.1 c0)), (1, .int p1), (2, .int p2)] := hl
  obtain ⟨H, hH⟩ : ∃ z, z = s.heap := ⟨_, rfl⟩
  rw [← hH] at hw ⊢
  obtain ⟨locs, hlo⟩ : ∃ z : List Loc, z = [] := ⟨_, rfl⟩
  rw [← hlo] at hw ⊢
  unfold f_X_few at h
  refine lv_iload_n hx hb d_X_few_0 rfl (lv_at hl 2 rfl) ?_
  refine lv_iconst (v := 0) hx hb d_X_few_1 (by decide) ?_
  refine lv_iconst (v := 1) hx hb d_X_few_2 (by decide) ?_
  refine clZ0 (v := (f_X_inside p2 0 1)) C hw (invS (As := [.int p2, .int 0, .int 1]) C hw (c_X_inside g p2 0 1 σ l) rfl wc_X_83 nd_X_inside.2 ⟨by decide, by decide⟩ rfl hl.1 rfl (Nat.le_of_ble_eq_true rfl) d_X_few_3 ⟨Nat.le_refl _, Nat.le_refl _⟩) (fun H locs hw => ?_)
  refine ifnB (tgt := 11) C d_X_few_6 (by decide) (fun b1 => ?_) (fun b1 => ?_)
  · replace h := ifn b1 h
    refine lv_iload_n hx hb d_X_few_11 rfl (lv_at hl 1 rfl) ?_
    refine lv_iconst (v := 0) hx hb d_X_few_12 (by decide) ?_
    refine lv_bipush (v := 99) hx hb d_X_few_13 (by decide) ?_
    refine clZ0 (v := (f_X_inside p1 0 99)) C hw (invS (As := [.int p1, .int 0, .int 99]) C hw (c_X_inside g p1 0 99 σ l) rfl wc_X_83 nd_X_inside.2 ⟨by decide, by decide⟩ rfl hl.1 rfl (Nat.le_of_ble_eq_true rfl) d_X_few_15 ⟨Nat.le_refl _, Nat.le_refl _⟩) (fun H locs hw => ?_)
    refine ifnB (tgt := 24) C d_X_few_18 (by decide) (fun b2 => ?_) (fun b2 => ?_)
    · replace h := ifn b2 h
      refine lv_aload_n hx hb d_X_few_24 rfl (lv_at hl 0 rfl) ?_
      refine fg_X_30 C hw hc0 d_X_few_25 ?_
      refine lv_aload_n hx hb d_X_few_28 rfl (lv_at hl 0 rfl) ?_
      refine fg_X_23 C hw hc0 d_X_few_29 ?_
      refine bnd h (fun q3 k4 h => ?_)
      refine clV C hw (invV (As := [.ref (g.2.1 49)]) C hw (c_K_becomes g 67 tX_67 49 tX_49 σ q3 k4 l) rfl wc_X_165 nd_K_becomes ⟨by decide, by decide⟩ (rc_K C hw tX_67) rfl hl.1 rfl (Nat.le_of_ble_eq_true rfl) d_X_few_32 ⟨Nat.le_refl _, Nat.le_refl _⟩) (fun H locs hw => ?_)
      refine lv_iconst (v := 0) hx hb d_X_few_35 (by decide) ?_
      refine lv_istore_n (lv' := [(3, .int 0), (0, .ref (g.2.1 c0)), (1, .int p1), (2, .int p2)]) hx hb d_X_few_36 rfl hl (by decide) rfl (fun ls hl => ?_)
      refine lv_iconst (v := 0) hx hb d_X_few_37 (by decide) ?_
      refine lv_istore (lv' := [(4, .int 0), (3, .int 0), (0, .ref (g.2.1 c0)), (1, .int p1), (2, .int p2)]) hx hb d_X_few_38 hl (by decide) rfl (fun ls hl => ?_)
      have L5 : ∀ (c0 : Nat) (hc0 : tg BX c0 0) (x1 : Int32) (x2 : Int32) (n : Nat) (x3 : Int32) (x4 : Int32) (σ : St) (H : Heap) (locs : List Loc) (ls : Array Slot), HW BX g A s σ H locs → lv_has ls 5 [(0, .ref (g.2.1 c0)), (1, .int x1), (2, .int x2), (3, .int x3), (4, .int x4)] → ∀ (ex : (St) ⊕ (Int32 × St)), f_X_few_l40 n c0 x1 x2 x3 x4 σ = some ex → (∀ (y : St), ex = Sum.inl y → ∀ (H : Heap) (locs : List Loc) (ls : Array Slot), HW BX g A s y H locs → lv_has ls 5 [] → W p l e (rmL 7) s m args below meth c H locs 0 0 (MQ below (QI BX g q A) args s 0 0 A) (F0 m 128 ls [])) → (∀ (z : Int32 × St), ex = Sum.inr z → z = q) → W p l e (rmL 7) s m args below meth c H locs 0 0 (MQ below (QI BX g q A) args s 0 0 A) (F0 m 40 ls []) := by
        intro c0 hc0 x1 x2 n
        induction n with
        | zero =>
          intro x3 x4 σ H locs ls hw hl ex h kx5 kr5
          cases h
        | succ n ih =>
          intro x3 x4 σ H locs ls hw hl ex h kx5 kr5
          rw [f_X_few_l40] at h
          refine lv_iload hx hb d_X_few_40 (lv_at hl 4 rfl) ?_
          refine lv_sipush (v := 300) hx hb d_X_few_42 (by decide) ?_
          refine lv_icmp_ge (tgt := 128) hx hb d_X_few_45 (by decide) (fun b6 => ?_) (fun b6 => ?_)
          · replace h := ifp b6 h
            exact kx5 _ (Option.some.inj h).symm H locs ls hw (lv_sub hl [] rfl)
          · replace h := ifn b6 h
            refine lv_aload_n hx hb d_X_few_48 rfl (lv_at hl 0 rfl) ?_
            refine fg_X_30 C hw hc0 d_X_few_49 ?_
            refine fg_X_87 C hw tX_67 d_X_few_52 ?_
            refine lv_if_le (tgt := 128) hx hb d_X_few_55 (by decide) (fun b7 => ?_) (fun b7 => ?_)
            · replace h := ifp b7 h
              exact kx5 _ (Option.some.inj h).symm H locs ls hw (lv_sub hl [] rfl)
            · replace h := ifn b7 h
              refine lv_aload_n hx hb d_X_few_58 rfl (lv_at hl 0 rfl) ?_
              refine fg_X_30 C hw hc0 d_X_few_59 ?_
              refine lv_iload_n hx hb d_X_few_62 rfl (lv_at hl 3 rfl) ?_
              refine bnd h (fun q8 k9 h => ?_)
              refine clI C hw (invV (As := [.int x3]) C hw (c_K_taking g 67 tX_67 x3 σ q8 k9 l) rfl wc_X_159 nd_K_taking ⟨by decide, by decide⟩ (rc_K C hw tX_67) rfl hl.1 rfl (Nat.le_of_ble_eq_true rfl) d_X_few_63 ⟨Nat.le_refl _, Nat.le_refl _⟩) (fun H locs hw => ?_)
              refine lv_pop hx hb d_X_few_66 rfl ?_
              refine lv_aload_n hx hb d_X_few_67 rfl (lv_at hl 0 rfl) ?_
              refine fg_X_30 C hw hc0 d_X_few_68 ?_
              refine fg_X_195 C hw tX_67 d_X_few_71 ?_
              refine lv_iconst (v := 1) hx hb d_X_few_74 (by decide) ?_
              refine lv_iload_n hx hb d_X_few_75 rfl (lv_at hl 1 rfl) ?_
              refine clZ0 (v := (f_X_inside (vI q8.2 67 13) 1 x1)) C hw (invS (As := [.int (vI q8.2 67 13), .int 1, .int x1]) C hw (c_X_inside g (vI q8.2 67 13) 1 x1 q8.2 l) rfl wc_X_83 nd_X_inside.2 ⟨by decide, by decide⟩ rfl hl.1 rfl (Nat.le_of_ble_eq_true rfl) d_X_few_76 ⟨Nat.le_refl _, Nat.le_refl _⟩) (fun H locs hw => ?_)
              refine ifB (tgt := 93) C d_X_few_79 (by decide) (fun b10 => ?_) (fun b10 => ?_)
              · replace h := ifp b10 h
                refine lv_iinc (v := (x3 + 1)) (lv' := [(3, .int (x3 + 1)), (0, .ref (g.2.1 c0)), (1, .int x1), (2, .int x2), (4, .int x4)]) hx hb d_X_few_93 hl (k := 3) rfl rfl (by decide) rfl (fun ls hl => ?_)
                refine lv_iload_n hx hb d_X_few_96 rfl (lv_at hl 0 rfl) ?_
                refine lv_aload_n hx hb d_X_few_97 rfl (lv_at hl 1 rfl) ?_
                refine fg_X_30 C hw hc0 d_X_few_98 ?_
                refine fg_X_87 C hw tX_67 d_X_few_101 ?_
                refine lv_icmp_ne (tgt := 122) hx hb d_X_few_104 (by decide) (fun b11 => ?_) (fun b11 => ?_)
                · replace h := ifn b11 h
                  refine lv_iinc (v := (x4 + 1)) (lv' := [(4, .int (x4 + 1)), (3, .int (x3 + 1)), (0, .ref (g.2.1 c0)), (1, .int x1), (2, .int x2)]) hx hb d_X_few_122 hl (k := 4) rfl rfl (by decide) rfl (fun ls hl => ?_)
                  refine lv_goto (tgt := 40) hx hb d_X_few_125 (by decide) ?_
                  exact ih (x3 + 1) (x4 + 1) q8.2 H locs ls hw (lv_sub hl [2, 3, 4, 1, 0] rfl) ex h kx5 kr5
                · replace h := ifp b11 h
                  refine lv_iconst (v := 0) hx hb d_X_few_107 (by decide) ?_
                  refine lv_istore_n (lv' := [(3, .int 0), (0, .ref (g.2.1 c0)), (1, .int x1), (2, .int x2), (4, .int x4)]) hx hb d_X_few_108 rfl hl (by decide) rfl (fun ls hl => ?_)
                  refine lv_aload_n hx hb d_X_few_109 rfl (lv_at hl 1 rfl) ?_
                  refine fg_X_30 C hw hc0 d_X_few_110 ?_
                  refine lv_dup hx hb d_X_few_113 rfl ?_
                  refine fg_X_146 C hw tX_67 d_X_few_114 ?_
                  refine lv_iconst (v := 1) hx hb d_X_few_117 (by decide) ?_
                  refine lv_iadd hx hb d_X_few_118 ?_
                  refine ste h (fun s13 e14 h => ?_)
                  refine fp_X_146 C hw tX_67 d_X_few_119 (fun H locs hw => ?_)
                  replace hw := HWe hw e14
                  refine lv_iinc (v := (x4 + 1)) (lv' := [(4, .int (x4 + 1)), (3, .int 0), (0, .ref (g.2.1 c0)), (1, .int x1), (2, .int x2)]) hx hb d_X_few_122 hl (k := 4) rfl rfl (by decide) rfl (fun ls hl => ?_)
                  refine lv_goto (tgt := 40) hx hb d_X_few_125 (by decide) ?_
                  exact ih 0 (x4 + 1) s13 H locs ls hw (lv_sub hl [2, 3, 4, 1, 0] rfl) ex h kx5 kr5
              · replace h := ifn b10 h
                refine lv_iload_n hx hb d_X_few_82 rfl (lv_at hl 2 rfl) ?_
                refine lv_if_ne (tgt := 91) hx hb d_X_few_83 (by decide) (fun b15 => ?_) (fun b15 => ?_)
                · replace h := ifn b15 h
                  refine lv_iload_n hx hb d_X_few_91 rfl (lv_at hl 3 rfl) ?_
                  exact retI C hw rfl (kr5 _ (Option.some.inj h).symm) d_X_few_92
                · replace h := ifp b15 h
                  refine lv_iload hx hb d_X_few_86 (lv_at hl 4 rfl) ?_
                  refine lv_goto (tgt := 92) hx hb d_X_few_88 (by decide) ?_
                  exact retI C hw rfl (kr5 _ (Option.some.inj h).symm) d_X_few_92
      refine bnd h (fun x_16 k17 h => ?_)
      refine L5 c0 hc0 p1 p2 FU 0 0 q3 H locs ls hw (lv_sub hl [2, 3, 4, 1, 0] rfl) x_16 k17 (fun y18 e19 H locs ls hw hl => ?_) (fun z e19 => ?_)
      · rw [e19] at h
        replace h := sel h
        refine lv_bipush (v := (-5)) hx hb d_X_few_128 (by decide) ?_
        exact retI C hw rfl (Option.some.inj h) d_X_few_130
      · rw [e19] at h
        replace h := ser h
        exact Option.some.inj h
    · replace h := ifp b2 h
      refine lv_bipush (v := (-2)) hx hb d_X_few_21 (by decide) ?_
      exact retI C hw rfl (Option.some.inj h) d_X_few_23
  · replace h := ifp b1 h
    refine lv_iconst (v := (-1)) hx hb d_X_few_9 (by decide) ?_
    exact retI C hw rfl (Option.some.inj h) d_X_few_10
