/-! ===== read off the bytecode by a program: each method as a function, and its walk ===== -/
def f_M_in (c0 : Nat) (p1 : Int32) (p2 : Int32) (p3 : Int32) : Bool := (if p1 < p2 then false else (if p3 < p1 then false else true))
set_option maxHeartbeats 400000 in
set_option maxRecDepth 20000 in
theorem c_M_in (g : GX) (c0 : Nat) (hc0 : tg BM c0 20) (p1 : Int32) (p2 : Int32) (p3 : Int32) (σ : St) (l : Launch) : CT BM l y_M_in (v_M_in :: lwG) 1 [.ref (g.2.1 c0), .int p1, .int p2, .int p3] g σ (QZ BM g (f_M_in c0 p1 p2 p3, σ)) := by
  generalize h : f_M_in c0 p1 p2 p3 = q
  refine mkC (cc := b_M_in) (maxL := 4) (ret := (some .boolean)) rfl (by decide) rfl (Nat.le_of_ble_eq_true rfl) ?_
  intro p e s m args below meth c A ls C hl hw
  obtain ⟨hx, hb, hr, hml, hown, hts, hK, hE, hA, hlk⟩ := id C
  replace hl : lv_has ls 4 [(0, .ref (g.2.1 c0)), (1, .int p1), (2, .int p2), (3, .int p3)] := hl
  obtain ⟨H, hH⟩ : ∃ z, z = s.heap := ⟨_, rfl⟩
  rw [← hH] at hw ⊢
  obtain ⟨locs, hlo⟩ : ∃ z : List Loc, z = [] := ⟨_, rfl⟩
  rw [← hlo] at hw ⊢
  unfold f_M_in at h
  refine lv_iload_n hx hb d_M_in_0 rfl (lv_at hl 1 rfl) ?_
  refine lv_iload_n hx hb d_M_in_1 rfl (lv_at hl 2 rfl) ?_
  refine lv_icmp_lt (tgt := 14) hx hb d_M_in_2 (by decide) (fun b1 => ?_) (fun b1 => ?_)
  · replace h := ifp b1 h
    refine lv_iconst (v := 0) hx hb d_M_in_14 (by decide) ?_
    exact retZ (b := false) C hw rfl rfl (congrArg (fun z => (z, σ)) h) d_M_in_15
  · replace h := ifn b1 h
    refine lv_iload_n hx hb d_M_in_5 rfl (lv_at hl 1 rfl) ?_
    refine lv_iload_n hx hb d_M_in_6 rfl (lv_at hl 3 rfl) ?_
    refine lv_icmp_gt (tgt := 14) hx hb d_M_in_7 (by decide) (fun b2 => ?_) (fun b2 => ?_)
    · replace h := ifp b2 h
      refine lv_iconst (v := 0) hx hb d_M_in_14 (by decide) ?_
      exact retZ (b := false) C hw rfl rfl (congrArg (fun z => (z, σ)) h) d_M_in_15
    · replace h := ifn b2 h
      refine lv_iconst (v := 1) hx hb d_M_in_10 (by decide) ?_
      refine lv_goto (tgt := 15) hx hb d_M_in_11 (by decide) ?_
      exact retZ (b := true) C hw rfl rfl (congrArg (fun z => (z, σ)) h) d_M_in_15
def f_M_has (c0 : Nat) (p1 : Int32) (p2 : Int32) : Bool := (if ((p1 >>> (p2 &&& (31 : Int32))) &&& 1) = 1 then true else false)
set_option maxHeartbeats 400000 in
set_option maxRecDepth 20000 in
theorem c_M_has (g : GX) (c0 : Nat) (hc0 : tg BM c0 20) (p1 : Int32) (p2 : Int32) (σ : St) (l : Launch) : CT BM l y_M_has (v_M_has :: lwG) 1 [.ref (g.2.1 c0), .int p1, .int p2] g σ (QZ BM g (f_M_has c0 p1 p2, σ)) := by
  generalize h : f_M_has c0 p1 p2 = q
  refine mkC (cc := b_M_has) (maxL := 3) (ret := (some .boolean)) rfl (by decide) rfl (Nat.le_of_ble_eq_true rfl) ?_
  intro p e s m args below meth c A ls C hl hw
  obtain ⟨hx, hb, hr, hml, hown, hts, hK, hE, hA, hlk⟩ := id C
  replace hl : lv_has ls 3 [(0, .ref (g.2.1 c0)), (1, .int p1), (2, .int p2)] := hl
  obtain ⟨H, hH⟩ : ∃ z, z = s.heap := ⟨_, rfl⟩
  rw [← hH] at hw ⊢
  obtain ⟨locs, hlo⟩ : ∃ z : List Loc, z = [] := ⟨_, rfl⟩
  rw [← hlo] at hw ⊢
  unfold f_M_has at h
  refine lv_iload_n hx hb d_M_has_0 rfl (lv_at hl 1 rfl) ?_
  refine lv_iload_n hx hb d_M_has_1 rfl (lv_at hl 2 rfl) ?_
  refine lv_ishr hx hb d_M_has_2 ?_
  refine lv_iconst (v := 1) hx hb d_M_has_3 (by decide) ?_
  refine lv_iand hx hb d_M_has_4 ?_
  refine lv_iconst (v := 1) hx hb d_M_has_5 (by decide) ?_
  refine lv_icmp_ne (tgt := 13) hx hb d_M_has_6 (by decide) (fun b1 => ?_) (fun b1 => ?_)
  · replace h := ifn b1 h
    refine lv_iconst (v := 0) hx hb d_M_has_13 (by decide) ?_
    exact retZ (b := false) C hw rfl rfl (congrArg (fun z => (z, σ)) h) d_M_has_14
  · replace h := ifp b1 h
    refine lv_iconst (v := 1) hx hb d_M_has_9 (by decide) ?_
    refine lv_goto (tgt := 14) hx hb d_M_has_10 (by decide) ?_
    exact retZ (b := true) C hw rfl rfl (congrArg (fun z => (z, σ)) h) d_M_has_14
def f_M_isTaker (c0 : Nat) (p1 : Int32) (σ : St) : Bool := (f_M_in c0 p1 0 ((vI σ c0 0) - 1))
set_option maxHeartbeats 400000 in
set_option maxRecDepth 20000 in
theorem c_M_isTaker (g : GX) (c0 : Nat) (hc0 : tg BM c0 20) (p1 : Int32) (σ : St) (l : Launch) : CT BM l y_M_isTaker (v_M_isTaker :: lwG) 2 [.ref (g.2.1 c0), .int p1] g σ (QZ BM g (f_M_isTaker c0 p1 σ, σ)) := by
  generalize h : f_M_isTaker c0 p1 σ = q
  refine mkC (cc := b_M_isTaker) (maxL := 2) (ret := (some .boolean)) rfl (by decide) rfl (Nat.le_of_ble_eq_true rfl) ?_
  intro p e s m args below meth c A ls C hl hw
  obtain ⟨hx, hb, hr, hml, hown, hts, hK, hE, hA, hlk⟩ := id C
  replace hl : lv_has ls 2 [(0, .ref (g.2.1 c0)), (1, .int p1)] := hl
  obtain ⟨H, hH⟩ : ∃ z, z = s.heap := ⟨_, rfl⟩
  rw [← hH] at hw ⊢
  obtain ⟨locs, hlo⟩ : ∃ z : List Loc, z = [] := ⟨_, rfl⟩
  rw [← hlo] at hw ⊢
  unfold f_M_isTaker at h
  refine lv_aload_n hx hb d_M_isTaker_0 rfl (lv_at hl 0 rfl) ?_
  refine lv_iload_n hx hb d_M_isTaker_1 rfl (lv_at hl 1 rfl) ?_
  refine lv_iconst (v := 0) hx hb d_M_isTaker_2 (by decide) ?_
  refine lv_aload_n hx hb d_M_isTaker_3 rfl (lv_at hl 0 rfl) ?_
  refine fg_M_7 C hw hc0 d_M_isTaker_4 ?_
  refine lv_iconst (v := 1) hx hb d_M_isTaker_7 (by decide) ?_
  refine lv_isub hx hb d_M_isTaker_8 ?_
  refine clZ0 (v := (f_M_in c0 p1 0 ((vI σ c0 0) - 1))) C hw (invV (As := [.int p1, .int 0, .int ((vI σ c0 0) - 1)]) C hw (c_M_in g c0 hc0 p1 0 ((vI σ c0 0) - 1) σ l) rfl wc_M_218 nd_M_in ⟨by decide, by decide⟩ (rc_M C hw hc0) rfl hl.1 rfl (Nat.le_of_ble_eq_true rfl) d_M_isTaker_9 ⟨Nat.le_refl _, Nat.le_refl _⟩) (fun H locs hw => ?_)
  exact retZ (b := (f_M_in c0 p1 0 ((vI σ c0 0) - 1))) C hw rfl rfl (congrArg (fun z => (z, σ)) h) d_M_isTaker_12
def f_M_taker_l113 : Nat → Nat → Int32 → St → Option (St)
  | 0, _, _, _ => none
  | n + 1, c0, x4, σ => (if 4 ≤ x4 then some σ else (if ok ((4 * (vI σ c0 0)) + x4) 24 = true then (st (sJ σ 7 (upd (vJ σ 7) (nx ((4 * (vI σ c0 0)) + x4)) 0)) fun s20 => (f_M_taker_l113 n c0 (x4 + 1) s20)) else none))
def f_M_taker (c0 : Nat) (p1 : Int32) (p2 : Int32) (p3 : Int32) (σ : St) : Option (Int32 × St) := (if (f_M_in c0 p1 0 6) = false then some ((-1), σ) else (if (f_M_in c0 p2 0 9) = false then some ((-2), σ) else (if (f_M_in c0 p3 1 60) = false then some ((-2), σ) else (if (vI σ c0 0) = 6 then some ((-4), σ) else (if ok (vI σ c0 0) 6 = true then (st (sJ σ 1 (upd (vJ σ 1) (nx (vI σ c0 0)) p1)) fun s6 => (if ok (vI s6 c0 0) 6 = true then (st (sJ s6 2 (upd (vJ s6 2) (nx (vI s6 c0 0)) p2)) fun s8 => (if ok (vI s8 c0 0) 6 = true then (st (sJ s8 3 (upd (vJ s8 3) (nx (vI s8 c0 0)) p3)) fun s10 => (if ok (vI s10 c0 0) 6 = true then (st (sJ s10 4 (upd (vJ s10 4) (nx (vI s10 c0 0)) 0)) fun s12 => (if ok (vI s12 c0 0) 6 = true then (st (sJ s12 5 (upd (vJ s12 5) (nx (vI s12 c0 0)) 0)) fun s14 => (if ok (vI s14 c0 0) 6 = true then (st (sJ s14 6 (upd (vJ s14 6) (nx (vI s14 c0 0)) 0)) fun s16 => ((f_M_taker_l113 FU c0 0 s16).bind fun x_22 => (st (sI x_22 c0 0 ((vI x_22 c0 0) + 1)) fun s26 => some (((vI s26 c0 0) - 1), s26)))) else none)) else none)) else none)) else none)) else none)) else none)))))
set_option maxHeartbeats 400000 in
set_option maxRecDepth 20000 in
theorem c_M_taker (g : GX) (c0 : Nat) (hc0 : tg BM c0 20) (p1 : Int32) (p2 : Int32) (p3 : Int32) (σ : St) (q : Int32 × St) (h : f_M_taker c0 p1 p2 p3 σ = some q) (l : Launch) : CT BM l y_M_taker (v_M_taker :: lwG) 2 [.ref (g.2.1 c0), .int p1, .int p2, .int p3] g σ (QI BM g q) := by
  refine mkC (cc := b_M_taker) (maxL := 5) (ret := (some .int)) rfl (by decide) rfl (Nat.le_of_ble_eq_true rfl) ?_
  intro p e s m args below meth c A ls C hl hw
  obtain ⟨hx, hb, hr, hml, hown, hts, hK, hE, hA, hlk⟩ := id C
  replace hl : lv_has ls 5 [(0, .ref (g.2.1 c0)), (1, .int p1), (2, .int p2), (3, .int p3)] := hl
  obtain ⟨H, hH⟩ : ∃ z, z = s.heap := ⟨_, rfl⟩
  rw [← hH] at hw ⊢
  obtain ⟨locs, hlo⟩ : ∃ z : List Loc, z = [] := ⟨_, rfl⟩
  rw [← hlo] at hw ⊢
  unfold f_M_taker at h
  refine lv_aload_n hx hb d_M_taker_0 rfl (lv_at hl 0 rfl) ?_
  refine lv_iload_n hx hb d_M_taker_1 rfl (lv_at hl 1 rfl) ?_
  refine lv_iconst (v := 0) hx hb d_M_taker_2 (by decide) ?_
  refine lv_bipush (v := 6) hx hb d_M_taker_3 (by decide) ?_
  refine clZ0 (v := (f_M_in c0 p1 0 6)) C hw (invV (As := [.int p1, .int 0, .int 6]) C hw (c_M_in g c0 hc0 p1 0 6 σ l) rfl wc_M_218 nd_M_in ⟨by decide, by decide⟩ (rc_M C hw hc0) rfl hl.1 rfl (Nat.le_of_ble_eq_true rfl) d_M_taker_5 ⟨Nat.le_refl _, Nat.le_refl _⟩) (fun H locs hw => ?_)
  refine ifnB (tgt := 13) C d_M_taker_8 (by decide) (fun b1 => ?_) (fun b1 => ?_)
  · replace h := ifn b1 h
    refine lv_aload_n hx hb d_M_taker_13 rfl (lv_at hl 0 rfl) ?_
    refine lv_iload_n hx hb d_M_taker_14 rfl (lv_at hl 2 rfl) ?_
    refine lv_iconst (v := 0) hx hb d_M_taker_15 (by decide) ?_
    refine lv_bipush (v := 9) hx hb d_M_taker_16 (by decide) ?_
    refine clZ0 (v := (f_M_in c0 p2 0 9)) C hw (invV (As := [.int p2, .int 0, .int 9]) C hw (c_M_in g c0 hc0 p2 0 9 σ l) rfl wc_M_218 nd_M_in ⟨by decide, by decide⟩ (rc_M C hw hc0) rfl hl.1 rfl (Nat.le_of_ble_eq_true rfl) d_M_taker_18 ⟨Nat.le_refl _, Nat.le_refl _⟩) (fun H locs hw => ?_)
    refine ifB (tgt := 35) C d_M_taker_21 (by decide) (fun b2 => ?_) (fun b2 => ?_)
    · replace h := ifp b2 h
      refine lv_bipush (v := (-2)) hx hb d_M_taker_35 (by decide) ?_
      exact retI C hw rfl (Option.some.inj h) d_M_taker_37
    · replace h := ifn b2 h
      refine lv_aload_n hx hb d_M_taker_24 rfl (lv_at hl 0 rfl) ?_
      refine lv_iload_n hx hb d_M_taker_25 rfl (lv_at hl 3 rfl) ?_
      refine lv_iconst (v := 1) hx hb d_M_taker_26 (by decide) ?_
      refine lv_bipush (v := 60) hx hb d_M_taker_27 (by decide) ?_
      refine clZ0 (v := (f_M_in c0 p3 1 60)) C hw (invV (As := [.int p3, .int 1, .int 60]) C hw (c_M_in g c0 hc0 p3 1 60 σ l) rfl wc_M_218 nd_M_in ⟨by decide, by decide⟩ (rc_M C hw hc0) rfl hl.1 rfl (Nat.le_of_ble_eq_true rfl) d_M_taker_29 ⟨Nat.le_refl _, Nat.le_refl _⟩) (fun H locs hw => ?_)
      refine ifnB (tgt := 38) C d_M_taker_32 (by decide) (fun b3 => ?_) (fun b3 => ?_)
      · replace h := ifn b3 h
        refine lv_aload_n hx hb d_M_taker_38 rfl (lv_at hl 0 rfl) ?_
        refine fg_M_7 C hw hc0 d_M_taker_39 ?_
        refine lv_bipush (v := 6) hx hb d_M_taker_42 (by decide) ?_
        refine lv_icmp_ne (tgt := 50) hx hb d_M_taker_44 (by decide) (fun b4 => ?_) (fun b4 => ?_)
        · replace h := ifn b4 h
          refine lv_aload_n hx hb d_M_taker_50 rfl (lv_at hl 0 rfl) ?_
          refine fg_M_19 C hw hc0 d_M_taker_51 ?_
          refine lv_aload_n hx hb d_M_taker_54 rfl (lv_at hl 0 rfl) ?_
          refine fg_M_7 C hw hc0 d_M_taker_55 ?_
          refine lv_iload_n hx hb d_M_taker_58 rfl (lv_at hl 1 rfl) ?_
          refine gde h (fun g5 h => ?_)
          refine ste h (fun s6 e35 h => ?_)
          refine stI (n := 6) C hw tM_1 (by decide) g5 d_M_taker_59 (fun H locs hw => ?_)
          replace hw := HWe hw e35
          refine lv_aload_n hx hb d_M_taker_60 rfl (lv_at hl 0 rfl) ?_
          refine fg_M_23 C hw hc0 d_M_taker_61 ?_
          refine lv_aload_n hx hb d_M_taker_64 rfl (lv_at hl 0 rfl) ?_
          refine fg_M_7 C hw hc0 d_M_taker_65 ?_
          refine lv_iload_n hx hb d_M_taker_68 rfl (lv_at hl 2 rfl) ?_
          refine gde h (fun g7 h => ?_)
          refine ste h (fun s8 e34 h => ?_)
          refine stI (n := 6) C hw tM_2 (by decide) g7 d_M_taker_69 (fun H locs hw => ?_)
          replace hw := HWe hw e34
          refine lv_aload_n hx hb d_M_taker_70 rfl (lv_at hl 0 rfl) ?_
          refine fg_M_26 C hw hc0 d_M_taker_71 ?_
          refine lv_aload_n hx hb d_M_taker_74 rfl (lv_at hl 0 rfl) ?_
          refine fg_M_7 C hw hc0 d_M_taker_75 ?_
          refine lv_iload_n hx hb d_M_taker_78 rfl (lv_at hl 3 rfl) ?_
          refine gde h (fun g9 h => ?_)
          refine ste h (fun s10 e33 h => ?_)
          refine stI (n := 6) C hw tM_3 (by decide) g9 d_M_taker_79 (fun H locs hw => ?_)
          replace hw := HWe hw e33
          refine lv_aload_n hx hb d_M_taker_80 rfl (lv_at hl 0 rfl) ?_
          refine fg_M_29 C hw hc0 d_M_taker_81 ?_
          refine lv_aload_n hx hb d_M_taker_84 rfl (lv_at hl 0 rfl) ?_
          refine fg_M_7 C hw hc0 d_M_taker_85 ?_
          refine lv_iconst (v := 0) hx hb d_M_taker_88 (by decide) ?_
          refine gde h (fun g11 h => ?_)
          refine ste h (fun s12 e32 h => ?_)
          refine stI (n := 6) C hw tM_4 (by decide) g11 d_M_taker_89 (fun H locs hw => ?_)
          replace hw := HWe hw e32
          refine lv_aload_n hx hb d_M_taker_90 rfl (lv_at hl 0 rfl) ?_
          refine fg_M_32 C hw hc0 d_M_taker_91 ?_
          refine lv_aload_n hx hb d_M_taker_94 rfl (lv_at hl 0 rfl) ?_
          refine fg_M_7 C hw hc0 d_M_taker_95 ?_
          refine lv_iconst (v := 0) hx hb d_M_taker_98 (by decide) ?_
          refine gde h (fun g13 h => ?_)
          refine ste h (fun s14 e31 h => ?_)
          refine stI (n := 6) C hw tM_5 (by decide) g13 d_M_taker_99 (fun H locs hw => ?_)
          replace hw := HWe hw e31
          refine lv_aload_n hx hb d_M_taker_100 rfl (lv_at hl 0 rfl) ?_
          refine fg_M_35 C hw hc0 d_M_taker_101 ?_
          refine lv_aload_n hx hb d_M_taker_104 rfl (lv_at hl 0 rfl) ?_
          refine fg_M_7 C hw hc0 d_M_taker_105 ?_
          refine lv_iconst (v := 0) hx hb d_M_taker_108 (by decide) ?_
          refine gde h (fun g15 h => ?_)
          refine ste h (fun s16 e30 h => ?_)
          refine stI (n := 6) C hw tM_6 (by decide) g15 d_M_taker_109 (fun H locs hw => ?_)
          replace hw := HWe hw e30
          refine lv_iconst (v := 0) hx hb d_M_taker_110 (by decide) ?_
          refine lv_istore (lv' := [(4, .int 0), (0, .ref (g.2.1 c0)), (1, .int p1), (2, .int p2), (3, .int p3)]) hx hb d_M_taker_111 hl (by decide) rfl (fun ls hl => ?_)
          have L17 : ∀ (c0 : Nat) (hc0 : tg BM c0 20) (n : Nat) (x4 : Int32) (σ : St) (H : Heap) (locs : List Loc) (ls : Array Slot), HW BM g A s σ H locs → lv_has ls 5 [(0, .ref (g.2.1 c0)), (4, .int x4)] → ∀ (ex : St), f_M_taker_l113 n c0 x4 σ = some ex → (∀ (y : St), ex = y → ∀ (H : Heap) (locs : List Loc) (ls : Array Slot), HW BM g A s y H locs → lv_has ls 5 [(0, .ref (g.2.1 c0))] → W p l e (rmL 2) s m args below meth c H locs 0 0 (MQ below (QI BM g q A) args s 0 0 A) (F0 m 140 ls [])) → (True) → W p l e (rmL 2) s m args below meth c H locs 0 0 (MQ below (QI BM g q A) args s 0 0 A) (F0 m 113 ls []) := by
            intro c0 hc0 n
            induction n with
            | zero =>
              intro x4 σ H locs ls hw hl ex h kx17 kr17
              cases h
            | succ n ih =>
              intro x4 σ H locs ls hw hl ex h kx17 kr17
              rw [f_M_taker_l113] at h
              refine lv_iload hx hb d_M_taker_113 (lv_at hl 1 rfl) ?_
              refine lv_iconst (v := 4) hx hb d_M_taker_115 (by decide) ?_
              refine lv_icmp_ge (tgt := 140) hx hb d_M_taker_116 (by decide) (fun b18 => ?_) (fun b18 => ?_)
              · replace h := ifp b18 h
                exact kx17 _ (Option.some.inj h).symm H locs ls hw (lv_sub hl [0] rfl)
              · replace h := ifn b18 h
                refine lv_aload_n hx hb d_M_taker_119 rfl (lv_at hl 0 rfl) ?_
                refine fg_M_38 C hw hc0 d_M_taker_120 ?_
                refine lv_iconst (v := 4) hx hb d_M_taker_123 (by decide) ?_
                refine lv_aload_n hx hb d_M_taker_124 rfl (lv_at hl 0 rfl) ?_
                refine fg_M_7 C hw hc0 d_M_taker_125 ?_
                refine lv_imul hx hb d_M_taker_128 ?_
                refine lv_iload hx hb d_M_taker_129 (lv_at hl 1 rfl) ?_
                refine lv_iadd hx hb d_M_taker_131 ?_
                refine lv_iconst (v := 0) hx hb d_M_taker_132 (by decide) ?_
                refine gde h (fun g19 h => ?_)
                refine ste h (fun s20 e21 h => ?_)
                refine stI (n := 24) C hw tM_7 (by decide) g19 d_M_taker_133 (fun H locs hw => ?_)
                replace hw := HWe hw e21
                refine lv_iinc (v := (x4 + 1)) (lv' := [(4, .int (x4 + 1)), (0, .ref (g.2.1 c0))]) hx hb d_M_taker_134 hl (k := 1) rfl rfl (by decide) rfl (fun ls hl => ?_)
                refine lv_goto (tgt := 113) hx hb d_M_taker_137 (by decide) ?_
                exact ih (x4 + 1) s20 H locs ls hw (lv_sub hl [1, 0] rfl) ex h kx17 kr17
          refine bnd h (fun x_22 k23 h => ?_)
          refine L17 c0 hc0 FU 0 s16 H locs ls hw (lv_sub hl [1, 0] rfl) x_22 k23 (fun y28 e29 H locs ls hw hl => ?_) trivial
          subst e29
          refine lv_aload_n hx hb d_M_taker_140 rfl (lv_at hl 0 rfl) ?_
          refine lv_dup hx hb d_M_taker_141 rfl ?_
          refine fg_M_7 C hw hc0 d_M_taker_142 ?_
          refine lv_iconst (v := 1) hx hb d_M_taker_145 (by decide) ?_
          refine lv_iadd hx hb d_M_taker_146 ?_
          refine ste h (fun s26 e27 h => ?_)
          refine fp_M_7 C hw hc0 d_M_taker_147 (fun H locs hw => ?_)
          replace hw := HWe hw e27
          refine lv_aload_n hx hb d_M_taker_150 rfl (lv_at hl 0 rfl) ?_
          refine fg_M_7 C hw hc0 d_M_taker_151 ?_
          refine lv_iconst (v := 1) hx hb d_M_taker_154 (by decide) ?_
          refine lv_isub hx hb d_M_taker_155 ?_
          exact retI C hw rfl (Option.some.inj h) d_M_taker_156
        · replace h := ifp b4 h
          refine lv_bipush (v := (-4)) hx hb d_M_taker_47 (by decide) ?_
          exact retI C hw rfl (Option.some.inj h) d_M_taker_49
      · replace h := ifp b3 h
        refine lv_bipush (v := (-2)) hx hb d_M_taker_35 (by decide) ?_
        exact retI C hw rfl (Option.some.inj h) d_M_taker_37
  · replace h := ifp b1 h
    refine lv_iconst (v := (-1)) hx hb d_M_taker_11 (by decide) ?_
    exact retI C hw rfl (Option.some.inj h) d_M_taker_12
def f_M_portion (c0 : Nat) (p1 : Int32) (p2 : Int32) (σ : St) : Option (Int32 × St) := (if (f_M_isTaker c0 p1 σ) = false then some ((-1), σ) else (if (f_M_in c0 p2 1 60) = false then some ((-2), σ) else (if ok p1 6 = true then (if ok p1 6 = true then (st (sJ σ 3 (upd (vJ σ 3) (nx p1) p2)) fun s5 => some ((vJ σ 3 (nx p1)), s5)) else none) else none)))
set_option maxHeartbeats 400000 in
set_option maxRecDepth 20000 in
theorem c_M_portion (g : GX) (c0 : Nat) (hc0 : tg BM c0 20) (p1 : Int32) (p2 : Int32) (σ : St) (q : Int32 × St) (h : f_M_portion c0 p1 p2 σ = some q) (l : Launch) : CT BM l y_M_portion (v_M_portion :: lwG) 3 [.ref (g.2.1 c0), .int p1, .int p2] g σ (QI BM g q) := by
  refine mkC (cc := b_M_portion) (maxL := 4) (ret := (some .int)) rfl (by decide) rfl (Nat.le_of_ble_eq_true rfl) ?_
  intro p e s m args below meth c A ls C hl hw
  obtain ⟨hx, hb, hr, hml, hown, hts, hK, hE, hA, hlk⟩ := id C
  replace hl : lv_has ls 4 [(0, .ref (g.2.1 c0)), (1, .int p1), (2, .int p2)] := hl
  obtain ⟨H, hH⟩ : ∃ z, z = s.heap := ⟨_, rfl⟩
  rw [← hH] at hw ⊢
  obtain ⟨locs, hlo⟩ : ∃ z : List Loc, z = [] := ⟨_, rfl⟩
  rw [← hlo] at hw ⊢
  unfold f_M_portion at h
  refine lv_aload_n hx hb d_M_portion_0 rfl (lv_at hl 0 rfl) ?_
  refine lv_iload_n hx hb d_M_portion_1 rfl (lv_at hl 1 rfl) ?_
  refine clZ0 (v := (f_M_isTaker c0 p1 σ)) C hw (invV (As := [.int p1]) C hw (c_M_isTaker g c0 hc0 p1 σ l) rfl wc_M_222 nd_M_isTaker ⟨by decide, by decide⟩ (rc_M C hw hc0) rfl hl.1 rfl (Nat.le_of_ble_eq_true rfl) d_M_portion_2 ⟨Nat.le_refl _, Nat.le_refl _⟩) (fun H locs hw => ?_)
  refine ifnB (tgt := 10) C d_M_portion_5 (by decide) (fun b1 => ?_) (fun b1 => ?_)
  · replace h := ifn b1 h
    refine lv_aload_n hx hb d_M_portion_10 rfl (lv_at hl 0 rfl) ?_
    refine lv_iload_n hx hb d_M_portion_11 rfl (lv_at hl 2 rfl) ?_
    refine lv_iconst (v := 1) hx hb d_M_portion_12 (by decide) ?_
    refine lv_bipush (v := 60) hx hb d_M_portion_13 (by decide) ?_
    refine clZ0 (v := (f_M_in c0 p2 1 60)) C hw (invV (As := [.int p2, .int 1, .int 60]) C hw (c_M_in g c0 hc0 p2 1 60 σ l) rfl wc_M_218 nd_M_in ⟨by decide, by decide⟩ (rc_M C hw hc0) rfl hl.1 rfl (Nat.le_of_ble_eq_true rfl) d_M_portion_15 ⟨Nat.le_refl _, Nat.le_refl _⟩) (fun H locs hw => ?_)
    refine ifnB (tgt := 24) C d_M_portion_18 (by decide) (fun b2 => ?_) (fun b2 => ?_)
    · replace h := ifn b2 h
      refine lv_aload_n hx hb d_M_portion_24 rfl (lv_at hl 0 rfl) ?_
      refine fg_M_26 C hw hc0 d_M_portion_25 ?_
      refine lv_iload_n hx hb d_M_portion_28 rfl (lv_at hl 1 rfl) ?_
      refine gde h (fun g3 h => ?_)
      refine ldI (n := 6) C hw tM_3 (by decide) g3 d_M_portion_29 ?_
      refine lv_istore_n (lv' := [(3, .int (vJ σ 3 (nx p1))), (0, .ref (g.2.1 c0)), (1, .int p1), (2, .int p2)]) hx hb d_M_portion_30 rfl hl (by decide) rfl (fun ls hl => ?_)
      refine lv_aload_n hx hb d_M_portion_31 rfl (lv_at hl 1 rfl) ?_
      refine fg_M_26 C hw hc0 d_M_portion_32 ?_
      refine lv_iload_n hx hb d_M_portion_35 rfl (lv_at hl 2 rfl) ?_
      refine lv_iload_n hx hb d_M_portion_36 rfl (lv_at hl 3 rfl) ?_
      refine gde h (fun g4 h => ?_)
      refine ste h (fun s5 e6 h => ?_)
      refine stI (n := 6) C hw tM_3 (by decide) g4 d_M_portion_37 (fun H locs hw => ?_)
      replace hw := HWe hw e6
      refine lv_iload_n hx hb d_M_portion_38 rfl (lv_at hl 0 rfl) ?_
      exact retI C hw rfl (Option.some.inj h) d_M_portion_39
    · replace h := ifp b2 h
      refine lv_bipush (v := (-2)) hx hb d_M_portion_21 (by decide) ?_
      exact retI C hw rfl (Option.some.inj h) d_M_portion_23
  · replace h := ifp b1 h
    refine lv_iconst (v := (-1)) hx hb d_M_portion_8 (by decide) ?_
    exact retI C hw rfl (Option.some.inj h) d_M_portion_9
def f_M_fill (c0 : Nat) (p1 : Int32) (σ : St) : Option (Int32 × St) := (if (f_M_in c0 p1 0 990) = false then some ((-2), σ) else (st (sI σ c0 1 p1) fun s3 => some ((vI σ c0 1), s3)))
set_option maxHeartbeats 400000 in
set_option maxRecDepth 20000 in
theorem c_M_fill (g : GX) (c0 : Nat) (hc0 : tg BM c0 20) (p1 : Int32) (σ : St) (q : Int32 × St) (h : f_M_fill c0 p1 σ = some q) (l : Launch) : CT BM l y_M_fill (v_M_fill :: lwG) 2 [.ref (g.2.1 c0), .int p1] g σ (QI BM g q) := by
  refine mkC (cc := b_M_fill) (maxL := 3) (ret := (some .int)) rfl (by decide) rfl (Nat.le_of_ble_eq_true rfl) ?_
  intro p e s m args below meth c A ls C hl hw
  obtain ⟨hx, hb, hr, hml, hown, hts, hK, hE, hA, hlk⟩ := id C
  replace hl : lv_has ls 3 [(0, .ref (g.2.1 c0)), (1, .int p1)] := hl
  obtain ⟨H, hH⟩ : ∃ z, z = s.heap := ⟨_, rfl⟩
  rw [← hH] at hw ⊢
  obtain ⟨locs, hlo⟩ : ∃ z : List Loc, z = [] := ⟨_, rfl⟩
  rw [← hlo] at hw ⊢
  unfold f_M_fill at h
  refine lv_aload_n hx hb d_M_fill_0 rfl (lv_at hl 0 rfl) ?_
  refine lv_iload_n hx hb d_M_fill_1 rfl (lv_at hl 1 rfl) ?_
  refine lv_iconst (v := 0) hx hb d_M_fill_2 (by decide) ?_
  refine lv_sipush (v := 990) hx hb d_M_fill_3 (by decide) ?_
  refine clZ0 (v := (f_M_in c0 p1 0 990)) C hw (invV (As := [.int p1, .int 0, .int 990]) C hw (c_M_in g c0 hc0 p1 0 990 σ l) rfl wc_M_218 nd_M_in ⟨by decide, by decide⟩ (rc_M C hw hc0) rfl hl.1 rfl (Nat.le_of_ble_eq_true rfl) d_M_fill_6 ⟨Nat.le_refl _, Nat.le_refl _⟩) (fun H locs hw => ?_)
  refine ifnB (tgt := 15) C d_M_fill_9 (by decide) (fun b1 => ?_) (fun b1 => ?_)
  · replace h := ifn b1 h
    refine lv_aload_n hx hb d_M_fill_15 rfl (lv_at hl 0 rfl) ?_
    refine fg_M_13 C hw hc0 d_M_fill_16 ?_
    refine lv_istore_n (lv' := [(2, .int (vI σ c0 1)), (0, .ref (g.2.1 c0)), (1, .int p1)]) hx hb d_M_fill_19 rfl hl (by decide) rfl (fun ls hl => ?_)
    refine lv_aload_n hx hb d_M_fill_20 rfl (lv_at hl 1 rfl) ?_
    refine lv_iload_n hx hb d_M_fill_21 rfl (lv_at hl 2 rfl) ?_
    refine ste h (fun s3 e4 h => ?_)
    refine fp_M_13 C hw hc0 d_M_fill_22 (fun H locs hw => ?_)
    replace hw := HWe hw e4
    refine lv_iload_n hx hb d_M_fill_25 rfl (lv_at hl 0 rfl) ?_
    exact retI C hw rfl (Option.some.inj h) d_M_fill_26
  · replace h := ifp b1 h
    refine lv_bipush (v := (-2)) hx hb d_M_fill_12 (by decide) ?_
    exact retI C hw rfl (Option.some.inj h) d_M_fill_14
def f_M_row (c0 : Nat) (p1 : Int32) (p2 : Int32) (p3 : Int32) (σ : St) : Option (Int32 × St) := (if (f_M_isTaker c0 p1 σ) = false then some ((-1), σ) else (if (f_M_in c0 p2 0 3) = false then some ((-1), σ) else (if (f_M_in c0 p3 0 9) = false then some ((-2), σ) else (if ok p1 6 = true then (if (vJ σ 1 (nx p1)) = 6 then (if ok ((4 * p1) + p2) 24 = true then (if ok ((4 * p1) + p2) 24 = true then (st (sJ σ 7 (upd (vJ σ 7) (nx ((4 * p1) + p2)) p3)) fun s8 => some ((vJ σ 7 (nx ((4 * p1) + p2))), s8)) else none) else none) else some ((-3), σ)) else none))))
set_option maxHeartbeats 400000 in
set_option maxRecDepth 20000 in
theorem c_M_row (g : GX) (c0 : Nat) (hc0 : tg BM c0 20) (p1 : Int32) (p2 : Int32) (p3 : Int32) (σ : St) (q : Int32 × St) (h : f_M_row c0 p1 p2 p3 σ = some q) (l : Launch) : CT BM l y_M_row (v_M_row :: lwG) 3 [.ref (g.2.1 c0), .int p1, .int p2, .int p3] g σ (QI BM g q) := by
  refine mkC (cc := b_M_row) (maxL := 5) (ret := (some .int)) rfl (by decide) rfl (Nat.le_of_ble_eq_true rfl) ?_
  intro p e s m args below meth c A ls C hl hw
  obtain ⟨hx, hb, hr, hml, hown, hts, hK, hE, hA, hlk⟩ := id C
  replace hl : lv_has ls 5 [(0, .ref (g.2.1 c0)), (1, .int p1), (2, .int p2), (3, .int p3)] := hl
  obtain ⟨H, hH⟩ : ∃ z, z = s.heap := ⟨_, rfl⟩
  rw [← hH] at hw ⊢
  obtain ⟨locs, hlo⟩ : ∃ z : List Loc, z = [] := ⟨_, rfl⟩
  rw [← hlo] at hw ⊢
  unfold f_M_row at h
  refine lv_aload_n hx hb d_M_row_0 rfl (lv_at hl 0 rfl) ?_
  refine lv_iload_n hx hb d_M_row_1 rfl (lv_at hl 1 rfl) ?_
  refine clZ0 (v := (f_M_isTaker c0 p1 σ)) C hw (invV (As := [.int p1]) C hw (c_M_isTaker g c0 hc0 p1 σ l) rfl wc_M_222 nd_M_isTaker ⟨by decide, by decide⟩ (rc_M C hw hc0) rfl hl.1 rfl (Nat.le_of_ble_eq_true rfl) d_M_row_2 ⟨Nat.le_refl _, Nat.le_refl _⟩) (fun H locs hw => ?_)
  refine ifB (tgt := 18) C d_M_row_5 (by decide) (fun b1 => ?_) (fun b1 => ?_)
  · replace h := ifp b1 h
    refine lv_iconst (v := (-1)) hx hb d_M_row_18 (by decide) ?_
    exact retI C hw rfl (Option.some.inj h) d_M_row_19
  · replace h := ifn b1 h
    refine lv_aload_n hx hb d_M_row_8 rfl (lv_at hl 0 rfl) ?_
    refine lv_iload_n hx hb d_M_row_9 rfl (lv_at hl 2 rfl) ?_
    refine lv_iconst (v := 0) hx hb d_M_row_10 (by decide) ?_
    refine lv_iconst (v := 3) hx hb d_M_row_11 (by decide) ?_
    refine clZ0 (v := (f_M_in c0 p2 0 3)) C hw (invV (As := [.int p2, .int 0, .int 3]) C hw (c_M_in g c0 hc0 p2 0 3 σ l) rfl wc_M_218 nd_M_in ⟨by decide, by decide⟩ (rc_M C hw hc0) rfl hl.1 rfl (Nat.le_of_ble_eq_true rfl) d_M_row_12 ⟨Nat.le_refl _, Nat.le_refl _⟩) (fun H locs hw => ?_)
    refine ifnB (tgt := 20) C d_M_row_15 (by decide) (fun b2 => ?_) (fun b2 => ?_)
    · replace h := ifn b2 h
      refine lv_aload_n hx hb d_M_row_20 rfl (lv_at hl 0 rfl) ?_
      refine lv_iload_n hx hb d_M_row_21 rfl (lv_at hl 3 rfl) ?_
      refine lv_iconst (v := 0) hx hb d_M_row_22 (by decide) ?_
      refine lv_bipush (v := 9) hx hb d_M_row_23 (by decide) ?_
      refine clZ0 (v := (f_M_in c0 p3 0 9)) C hw (invV (As := [.int p3, .int 0, .int 9]) C hw (c_M_in g c0 hc0 p3 0 9 σ l) rfl wc_M_218 nd_M_in ⟨by decide, by decide⟩ (rc_M C hw hc0) rfl hl.1 rfl (Nat.le_of_ble_eq_true rfl) d_M_row_25 ⟨Nat.le_refl _, Nat.le_refl _⟩) (fun H locs hw => ?_)
      refine ifnB (tgt := 34) C d_M_row_28 (by decide) (fun b3 => ?_) (fun b3 => ?_)
      · replace h := ifn b3 h
        refine lv_aload_n hx hb d_M_row_34 rfl (lv_at hl 0 rfl) ?_
        refine fg_M_19 C hw hc0 d_M_row_35 ?_
        refine lv_iload_n hx hb d_M_row_38 rfl (lv_at hl 1 rfl) ?_
        refine gde h (fun g4 h => ?_)
        refine ldI (n := 6) C hw tM_1 (by decide) g4 d_M_row_39 ?_
        refine lv_bipush (v := 6) hx hb d_M_row_40 (by decide) ?_
        refine lv_icmp_eq (tgt := 48) hx hb d_M_row_42 (by decide) (fun b5 => ?_) (fun b5 => ?_)
        · replace h := ifp b5 h
          refine lv_aload_n hx hb d_M_row_48 rfl (lv_at hl 0 rfl) ?_
          refine fg_M_38 C hw hc0 d_M_row_49 ?_
          refine lv_iconst (v := 4) hx hb d_M_row_52 (by decide) ?_
          refine lv_iload_n hx hb d_M_row_53 rfl (lv_at hl 1 rfl) ?_
          refine lv_imul hx hb d_M_row_54 ?_
          refine lv_iload_n hx hb d_M_row_55 rfl (lv_at hl 2 rfl) ?_
          refine lv_iadd hx hb d_M_row_56 ?_
          refine gde h (fun g6 h => ?_)
          refine ldI (n := 24) C hw tM_7 (by decide) g6 d_M_row_57 ?_
          refine lv_istore (lv' := [(4, .int (vJ σ 7 (nx ((4 * p1) + p2)))), (0, .ref (g.2.1 c0)), (1, .int p1), (2, .int p2), (3, .int p3)]) hx hb d_M_row_58 hl (by decide) rfl (fun ls hl => ?_)
          refine lv_aload_n hx hb d_M_row_60 rfl (lv_at hl 1 rfl) ?_
          refine fg_M_38 C hw hc0 d_M_row_61 ?_
          refine lv_iconst (v := 4) hx hb d_M_row_64 (by decide) ?_
          refine lv_iload_n hx hb d_M_row_65 rfl (lv_at hl 2 rfl) ?_
          refine lv_imul hx hb d_M_row_66 ?_
          refine lv_iload_n hx hb d_M_row_67 rfl (lv_at hl 3 rfl) ?_
          refine lv_iadd hx hb d_M_row_68 ?_
          refine lv_iload_n hx hb d_M_row_69 rfl (lv_at hl 4 rfl) ?_
          refine gde h (fun g7 h => ?_)
          refine ste h (fun s8 e9 h => ?_)
          refine stI (n := 24) C hw tM_7 (by decide) g7 d_M_row_70 (fun H locs hw => ?_)
          replace hw := HWe hw e9
          refine lv_iload hx hb d_M_row_71 (lv_at hl 0 rfl) ?_
          exact retI C hw rfl (Option.some.inj h) d_M_row_73
        · replace h := ifn b5 h
          refine lv_bipush (v := (-3)) hx hb d_M_row_45 (by decide) ?_
          exact retI C hw rfl (Option.some.inj h) d_M_row_47
      · replace h := ifp b3 h
        refine lv_bipush (v := (-2)) hx hb d_M_row_31 (by decide) ?_
        exact retI C hw rfl (Option.some.inj h) d_M_row_33
    · replace h := ifp b2 h
      refine lv_iconst (v := (-1)) hx hb d_M_row_18 (by decide) ?_
      exact retI C hw rfl (Option.some.inj h) d_M_row_19
def f_M_feed (c0 : Nat) (p1 : Int32) (σ : St) : Option (Int32 × St) := (if (f_M_in c0 p1 0 127) = false then some ((-2), σ) else (if (vI σ c0 12) = 100 then some ((-4), σ) else (if ok (vI σ c0 12) 100 = true then (st (sJ σ 8 (upd (vJ σ 8) (nx (vI σ c0 12)) p1)) fun s4 => (st (sI s4 c0 12 ((vI s4 c0 12) + 1)) fun s6 => some ((vI s6 c0 12), s6))) else none)))
set_option maxHeartbeats 400000 in
set_option maxRecDepth 20000 in
theorem c_M_feed (g : GX) (c0 : Nat) (hc0 : tg BM c0 20) (p1 : Int32) (σ : St) (q : Int32 × St) (h : f_M_feed c0 p1 σ = some q) (l : Launch) : CT BM l y_M_feed (v_M_feed :: lwG) 2 [.ref (g.2.1 c0), .int p1] g σ (QI BM g q) := by
  refine mkC (cc := b_M_feed) (maxL := 2) (ret := (some .int)) rfl (by decide) rfl (Nat.le_of_ble_eq_true rfl) ?_
  intro p e s m args below meth c A ls C hl hw
  obtain ⟨hx, hb, hr, hml, hown, hts, hK, hE, hA, hlk⟩ := id C
  replace hl : lv_has ls 2 [(0, .ref (g.2.1 c0)), (1, .int p1)] := hl
  obtain ⟨H, hH⟩ : ∃ z, z = s.heap := ⟨_, rfl⟩
  rw [← hH] at hw ⊢
  obtain ⟨locs, hlo⟩ : ∃ z : List Loc, z = [] := ⟨_, rfl⟩
  rw [← hlo] at hw ⊢
  unfold f_M_feed at h
  refine lv_aload_n hx hb d_M_feed_0 rfl (lv_at hl 0 rfl) ?_
  refine lv_iload_n hx hb d_M_feed_1 rfl (lv_at hl 1 rfl) ?_
  refine lv_iconst (v := 0) hx hb d_M_feed_2 (by decide) ?_
  refine lv_bipush (v := 127) hx hb d_M_feed_3 (by decide) ?_
  refine clZ0 (v := (f_M_in c0 p1 0 127)) C hw (invV (As := [.int p1, .int 0, .int 127]) C hw (c_M_in g c0 hc0 p1 0 127 σ l) rfl wc_M_218 nd_M_in ⟨by decide, by decide⟩ (rc_M C hw hc0) rfl hl.1 rfl (Nat.le_of_ble_eq_true rfl) d_M_feed_5 ⟨Nat.le_refl _, Nat.le_refl _⟩) (fun H locs hw => ?_)
  refine ifnB (tgt := 14) C d_M_feed_8 (by decide) (fun b1 => ?_) (fun b1 => ?_)
  · replace h := ifn b1 h
    refine lv_aload_n hx hb d_M_feed_14 rfl (lv_at hl 0 rfl) ?_
    refine fg_M_47 C hw hc0 d_M_feed_15 ?_
    refine lv_bipush (v := 100) hx hb d_M_feed_18 (by decide) ?_
    refine lv_icmp_ne (tgt := 26) hx hb d_M_feed_20 (by decide) (fun b2 => ?_) (fun b2 => ?_)
    · replace h := ifn b2 h
      refine lv_aload_n hx hb d_M_feed_26 rfl (lv_at hl 0 rfl) ?_
      refine fg_M_56 C hw hc0 d_M_feed_27 ?_
      refine lv_aload_n hx hb d_M_feed_30 rfl (lv_at hl 0 rfl) ?_
      refine fg_M_47 C hw hc0 d_M_feed_31 ?_
      refine lv_iload_n hx hb d_M_feed_34 rfl (lv_at hl 1 rfl) ?_
      refine gde h (fun g3 h => ?_)
      refine ste h (fun s4 e8 h => ?_)
      refine stI (n := 100) C hw tM_8 (by decide) g3 d_M_feed_35 (fun H locs hw => ?_)
      replace hw := HWe hw e8
      refine lv_aload_n hx hb d_M_feed_36 rfl (lv_at hl 0 rfl) ?_
      refine lv_dup hx hb d_M_feed_37 rfl ?_
      refine fg_M_47 C hw hc0 d_M_feed_38 ?_
      refine lv_iconst (v := 1) hx hb d_M_feed_41 (by decide) ?_
      refine lv_iadd hx hb d_M_feed_42 ?_
      refine ste h (fun s6 e7 h => ?_)
      refine fp_M_47 C hw hc0 d_M_feed_43 (fun H locs hw => ?_)
      replace hw := HWe hw e7
      refine lv_aload_n hx hb d_M_feed_46 rfl (lv_at hl 0 rfl) ?_
      refine fg_M_47 C hw hc0 d_M_feed_47 ?_
      exact retI C hw rfl (Option.some.inj h) d_M_feed_50
    · replace h := ifp b2 h
      refine lv_bipush (v := (-4)) hx hb d_M_feed_23 (by decide) ?_
      exact retI C hw rfl (Option.some.inj h) d_M_feed_25
  · replace h := ifp b1 h
    refine lv_bipush (v := (-2)) hx hb d_M_feed_11 (by decide) ?_
    exact retI C hw rfl (Option.some.inj h) d_M_feed_13
def f_M_peek (c0 : Nat) (σ : St) : Option (Int32) := (if (vI σ c0 12) ≤ (vI σ c0 13) then some (-1) else (if ok (vI σ c0 13) 100 = true then some (vJ σ 8 (nx (vI σ c0 13))) else none))
set_option maxHeartbeats 400000 in
set_option maxRecDepth 20000 in
theorem c_M_peek (g : GX) (c0 : Nat) (hc0 : tg BM c0 20) (σ : St) (q : Int32) (h : f_M_peek c0 σ = some q) (l : Launch) : CT BM l y_M_peek (v_M_peek :: lwG) 1 [.ref (g.2.1 c0)] g σ (QI BM g (q, σ)) := by
  refine mkC (cc := b_M_peek) (maxL := 1) (ret := (some .int)) rfl (by decide) rfl (Nat.le_of_ble_eq_true rfl) ?_
  intro p e s m args below meth c A ls C hl hw
  obtain ⟨hx, hb, hr, hml, hown, hts, hK, hE, hA, hlk⟩ := id C
  replace hl : lv_has ls 1 [(0, .ref (g.2.1 c0))] := hl
  obtain ⟨H, hH⟩ : ∃ z, z = s.heap := ⟨_, rfl⟩
  rw [← hH] at hw ⊢
  obtain ⟨locs, hlo⟩ : ∃ z : List Loc, z = [] := ⟨_, rfl⟩
  rw [← hlo] at hw ⊢
  unfold f_M_peek at h
  refine lv_aload_n hx hb d_M_peek_0 rfl (lv_at hl 0 rfl) ?_
  refine fg_M_50 C hw hc0 d_M_peek_1 ?_
  refine lv_aload_n hx hb d_M_peek_4 rfl (lv_at hl 0 rfl) ?_
  refine fg_M_47 C hw hc0 d_M_peek_5 ?_
  refine lv_icmp_ge (tgt := 23) hx hb d_M_peek_8 (by decide) (fun b1 => ?_) (fun b1 => ?_)
  · replace h := ifp b1 h
    refine lv_iconst (v := (-1)) hx hb d_M_peek_23 (by decide) ?_
    exact retI C hw rfl (congrArg (fun z => (z, σ)) (Option.some.inj h)) d_M_peek_24
  · replace h := ifn b1 h
    refine lv_aload_n hx hb d_M_peek_11 rfl (lv_at hl 0 rfl) ?_
    refine fg_M_56 C hw hc0 d_M_peek_12 ?_
    refine lv_aload_n hx hb d_M_peek_15 rfl (lv_at hl 0 rfl) ?_
    refine fg_M_50 C hw hc0 d_M_peek_16 ?_
    refine gde h (fun g2 h => ?_)
    refine ldI (n := 100) C hw tM_8 (by decide) g2 d_M_peek_19 ?_
    refine lv_goto (tgt := 24) hx hb d_M_peek_20 (by decide) ?_
    exact retI C hw rfl (congrArg (fun z => (z, σ)) (Option.some.inj h)) d_M_peek_24
def f_M_reads (c0 : Nat) (p1 : Int32) (σ : St) : Option (Bool × St) := ((f_M_peek c0 σ).bind fun q1 => (if q1 = p1 then (st (sI σ c0 13 ((vI σ c0 13) + 1)) fun s5 => some (true, s5)) else some (false, σ)))
set_option maxHeartbeats 400000 in
set_option maxRecDepth 20000 in
theorem c_M_reads (g : GX) (c0 : Nat) (hc0 : tg BM c0 20) (p1 : Int32) (σ : St) (q : Bool × St) (h : f_M_reads c0 p1 σ = some q) (l : Launch) : CT BM l y_M_reads (v_M_reads :: lwG) 2 [.ref (g.2.1 c0), .int p1] g σ (QZ BM g q) := by
  refine mkC (cc := b_M_reads) (maxL := 2) (ret := (some .boolean)) rfl (by decide) rfl (Nat.le_of_ble_eq_true rfl) ?_
  intro p e s m args below meth c A ls C hl hw
  obtain ⟨hx, hb, hr, hml, hown, hts, hK, hE, hA, hlk⟩ := id C
  replace hl : lv_has ls 2 [(0, .ref (g.2.1 c0)), (1, .int p1)] := hl
  obtain ⟨H, hH⟩ : ∃ z, z = s.heap := ⟨_, rfl⟩
  rw [← hH] at hw ⊢
  obtain ⟨locs, hlo⟩ : ∃ z : List Loc, z = [] := ⟨_, rfl⟩
  rw [← hlo] at hw ⊢
  unfold f_M_reads at h
  refine lv_aload_n hx hb d_M_reads_0 rfl (lv_at hl 0 rfl) ?_
  refine bnd h (fun q1 k2 h => ?_)
  refine clI0 (v := q1) C hw (invV (As := []) C hw (c_M_peek g c0 hc0 σ q1 k2 l) rfl wc_M_226 nd_M_peek ⟨by decide, by decide⟩ (rc_M C hw hc0) rfl hl.1 rfl (Nat.le_of_ble_eq_true rfl) d_M_reads_1 ⟨Nat.le_refl _, Nat.le_refl _⟩) (fun H locs hw => ?_)
  refine lv_iload_n hx hb d_M_reads_4 rfl (lv_at hl 1 rfl) ?_
  refine lv_icmp_eq (tgt := 10) hx hb d_M_reads_5 (by decide) (fun b3 => ?_) (fun b3 => ?_)
  · replace h := ifp b3 h
    refine lv_aload_n hx hb d_M_reads_10 rfl (lv_at hl 0 rfl) ?_
    refine lv_dup hx hb d_M_reads_11 rfl ?_
    refine fg_M_50 C hw hc0 d_M_reads_12 ?_
    refine lv_iconst (v := 1) hx hb d_M_reads_15 (by decide) ?_
    refine lv_iadd hx hb d_M_reads_16 ?_
    refine ste h (fun s5 e6 h => ?_)
    refine fp_M_50 C hw hc0 d_M_reads_17 (fun H locs hw => ?_)
    replace hw := HWe hw e6
    refine lv_iconst (v := 1) hx hb d_M_reads_20 (by decide) ?_
    exact retZ (b := true) C hw rfl rfl (Option.some.inj h) d_M_reads_21
  · replace h := ifn b3 h
    refine lv_iconst (v := 0) hx hb d_M_reads_8 (by decide) ?_
    exact retZ (b := false) C hw rfl rfl (Option.some.inj h) d_M_reads_9
def f_M_takesWord_l2 : Nat → Nat → Int32 → Int32 → Int32 → St → Option ((St) ⊕ (Bool × St))
  | 0, _, _, _, _, _ => none
  | n + 1, c0, x1, x2, x3, σ => (if x2 ≤ x3 then some (Sum.inl σ) else (if ok (x1 + x3) 16 = true then ((f_M_reads c0 (vJ σ 16 (nx (x1 + x3))) σ).bind fun q4 => (if q4.1 = false then some (Sum.inr (false, q4.2)) else (f_M_takesWord_l2 n c0 x1 x2 (x3 + 1) q4.2))) else none))
def f_M_takesWord (c0 : Nat) (p1 : Int32) (p2 : Int32) (σ : St) : Option (Bool × St) := ((f_M_takesWord_l2 FU c0 p1 p2 0 σ).bind fun x_7 => Sum.elim (fun y9 => ((f_M_reads c0 32 y9).bind fun q10 => some (q10.1, q10.2))) (fun z => some z) x_7)
set_option maxHeartbeats 400000 in
set_option maxRecDepth 20000 in
theorem c_M_takesWord (g : GX) (c0 : Nat) (hc0 : tg BM c0 20) (p1 : Int32) (p2 : Int32) (σ : St) (q : Bool × St) (h : f_M_takesWord c0 p1 p2 σ = some q) (l : Launch) : CT BM l y_M_takesWord (v_M_takesWord :: lwG) 3 [.ref (g.2.1 c0), .int p1, .int p2] g σ (QZ BM g q) := by
  refine mkC (cc := b_M_takesWord) (maxL := 4) (ret := (some .boolean)) rfl (by decide) rfl (Nat.le_of_ble_eq_true rfl) ?_
  intro p e s m args below meth c A ls C hl hw
  obtain ⟨hx, hb, hr, hml, hown, hts, hK, hE, hA, hlk⟩ := id C
  replace hl : lv_has ls 4 [(0, .ref (g.2.1 c0)), (1, .int p1), (2, .int p2)] := hl
  obtain ⟨H, hH⟩ : ∃ z, z = s.heap := ⟨_, rfl⟩
  rw [← hH] at hw ⊢
  obtain ⟨locs, hlo⟩ : ∃ z : List Loc, z = [] := ⟨_, rfl⟩
  rw [← hlo] at hw ⊢
  unfold f_M_takesWord at h
  refine lv_iconst (v := 0) hx hb d_M_takesWord_0 (by decide) ?_
  refine lv_istore_n (lv' := [(3, .int 0), (0, .ref (g.2.1 c0)), (1, .int p1), (2, .int p2)]) hx hb d_M_takesWord_1 rfl hl (by decide) rfl (fun ls hl => ?_)
  have L1 : ∀ (c0 : Nat) (hc0 : tg BM c0 20) (x1 : Int32) (x2 : Int32) (n : Nat) (x3 : Int32) (σ : St) (H : Heap) (locs : List Loc) (ls : Array Slot), HW BM g A s σ H locs → lv_has ls 4 [(0, .ref (g.2.1 c0)), (1, .int x1), (2, .int x2), (3, .int x3)] → ∀ (ex : (St) ⊕ (Bool × St)), f_M_takesWord_l2 n c0 x1 x2 x3 σ = some ex → (∀ (y : St), ex = Sum.inl y → ∀ (H : Heap) (locs : List Loc) (ls : Array Slot), HW BM g A s y H locs → lv_has ls 4 [(0, .ref (g.2.1 c0))] → W p l e (rmL 3) s m args below meth c H locs 0 0 (MQ below (QZ BM g q A) args s 0 0 A) (F0 m 30 ls [])) → (∀ (z : Bool × St), ex = Sum.inr z → z = q) → W p l e (rmL 3) s m args below meth c H locs 0 0 (MQ below (QZ BM g q A) args s 0 0 A) (F0 m 2 ls []) := by
    intro c0 hc0 x1 x2 n
    induction n with
    | zero =>
      intro x3 σ H locs ls hw hl ex h kx1 kr1
      cases h
    | succ n ih =>
      intro x3 σ H locs ls hw hl ex h kx1 kr1
      rw [f_M_takesWord_l2] at h
      refine lv_iload_n hx hb d_M_takesWord_2 rfl (lv_at hl 3 rfl) ?_
      refine lv_iload_n hx hb d_M_takesWord_3 rfl (lv_at hl 2 rfl) ?_
      refine lv_icmp_ge (tgt := 30) hx hb d_M_takesWord_4 (by decide) (fun b2 => ?_) (fun b2 => ?_)
      · replace h := ifp b2 h
        exact kx1 _ (Option.some.inj h).symm H locs ls hw (lv_sub hl [0] rfl)
      · replace h := ifn b2 h
        refine lv_aload_n hx hb d_M_takesWord_7 rfl (lv_at hl 0 rfl) ?_
        refine lv_aload_n hx hb d_M_takesWord_8 rfl (lv_at hl 0 rfl) ?_
        refine fg_M_89 C hw hc0 d_M_takesWord_9 ?_
        refine lv_iload_n hx hb d_M_takesWord_12 rfl (lv_at hl 1 rfl) ?_
        refine lv_iload_n hx hb d_M_takesWord_13 rfl (lv_at hl 3 rfl) ?_
        refine lv_iadd hx hb d_M_takesWord_14 ?_
        refine gde h (fun g3 h => ?_)
        refine ldI (n := 16) C hw tM_16 (by decide) g3 d_M_takesWord_15 ?_
        refine bnd h (fun q4 k5 h => ?_)
        refine clZ C hw (invV (As := [.int (vJ σ 16 (nx (x1 + x3)))]) C hw (c_M_reads g c0 hc0 (vJ σ 16 (nx (x1 + x3))) σ q4 k5 l) rfl wc_M_230 nd_M_reads ⟨by decide, by decide⟩ (rc_M C hw hc0) rfl hl.1 rfl (Nat.le_of_ble_eq_true rfl) d_M_takesWord_16 ⟨Nat.le_refl _, Nat.le_refl _⟩) (fun H locs hw => ?_)
        refine ifnB (tgt := 24) C d_M_takesWord_19 (by decide) (fun b6 => ?_) (fun b6 => ?_)
        · replace h := ifn b6 h
          refine lv_iinc (v := (x3 + 1)) (lv' := [(3, .int (x3 + 1)), (0, .ref (g.2.1 c0)), (1, .int x1), (2, .int x2)]) hx hb d_M_takesWord_24 hl (k := 3) rfl rfl (by decide) rfl (fun ls hl => ?_)
          refine lv_goto (tgt := 2) hx hb d_M_takesWord_27 (by decide) ?_
          exact ih (x3 + 1) q4.2 H locs ls hw (lv_sub hl [1, 2, 3, 0] rfl) ex h kx1 kr1
        · replace h := ifp b6 h
          refine lv_iconst (v := 0) hx hb d_M_takesWord_22 (by decide) ?_
          exact retZ (b := false) C hw rfl rfl (kr1 _ (Option.some.inj h).symm) d_M_takesWord_23
  refine bnd h (fun x_7 k8 h => ?_)
  refine L1 c0 hc0 p1 p2 FU 0 σ H locs ls hw (lv_sub hl [1, 2, 3, 0] rfl) x_7 k8 (fun y9 e12 H locs ls hw hl => ?_) (fun z e12 => ?_)
  · rw [e12] at h
    replace h := sel h
    refine lv_aload_n hx hb d_M_takesWord_30 rfl (lv_at hl 0 rfl) ?_
    refine lv_bipush (v := 32) hx hb d_M_takesWord_31 (by decide) ?_
    refine bnd h (fun q10 k11 h => ?_)
    refine clZ C hw (invV (As := [.int 32]) C hw (c_M_reads g c0 hc0 32 y9 q10 k11 l) rfl wc_M_230 nd_M_reads ⟨by decide, by decide⟩ (rc_M C hw hc0) rfl hl.1 rfl (Nat.le_of_ble_eq_true rfl) d_M_takesWord_33 ⟨Nat.le_refl _, Nat.le_refl _⟩) (fun H locs hw => ?_)
    exact retZ (b := q10.1) C hw rfl rfl (Option.some.inj h) d_M_takesWord_36
  · rw [e12] at h
    replace h := ser h
    exact Option.some.inj h
def f_M_isDigit (c0 : Nat) (σ : St) : Option (Bool) := ((f_M_peek c0 σ).bind fun q1 => some (f_M_in c0 q1 48 57))
set_option maxHeartbeats 400000 in
set_option maxRecDepth 20000 in
theorem c_M_isDigit (g : GX) (c0 : Nat) (hc0 : tg BM c0 20) (σ : St) (q : Bool) (h : f_M_isDigit c0 σ = some q) (l : Launch) : CT BM l y_M_isDigit (v_M_isDigit :: lwG) 2 [.ref (g.2.1 c0)] g σ (QZ BM g (q, σ)) := by
  refine mkC (cc := b_M_isDigit) (maxL := 1) (ret := (some .boolean)) rfl (by decide) rfl (Nat.le_of_ble_eq_true rfl) ?_
  intro p e s m args below meth c A ls C hl hw
  obtain ⟨hx, hb, hr, hml, hown, hts, hK, hE, hA, hlk⟩ := id C
  replace hl : lv_has ls 1 [(0, .ref (g.2.1 c0))] := hl
  obtain ⟨H, hH⟩ : ∃ z, z = s.heap := ⟨_, rfl⟩
  rw [← hH] at hw ⊢
  obtain ⟨locs, hlo⟩ : ∃ z : List Loc, z = [] := ⟨_, rfl⟩
  rw [← hlo] at hw ⊢
  unfold f_M_isDigit at h
  refine lv_aload_n hx hb d_M_isDigit_0 rfl (lv_at hl 0 rfl) ?_
  refine lv_aload_n hx hb d_M_isDigit_1 rfl (lv_at hl 0 rfl) ?_
  refine bnd h (fun q1 k2 h => ?_)
  refine clI0 (v := q1) C hw (invV (As := []) C hw (c_M_peek g c0 hc0 σ q1 k2 l) rfl wc_M_226 nd_M_peek ⟨by decide, by decide⟩ (rc_M C hw hc0) rfl hl.1 rfl (Nat.le_of_ble_eq_true rfl) d_M_isDigit_2 ⟨Nat.le_refl _, Nat.le_refl _⟩) (fun H locs hw => ?_)
  refine lv_bipush (v := 48) hx hb d_M_isDigit_5 (by decide) ?_
  refine lv_bipush (v := 57) hx hb d_M_isDigit_7 (by decide) ?_
  refine clZ0 (v := (f_M_in c0 q1 48 57)) C hw (invV (As := [.int q1, .int 48, .int 57]) C hw (c_M_in g c0 hc0 q1 48 57 σ l) rfl wc_M_218 nd_M_in ⟨by decide, by decide⟩ (rc_M C hw hc0) rfl hl.1 rfl (Nat.le_of_ble_eq_true rfl) d_M_isDigit_9 ⟨Nat.le_refl _, Nat.le_refl _⟩) (fun H locs hw => ?_)
  exact retZ (b := (f_M_in c0 q1 48 57)) C hw rfl rfl (congrArg (fun z => (z, σ)) (Option.some.inj h)) d_M_isDigit_12
def f_M_takesNumber_l16 : Nat → Nat → Int32 → St → Option (St)
  | 0, _, _, _ => none
  | n + 1, c0, x1, σ => (if 2 ≤ x1 then some σ else ((f_M_isDigit c0 σ).bind fun q8 => (if q8 = false then some σ else ((f_M_peek c0 σ).bind fun q11 => (st (sI σ c0 14 (((10 * (vI σ c0 14)) + q11) - 48)) fun s14 => (st (sI s14 c0 13 ((vI s14 c0 13) + 1)) fun s16 => (f_M_takesNumber_l16 n c0 (x1 + 1) s16)))))))
def f_M_takesNumber (c0 : Nat) (σ : St) : Option (Bool × St) := ((f_M_isDigit c0 σ).bind fun q1 => (if q1 = false then some (false, σ) else (st (sI σ c0 14 0) fun s5 => ((f_M_takesNumber_l16 FU c0 0 s5).bind fun x_19 => some (true, x_19)))))
set_option maxHeartbeats 400000 in
set_option maxRecDepth 20000 in
theorem c_M_takesNumber (g : GX) (c0 : Nat) (hc0 : tg BM c0 20) (σ : St) (q : Bool × St) (h : f_M_takesNumber c0 σ = some q) (l : Launch) : CT BM l y_M_takesNumber (v_M_takesNumber :: lwG) 3 [.ref (g.2.1 c0)] g σ (QZ BM g q) := by
  refine mkC (cc := b_M_takesNumber) (maxL := 2) (ret := (some .boolean)) rfl (by decide) rfl (Nat.le_of_ble_eq_true rfl) ?_
  intro p e s m args below meth c A ls C hl hw
  obtain ⟨hx, hb, hr, hml, hown, hts, hK, hE, hA, hlk⟩ := id C
  replace hl : lv_has ls 2 [(0, .ref (g.2.1 c0))] := hl
  obtain ⟨H, hH⟩ : ∃ z, z = s.heap := ⟨_, rfl⟩
  rw [← hH] at hw ⊢
  obtain ⟨locs, hlo⟩ : ∃ z : List Loc, z = [] := ⟨_, rfl⟩
  rw [← hlo] at hw ⊢
  unfold f_M_takesNumber at h
  refine lv_aload_n hx hb d_M_takesNumber_0 rfl (lv_at hl 0 rfl) ?_
  refine bnd h (fun q1 k2 h => ?_)
  refine clZ0 (v := q1) C hw (invV (As := []) C hw (c_M_isDigit g c0 hc0 σ q1 k2 l) rfl wc_M_233 nd_M_isDigit ⟨by decide, by decide⟩ (rc_M C hw hc0) rfl hl.1 rfl (Nat.le_of_ble_eq_true rfl) d_M_takesNumber_1 ⟨Nat.le_refl _, Nat.le_refl _⟩) (fun H locs hw => ?_)
  refine ifnB (tgt := 9) C d_M_takesNumber_4 (by decide) (fun b3 => ?_) (fun b3 => ?_)
  · replace h := ifn b3 h
    refine lv_aload_n hx hb d_M_takesNumber_9 rfl (lv_at hl 0 rfl) ?_
    refine lv_iconst (v := 0) hx hb d_M_takesNumber_10 (by decide) ?_
    refine ste h (fun s5 e24 h => ?_)
    refine fp_M_53 C hw hc0 d_M_takesNumber_11 (fun H locs hw => ?_)
    replace hw := HWe hw e24
    refine lv_iconst (v := 0) hx hb d_M_takesNumber_14 (by decide) ?_
    refine lv_istore_n (lv' := [(1, .int 0), (0, .ref (g.2.1 c0))]) hx hb d_M_takesNumber_15 rfl hl (by decide) rfl (fun ls hl => ?_)
    have L6 : ∀ (c0 : Nat) (hc0 : tg BM c0 20) (n : Nat) (x1 : Int32) (σ : St) (H : Heap) (locs : List Loc) (ls : Array Slot), HW BM g A s σ H locs → lv_has ls 2 [(0, .ref (g.2.1 c0)), (1, .int x1)] → ∀ (ex : St), f_M_takesNumber_l16 n c0 x1 σ = some ex → (∀ (y : St), ex = y → ∀ (H : Heap) (locs : List Loc) (ls : Array Slot), HW BM g A s y H locs → lv_has ls 2 [] → W p l e (rmL 3) s m args below meth c H locs 0 0 (MQ below (QZ BM g q A) args s 0 0 A) (F0 m 63 ls [])) → (True) → W p l e (rmL 3) s m args below meth c H locs 0 0 (MQ below (QZ BM g q A) args s 0 0 A) (F0 m 16 ls []) := by
      intro c0 hc0 n
      induction n with
      | zero =>
        intro x1 σ H locs ls hw hl ex h kx6 kr6
        cases h
      | succ n ih =>
        intro x1 σ H locs ls hw hl ex h kx6 kr6
        rw [f_M_takesNumber_l16] at h
        refine lv_iload_n hx hb d_M_takesNumber_16 rfl (lv_at hl 1 rfl) ?_
        refine lv_iconst (v := 2) hx hb d_M_takesNumber_17 (by decide) ?_
        refine lv_icmp_ge (tgt := 63) hx hb d_M_takesNumber_18 (by decide) (fun b7 => ?_) (fun b7 => ?_)
        · replace h := ifp b7 h
          exact kx6 _ (Option.some.inj h).symm H locs ls hw (lv_sub hl [] rfl)
        · replace h := ifn b7 h
          refine lv_aload_n hx hb d_M_takesNumber_21 rfl (lv_at hl 0 rfl) ?_
          refine bnd h (fun q8 k9 h => ?_)
          refine clZ0 (v := q8) C hw (invV (As := []) C hw (c_M_isDigit g c0 hc0 σ q8 k9 l) rfl wc_M_233 nd_M_isDigit ⟨by decide, by decide⟩ (rc_M C hw hc0) rfl hl.1 rfl (Nat.le_of_ble_eq_true rfl) d_M_takesNumber_22 ⟨Nat.le_refl _, Nat.le_refl _⟩) (fun H locs hw => ?_)
          refine ifB (tgt := 63) C d_M_takesNumber_25 (by decide) (fun b10 => ?_) (fun b10 => ?_)
          · replace h := ifp b10 h
            exact kx6 _ (Option.some.inj h).symm H locs ls hw (lv_sub hl [] rfl)
          · replace h := ifn b10 h
            refine lv_aload_n hx hb d_M_takesNumber_28 rfl (lv_at hl 0 rfl) ?_
            refine lv_bipush (v := 10) hx hb d_M_takesNumber_29 (by decide) ?_
            refine lv_aload_n hx hb d_M_takesNumber_31 rfl (lv_at hl 0 rfl) ?_
            refine fg_M_53 C hw hc0 d_M_takesNumber_32 ?_
            refine lv_imul hx hb d_M_takesNumber_35 ?_
            refine lv_aload_n hx hb d_M_takesNumber_36 rfl (lv_at hl 0 rfl) ?_
            refine bnd h (fun q11 k12 h => ?_)
            refine clI0 (v := q11) C hw (invV (As := []) C hw (c_M_peek g c0 hc0 σ q11 k12 l) rfl wc_M_226 nd_M_peek ⟨by decide, by decide⟩ (rc_M C hw hc0) rfl hl.1 rfl (Nat.le_of_ble_eq_true rfl) d_M_takesNumber_37 ⟨Nat.le_refl _, Nat.le_refl _⟩) (fun H locs hw => ?_)
            refine lv_iadd hx hb d_M_takesNumber_40 ?_
            refine lv_bipush (v := 48) hx hb d_M_takesNumber_41 (by decide) ?_
            refine lv_isub hx hb d_M_takesNumber_43 ?_
            refine ste h (fun s14 e18 h => ?_)
            refine fp_M_53 C hw hc0 d_M_takesNumber_44 (fun H locs hw => ?_)
            replace hw := HWe hw e18
            refine lv_aload_n hx hb d_M_takesNumber_47 rfl (lv_at hl 0 rfl) ?_
            refine lv_dup hx hb d_M_takesNumber_48 rfl ?_
            refine fg_M_50 C hw hc0 d_M_takesNumber_49 ?_
            refine lv_iconst (v := 1) hx hb d_M_takesNumber_52 (by decide) ?_
            refine lv_iadd hx hb d_M_takesNumber_53 ?_
            refine ste h (fun s16 e17 h => ?_)
            refine fp_M_50 C hw hc0 d_M_takesNumber_54 (fun H locs hw => ?_)
            replace hw := HWe hw e17
            refine lv_iinc (v := (x1 + 1)) (lv' := [(1, .int (x1 + 1)), (0, .ref (g.2.1 c0))]) hx hb d_M_takesNumber_57 hl (k := 1) rfl rfl (by decide) rfl (fun ls hl => ?_)
            refine lv_goto (tgt := 16) hx hb d_M_takesNumber_60 (by decide) ?_
            exact ih (x1 + 1) s16 H locs ls hw (lv_sub hl [1, 0] rfl) ex h kx6 kr6
    refine bnd h (fun x_19 k20 h => ?_)
    refine L6 c0 hc0 FU 0 s5 H locs ls hw (lv_sub hl [1, 0] rfl) x_19 k20 (fun y22 e23 H locs ls hw hl => ?_) trivial
    subst e23
    refine lv_iconst (v := 1) hx hb d_M_takesNumber_63 (by decide) ?_
    exact retZ (b := true) C hw rfl rfl (Option.some.inj h) d_M_takesNumber_64
  · replace h := ifp b3 h
    refine lv_iconst (v := 0) hx hb d_M_takesNumber_7 (by decide) ?_
    exact retZ (b := false) C hw rfl rfl (Option.some.inj h) d_M_takesNumber_8
def f_M_emits (c0 : Nat) (p1 : Int32) (σ : St) : Option (St) := (if ok (vI σ c0 23) 600 = true then (st (sJ σ 14 (upd (vJ σ 14) (nx (vI σ c0 23)) p1)) fun s2 => (st (sI s2 c0 23 ((vI s2 c0 23) + 1)) fun s4 => some s4)) else none)
set_option maxHeartbeats 400000 in
set_option maxRecDepth 20000 in
theorem c_M_emits (g : GX) (c0 : Nat) (hc0 : tg BM c0 20) (p1 : Int32) (σ : St) (q : St) (h : f_M_emits c0 p1 σ = some q) (l : Launch) : CT BM l y_M_emits (v_M_emits :: lwG) 1 [.ref (g.2.1 c0), .int p1] g σ (QV BM g q) := by
  refine mkC (cc := b_M_emits) (maxL := 2) (ret := none) rfl (by decide) rfl (Nat.le_of_ble_eq_true rfl) ?_
  intro p e s m args below meth c A ls C hl hw
  obtain ⟨hx, hb, hr, hml, hown, hts, hK, hE, hA, hlk⟩ := id C
  replace hl : lv_has ls 2 [(0, .ref (g.2.1 c0)), (1, .int p1)] := hl
  obtain ⟨H, hH⟩ : ∃ z, z = s.heap := ⟨_, rfl⟩
  rw [← hH] at hw ⊢
  obtain ⟨locs, hlo⟩ : ∃ z : List Loc, z = [] := ⟨_, rfl⟩
  rw [← hlo] at hw ⊢
  unfold f_M_emits at h
  refine lv_aload_n hx hb d_M_emits_0 rfl (lv_at hl 0 rfl) ?_
  refine fg_M_74 C hw hc0 d_M_emits_1 ?_
  refine lv_aload_n hx hb d_M_emits_4 rfl (lv_at hl 0 rfl) ?_
  refine fg_M_80 C hw hc0 d_M_emits_5 ?_
  refine lv_iload_n hx hb d_M_emits_8 rfl (lv_at hl 1 rfl) ?_
  refine gde h (fun g1 h => ?_)
  refine ste h (fun s2 e6 h => ?_)
  refine stI (n := 600) C hw tM_14 (by decide) g1 d_M_emits_9 (fun H locs hw => ?_)
  replace hw := HWe hw e6
  refine lv_aload_n hx hb d_M_emits_10 rfl (lv_at hl 0 rfl) ?_
  refine lv_dup hx hb d_M_emits_11 rfl ?_
  refine fg_M_80 C hw hc0 d_M_emits_12 ?_
  refine lv_iconst (v := 1) hx hb d_M_emits_15 (by decide) ?_
  refine lv_iadd hx hb d_M_emits_16 ?_
  refine ste h (fun s4 e5 h => ?_)
  refine fp_M_80 C hw hc0 d_M_emits_17 (fun H locs hw => ?_)
  replace hw := HWe hw e5
  exact retV C hw rfl (Option.some.inj h) d_M_emits_20
def f_M_whole_l0 : Nat → Nat → St → Option (St)
  | 0, _, _ => none
  | n + 1, c0, σ => (if (vI σ c0 24) ≤ 0 then some σ else (if ok ((vI σ c0 24) - 1) 101 = true then (if (vJ σ 15 (nx ((vI σ c0 24) - 1))) = 33 then ((f_M_emits c0 (-33) σ).bind fun q5 => (st (sI q5 c0 24 ((vI q5 c0 24) - 1)) fun s8 => (st (sI s8 c0 25 ((vI s8 c0 25) - 1)) fun s10 => (f_M_whole_l0 n c0 s10)))) else some σ) else none))
def f_M_whole (c0 : Nat) (σ : St) : Option (St) := ((f_M_whole_l0 FU c0 σ).bind fun x_13 => some x_13)
set_option maxHeartbeats 400000 in
set_option maxRecDepth 20000 in
theorem c_M_whole (g : GX) (c0 : Nat) (hc0 : tg BM c0 20) (σ : St) (q : St) (h : f_M_whole c0 σ = some q) (l : Launch) : CT BM l y_M_whole (v_M_whole :: lwG) 2 [.ref (g.2.1 c0)] g σ (QV BM g q) := by
  refine mkC (cc := b_M_whole) (maxL := 1) (ret := none) rfl (by decide) rfl (Nat.le_of_ble_eq_true rfl) ?_
  intro p e s m args below meth c A ls C hl hw
  obtain ⟨hx, hb, hr, hml, hown, hts, hK, hE, hA, hlk⟩ := id C
  replace hl : lv_has ls 1 [(0, .ref (g.2.1 c0))] := hl
  obtain ⟨H, hH⟩ : ∃ z, z = s.heap := ⟨_, rfl⟩
  rw [← hH] at hw ⊢
  obtain ⟨locs, hlo⟩ : ∃ z : List Loc, z = [] := ⟨_, rfl⟩
  rw [← hlo] at hw ⊢
  unfold f_M_whole at h
  have L1 : ∀ (c0 : Nat) (hc0 : tg BM c0 20) (n : Nat) (σ : St) (H : Heap) (locs : List Loc) (ls : Array Slot), HW BM g A s σ H locs → lv_has ls 1 [(0, .ref (g.2.1 c0))] → ∀ (ex : St), f_M_whole_l0 n c0 σ = some ex → (∀ (y : St), ex = y → ∀ (H : Heap) (locs : List Loc) (ls : Array Slot), HW BM g A s y H locs → lv_has ls 1 [] → W p l e (rmL 2) s m args below meth c H locs 0 0 (MQ below (QV BM g q A) args s 0 0 A) (F0 m 52 ls [])) → (True) → W p l e (rmL 2) s m args below meth c H locs 0 0 (MQ below (QV BM g q A) args s 0 0 A) (F0 m 0 ls []) := by
    intro c0 hc0 n
    induction n with
    | zero =>
      intro  σ H locs ls hw hl ex h kx1 kr1
      cases h
    | succ n ih =>
      intro  σ H locs ls hw hl ex h kx1 kr1
      rw [f_M_whole_l0] at h
      refine lv_aload_n hx hb d_M_whole_0 rfl (lv_at hl 0 rfl) ?_
      refine fg_M_83 C hw hc0 d_M_whole_1 ?_
      refine lv_if_le (tgt := 52) hx hb d_M_whole_4 (by decide) (fun b2 => ?_) (fun b2 => ?_)
      · replace h := ifp b2 h
        exact kx1 _ (Option.some.inj h).symm H locs ls hw (lv_sub hl [] rfl)
      · replace h := ifn b2 h
        refine lv_aload_n hx hb d_M_whole_7 rfl (lv_at hl 0 rfl) ?_
        refine fg_M_77 C hw hc0 d_M_whole_8 ?_
        refine lv_aload_n hx hb d_M_whole_11 rfl (lv_at hl 0 rfl) ?_
        refine fg_M_83 C hw hc0 d_M_whole_12 ?_
        refine lv_iconst (v := 1) hx hb d_M_whole_15 (by decide) ?_
        refine lv_isub hx hb d_M_whole_16 ?_
        refine gde h (fun g3 h => ?_)
        refine ldI (n := 101) C hw tM_15 (by decide) g3 d_M_whole_17 ?_
        refine lv_bipush (v := 33) hx hb d_M_whole_18 (by decide) ?_
        refine lv_icmp_ne (tgt := 52) hx hb d_M_whole_20 (by decide) (fun b4 => ?_) (fun b4 => ?_)
        · replace h := ifn b4 h
          exact kx1 _ (Option.some.inj h).symm H locs ls hw (lv_sub hl [] rfl)
        · replace h := ifp b4 h
          refine lv_aload_n hx hb d_M_whole_23 rfl (lv_at hl 0 rfl) ?_
          refine lv_bipush (v := (-33)) hx hb d_M_whole_24 (by decide) ?_
          refine bnd h (fun q5 k6 h => ?_)
          refine clV C hw (invV (As := [.int (-33)]) C hw (c_M_emits g c0 hc0 (-33) σ q5 k6 l) rfl wc_M_237 nd_M_emits ⟨by decide, by decide⟩ (rc_M C hw hc0) rfl hl.1 rfl (Nat.le_of_ble_eq_true rfl) d_M_whole_26 ⟨Nat.le_refl _, Nat.le_refl _⟩) (fun H locs hw => ?_)
          refine lv_aload_n hx hb d_M_whole_29 rfl (lv_at hl 0 rfl) ?_
          refine lv_dup hx hb d_M_whole_30 rfl ?_
          refine fg_M_83 C hw hc0 d_M_whole_31 ?_
          refine lv_iconst (v := 1) hx hb d_M_whole_34 (by decide) ?_
          refine lv_isub hx hb d_M_whole_35 ?_
          refine ste h (fun s8 e12 h => ?_)
          refine fp_M_83 C hw hc0 d_M_whole_36 (fun H locs hw => ?_)
          replace hw := HWe hw e12
          refine lv_aload_n hx hb d_M_whole_39 rfl (lv_at hl 0 rfl) ?_
          refine lv_dup hx hb d_M_whole_40 rfl ?_
          refine fg_M_86 C hw hc0 d_M_whole_41 ?_
          refine lv_iconst (v := 1) hx hb d_M_whole_44 (by decide) ?_
          refine lv_isub hx hb d_M_whole_45 ?_
          refine ste h (fun s10 e11 h => ?_)
          refine fp_M_86 C hw hc0 d_M_whole_46 (fun H locs hw => ?_)
          replace hw := HWe hw e11
          refine lv_goto (tgt := 0) hx hb d_M_whole_49 (by decide) ?_
          exact ih s10 H locs ls hw (lv_sub hl [0] rfl) ex h kx1 kr1
  refine bnd h (fun x_13 k14 h => ?_)
  refine L1 c0 hc0 FU σ H locs ls hw (lv_sub hl [0] rfl) x_13 k14 (fun y16 e17 H locs ls hw hl => ?_) trivial
  subst e17
  exact retV C hw rfl (Option.some.inj h) d_M_whole_52
def f_M_settle_l0 : Nat → Nat → Int32 → St → Option (St)
  | 0, _, _, _ => none
  | n + 1, c0, x1, σ => (if (vI σ c0 24) ≤ 0 then some σ else (if ok ((vI σ c0 24) - 1) 101 = true then (if (vJ σ 15 (nx ((vI σ c0 24) - 1))) = 38 then (st (sI σ c0 24 ((vI σ c0 24) - 1)) fun s6 => (if ok (vI s6 c0 24) 101 = true then ((f_M_emits c0 (-(vJ s6 15 (nx (vI s6 c0 24)))) s6).bind fun q8 => (f_M_settle_l0 n c0 x1 q8)) else none)) else (if ok ((vI σ c0 24) - 1) 101 = true then (if (vJ σ 15 (nx ((vI σ c0 24) - 1))) = 124 then (if x1 = 38 then some σ else (st (sI σ c0 24 ((vI σ c0 24) - 1)) fun s15 => (if ok (vI s15 c0 24) 101 = true then ((f_M_emits c0 (-(vJ s15 15 (nx (vI s15 c0 24)))) s15).bind fun q17 => (f_M_settle_l0 n c0 x1 q17)) else none))) else some σ) else none)) else none))
def f_M_settle (c0 : Nat) (p1 : Int32) (σ : St) : Option (St) := ((f_M_settle_l0 FU c0 p1 σ).bind fun x_20 => some x_20)
set_option maxHeartbeats 400000 in
set_option maxRecDepth 20000 in
theorem c_M_settle (g : GX) (c0 : Nat) (hc0 : tg BM c0 20) (p1 : Int32) (σ : St) (q : St) (h : f_M_settle c0 p1 σ = some q) (l : Launch) : CT BM l y_M_settle (v_M_settle :: lwG) 2 [.ref (g.2.1 c0), .int p1] g σ (QV BM g q) := by
  refine mkC (cc := b_M_settle) (maxL := 2) (ret := none) rfl (by decide) rfl (Nat.le_of_ble_eq_true rfl) ?_
  intro p e s m args below meth c A ls C hl hw
  obtain ⟨hx, hb, hr, hml, hown, hts, hK, hE, hA, hlk⟩ := id C
  replace hl : lv_has ls 2 [(0, .ref (g.2.1 c0)), (1, .int p1)] := hl
  obtain ⟨H, hH⟩ : ∃ z, z = s.heap := ⟨_, rfl⟩
  rw [← hH] at hw ⊢
  obtain ⟨locs, hlo⟩ : ∃ z : List Loc, z = [] := ⟨_, rfl⟩
  rw [← hlo] at hw ⊢
  unfold f_M_settle at h
  have L1 : ∀ (c0 : Nat) (hc0 : tg BM c0 20) (x1 : Int32) (n : Nat) (σ : St) (H : Heap) (locs : List Loc) (ls : Array Slot), HW BM g A s σ H locs → lv_has ls 2 [(0, .ref (g.2.1 c0)), (1, .int x1)] → ∀ (ex : St), f_M_settle_l0 n c0 x1 σ = some ex → (∀ (y : St), ex = y → ∀ (H : Heap) (locs : List Loc) (ls : Array Slot), HW BM g A s y H locs → lv_has ls 2 [] → W p l e (rmL 2) s m args below meth c H locs 0 0 (MQ below (QV BM g q A) args s 0 0 A) (F0 m 72 ls [])) → (True) → W p l e (rmL 2) s m args below meth c H locs 0 0 (MQ below (QV BM g q A) args s 0 0 A) (F0 m 0 ls []) := by
    intro c0 hc0 x1 n
    induction n with
    | zero =>
      intro  σ H locs ls hw hl ex h kx1 kr1
      cases h
    | succ n ih =>
      intro  σ H locs ls hw hl ex h kx1 kr1
      rw [f_M_settle_l0] at h
      refine lv_aload_n hx hb d_M_settle_0 rfl (lv_at hl 0 rfl) ?_
      refine fg_M_83 C hw hc0 d_M_settle_1 ?_
      refine lv_if_le (tgt := 72) hx hb d_M_settle_4 (by decide) (fun b2 => ?_) (fun b2 => ?_)
      · replace h := ifp b2 h
        exact kx1 _ (Option.some.inj h).symm H locs ls hw (lv_sub hl [] rfl)
      · replace h := ifn b2 h
        refine lv_aload_n hx hb d_M_settle_7 rfl (lv_at hl 0 rfl) ?_
        refine fg_M_77 C hw hc0 d_M_settle_8 ?_
        refine lv_aload_n hx hb d_M_settle_11 rfl (lv_at hl 0 rfl) ?_
        refine fg_M_83 C hw hc0 d_M_settle_12 ?_
        refine lv_iconst (v := 1) hx hb d_M_settle_15 (by decide) ?_
        refine lv_isub hx hb d_M_settle_16 ?_
        refine gde h (fun g3 h => ?_)
        refine ldI (n := 101) C hw tM_15 (by decide) g3 d_M_settle_17 ?_
        refine lv_bipush (v := 38) hx hb d_M_settle_18 (by decide) ?_
        refine lv_icmp_eq (tgt := 45) hx hb d_M_settle_20 (by decide) (fun b4 => ?_) (fun b4 => ?_)
        · replace h := ifp b4 h
          refine lv_aload_n hx hb d_M_settle_45 rfl (lv_at hl 0 rfl) ?_
          refine lv_dup hx hb d_M_settle_46 rfl ?_
          refine fg_M_83 C hw hc0 d_M_settle_47 ?_
          refine lv_iconst (v := 1) hx hb d_M_settle_50 (by decide) ?_
          refine lv_isub hx hb d_M_settle_51 ?_
          refine ste h (fun s6 e10 h => ?_)
          refine fp_M_83 C hw hc0 d_M_settle_52 (fun H locs hw => ?_)
          replace hw := HWe hw e10
          refine lv_aload_n hx hb d_M_settle_55 rfl (lv_at hl 0 rfl) ?_
          refine lv_aload_n hx hb d_M_settle_56 rfl (lv_at hl 0 rfl) ?_
          refine fg_M_77 C hw hc0 d_M_settle_57 ?_
          refine lv_aload_n hx hb d_M_settle_60 rfl (lv_at hl 0 rfl) ?_
          refine fg_M_83 C hw hc0 d_M_settle_61 ?_
          refine gde h (fun g7 h => ?_)
          refine ldI (n := 101) C hw tM_15 (by decide) g7 d_M_settle_64 ?_
          refine lv_ineg hx hb d_M_settle_65 ?_
          refine bnd h (fun q8 k9 h => ?_)
          refine clV C hw (invV (As := [.int (-(vJ s6 15 (nx (vI s6 c0 24))))]) C hw (c_M_emits g c0 hc0 (-(vJ s6 15 (nx (vI s6 c0 24)))) s6 q8 k9 l) rfl wc_M_237 nd_M_emits ⟨by decide, by decide⟩ (rc_M C hw hc0) rfl hl.1 rfl (Nat.le_of_ble_eq_true rfl) d_M_settle_66 ⟨Nat.le_refl _, Nat.le_refl _⟩) (fun H locs hw => ?_)
          refine lv_goto (tgt := 0) hx hb d_M_settle_69 (by decide) ?_
          exact ih q8 H locs ls hw (lv_sub hl [0, 1] rfl) ex h kx1 kr1
        · replace h := ifn b4 h
          refine lv_aload_n hx hb d_M_settle_23 rfl (lv_at hl 0 rfl) ?_
          refine fg_M_77 C hw hc0 d_M_settle_24 ?_
          refine lv_aload_n hx hb d_M_settle_27 rfl (lv_at hl 0 rfl) ?_
          refine fg_M_83 C hw hc0 d_M_settle_28 ?_
          refine lv_iconst (v := 1) hx hb d_M_settle_31 (by decide) ?_
          refine lv_isub hx hb d_M_settle_32 ?_
          refine gde h (fun g11 h => ?_)
          refine ldI (n := 101) C hw tM_15 (by decide) g11 d_M_settle_33 ?_
          refine lv_bipush (v := 124) hx hb d_M_settle_34 (by decide) ?_
          refine lv_icmp_ne (tgt := 72) hx hb d_M_settle_36 (by decide) (fun b12 => ?_) (fun b12 => ?_)
          · replace h := ifn b12 h
            exact kx1 _ (Option.some.inj h).symm H locs ls hw (lv_sub hl [] rfl)
          · replace h := ifp b12 h
            refine lv_iload_n hx hb d_M_settle_39 rfl (lv_at hl 1 rfl) ?_
            refine lv_bipush (v := 38) hx hb d_M_settle_40 (by decide) ?_
            refine lv_icmp_eq (tgt := 72) hx hb d_M_settle_42 (by decide) (fun b13 => ?_) (fun b13 => ?_)
            · replace h := ifp b13 h
              exact kx1 _ (Option.some.inj h).symm H locs ls hw (lv_sub hl [] rfl)
            · replace h := ifn b13 h
              refine lv_aload_n hx hb d_M_settle_45 rfl (lv_at hl 0 rfl) ?_
              refine lv_dup hx hb d_M_settle_46 rfl ?_
              refine fg_M_83 C hw hc0 d_M_settle_47 ?_
              refine lv_iconst (v := 1) hx hb d_M_settle_50 (by decide) ?_
              refine lv_isub hx hb d_M_settle_51 ?_
              refine ste h (fun s15 e19 h => ?_)
              refine fp_M_83 C hw hc0 d_M_settle_52 (fun H locs hw => ?_)
              replace hw := HWe hw e19
              refine lv_aload_n hx hb d_M_settle_55 rfl (lv_at hl 0 rfl) ?_
              refine lv_aload_n hx hb d_M_settle_56 rfl (lv_at hl 0 rfl) ?_
              refine fg_M_77 C hw hc0 d_M_settle_57 ?_
              refine lv_aload_n hx hb d_M_settle_60 rfl (lv_at hl 0 rfl) ?_
              refine fg_M_83 C hw hc0 d_M_settle_61 ?_
              refine gde h (fun g16 h => ?_)
              refine ldI (n := 101) C hw tM_15 (by decide) g16 d_M_settle_64 ?_
              refine lv_ineg hx hb d_M_settle_65 ?_
              refine bnd h (fun q17 k18 h => ?_)
              refine clV C hw (invV (As := [.int (-(vJ s15 15 (nx (vI s15 c0 24))))]) C hw (c_M_emits g c0 hc0 (-(vJ s15 15 (nx (vI s15 c0 24)))) s15 q17 k18 l) rfl wc_M_237 nd_M_emits ⟨by decide, by decide⟩ (rc_M C hw hc0) rfl hl.1 rfl (Nat.le_of_ble_eq_true rfl) d_M_settle_66 ⟨Nat.le_refl _, Nat.le_refl _⟩) (fun H locs hw => ?_)
              refine lv_goto (tgt := 0) hx hb d_M_settle_69 (by decide) ?_
              exact ih q17 H locs ls hw (lv_sub hl [0, 1] rfl) ex h kx1 kr1
  refine bnd h (fun x_20 k21 h => ?_)
  refine L1 c0 hc0 p1 FU σ H locs ls hw (lv_sub hl [0, 1] rfl) x_20 k21 (fun y23 e24 H locs ls hw hl => ?_) trivial
  subst e24
  exact retV C hw rfl (Option.some.inj h) d_M_settle_72
def f_M_place (c0 : Nat) (p1 : Int32) : Int32 := (if p1 = 100 then 4 else (if p1 = 101 then (-1) else (if p1 = 102 then 5 else (if p1 = 103 then 3 else (if p1 = 104 then (-1) else (if p1 = 105 then (-1) else (if p1 = 106 then (-1) else (if p1 = 107 then 1 else (if p1 = 108 then (-1) else (if p1 = 109 then (-1) else (if p1 = 110 then (-1) else (if p1 = 111 then (-1) else (if p1 = 112 then 0 else (if p1 = 113 then (-1) else (if p1 = 114 then (-1) else (if p1 = 115 then (-1) else (if p1 = 116 then (-1) else (if p1 = 117 then (-1) else (if p1 = 118 then 2 else (-1))))))))))))))))))))
set_option maxHeartbeats 400000 in
set_option maxRecDepth 20000 in
theorem c_M_place (g : GX) (c0 : Nat) (hc0 : tg BM c0 20) (p1 : Int32) (σ : St) (l : Launch) : CT BM l y_M_place (v_M_place :: lwG) 1 [.ref (g.2.1 c0), .int p1] g σ (QI BM g (f_M_place c0 p1, σ)) := by
  generalize h : f_M_place c0 p1 = q
  refine mkC (cc := b_M_place) (maxL := 2) (ret := (some .int)) rfl (by decide) rfl (Nat.le_of_ble_eq_true rfl) ?_
  intro p e s m args below meth c A ls C hl hw
  obtain ⟨hx, hb, hr, hml, hown, hts, hK, hE, hA, hlk⟩ := id C
  replace hl : lv_has ls 2 [(0, .ref (g.2.1 c0)), (1, .int p1)] := hl
  obtain ⟨H, hH⟩ : ∃ z, z = s.heap := ⟨_, rfl⟩
  rw [← hH] at hw ⊢
  obtain ⟨locs, hlo⟩ : ∃ z : List Loc, z = [] := ⟨_, rfl⟩
  rw [← hlo] at hw ⊢
  unfold f_M_place at h
  refine lv_iload_n hx hb d_M_place_0 rfl (lv_at hl 1 rfl) ?_
  by_cases b1 : p1 = 100
  · replace h := ifp b1 h
    refine swIn (k := 100) (tgt := 100) C b1 d_M_place_1 (by decide) rfl (by decide) ?_
    refine lv_iconst (v := 4) hx hb d_M_place_100 (by decide) ?_
    exact retI C hw rfl (congrArg (fun z => (z, σ)) h) d_M_place_101
  · replace h := ifn b1 h
    by_cases b2 : p1 = 101
    · replace h := ifp b2 h
      refine swIn (k := 101) (tgt := 104) C b2 d_M_place_1 (by decide) rfl (by decide) ?_
      refine lv_iconst (v := (-1)) hx hb d_M_place_104 (by decide) ?_
      exact retI C hw rfl (congrArg (fun z => (z, σ)) h) d_M_place_105
    · replace h := ifn b2 h
      by_cases b3 : p1 = 102
      · replace h := ifp b3 h
        refine swIn (k := 102) (tgt := 102) C b3 d_M_place_1 (by decide) rfl (by decide) ?_
        refine lv_iconst (v := 5) hx hb d_M_place_102 (by decide) ?_
        exact retI C hw rfl (congrArg (fun z => (z, σ)) h) d_M_place_103
      · replace h := ifn b3 h
        by_cases b4 : p1 = 103
        · replace h := ifp b4 h
          refine swIn (k := 103) (tgt := 98) C b4 d_M_place_1 (by decide) rfl (by decide) ?_
          refine lv_iconst (v := 3) hx hb d_M_place_98 (by decide) ?_
          exact retI C hw rfl (congrArg (fun z => (z, σ)) h) d_M_place_99
        · replace h := ifn b4 h
          by_cases b5 : p1 = 104
          · replace h := ifp b5 h
            refine swIn (k := 104) (tgt := 104) C b5 d_M_place_1 (by decide) rfl (by decide) ?_
            refine lv_iconst (v := (-1)) hx hb d_M_place_104 (by decide) ?_
            exact retI C hw rfl (congrArg (fun z => (z, σ)) h) d_M_place_105
          · replace h := ifn b5 h
            by_cases b6 : p1 = 105
            · replace h := ifp b6 h
              refine swIn (k := 105) (tgt := 104) C b6 d_M_place_1 (by decide) rfl (by decide) ?_
              refine lv_iconst (v := (-1)) hx hb d_M_place_104 (by decide) ?_
              exact retI C hw rfl (congrArg (fun z => (z, σ)) h) d_M_place_105
            · replace h := ifn b6 h
              by_cases b7 : p1 = 106
              · replace h := ifp b7 h
                refine swIn (k := 106) (tgt := 104) C b7 d_M_place_1 (by decide) rfl (by decide) ?_
                refine lv_iconst (v := (-1)) hx hb d_M_place_104 (by decide) ?_
                exact retI C hw rfl (congrArg (fun z => (z, σ)) h) d_M_place_105
              · replace h := ifn b7 h
                by_cases b8 : p1 = 107
                · replace h := ifp b8 h
                  refine swIn (k := 107) (tgt := 94) C b8 d_M_place_1 (by decide) rfl (by decide) ?_
                  refine lv_iconst (v := 1) hx hb d_M_place_94 (by decide) ?_
                  exact retI C hw rfl (congrArg (fun z => (z, σ)) h) d_M_place_95
                · replace h := ifn b8 h
                  by_cases b9 : p1 = 108
                  · replace h := ifp b9 h
                    refine swIn (k := 108) (tgt := 104) C b9 d_M_place_1 (by decide) rfl (by decide) ?_
                    refine lv_iconst (v := (-1)) hx hb d_M_place_104 (by decide) ?_
                    exact retI C hw rfl (congrArg (fun z => (z, σ)) h) d_M_place_105
                  · replace h := ifn b9 h
                    by_cases b10 : p1 = 109
                    · replace h := ifp b10 h
                      refine swIn (k := 109) (tgt := 104) C b10 d_M_place_1 (by decide) rfl (by decide) ?_
                      refine lv_iconst (v := (-1)) hx hb d_M_place_104 (by decide) ?_
                      exact retI C hw rfl (congrArg (fun z => (z, σ)) h) d_M_place_105
                    · replace h := ifn b10 h
                      by_cases b11 : p1 = 110
                      · replace h := ifp b11 h
                        refine swIn (k := 110) (tgt := 104) C b11 d_M_place_1 (by decide) rfl (by decide) ?_
                        refine lv_iconst (v := (-1)) hx hb d_M_place_104 (by decide) ?_
                        exact retI C hw rfl (congrArg (fun z => (z, σ)) h) d_M_place_105
                      · replace h := ifn b11 h
                        by_cases b12 : p1 = 111
                        · replace h := ifp b12 h
                          refine swIn (k := 111) (tgt := 104) C b12 d_M_place_1 (by decide) rfl (by decide) ?_
                          refine lv_iconst (v := (-1)) hx hb d_M_place_104 (by decide) ?_
                          exact retI C hw rfl (congrArg (fun z => (z, σ)) h) d_M_place_105
                        · replace h := ifn b12 h
                          by_cases b13 : p1 = 112
                          · replace h := ifp b13 h
                            refine swIn (k := 112) (tgt := 92) C b13 d_M_place_1 (by decide) rfl (by decide) ?_
                            refine lv_iconst (v := 0) hx hb d_M_place_92 (by decide) ?_
                            exact retI C hw rfl (congrArg (fun z => (z, σ)) h) d_M_place_93
                          · replace h := ifn b13 h
                            by_cases b14 : p1 = 113
                            · replace h := ifp b14 h
                              refine swIn (k := 113) (tgt := 104) C b14 d_M_place_1 (by decide) rfl (by decide) ?_
                              refine lv_iconst (v := (-1)) hx hb d_M_place_104 (by decide) ?_
                              exact retI C hw rfl (congrArg (fun z => (z, σ)) h) d_M_place_105
                            · replace h := ifn b14 h
                              by_cases b15 : p1 = 114
                              · replace h := ifp b15 h
                                refine swIn (k := 114) (tgt := 104) C b15 d_M_place_1 (by decide) rfl (by decide) ?_
                                refine lv_iconst (v := (-1)) hx hb d_M_place_104 (by decide) ?_
                                exact retI C hw rfl (congrArg (fun z => (z, σ)) h) d_M_place_105
                              · replace h := ifn b15 h
                                by_cases b16 : p1 = 115
                                · replace h := ifp b16 h
                                  refine swIn (k := 115) (tgt := 104) C b16 d_M_place_1 (by decide) rfl (by decide) ?_
                                  refine lv_iconst (v := (-1)) hx hb d_M_place_104 (by decide) ?_
                                  exact retI C hw rfl (congrArg (fun z => (z, σ)) h) d_M_place_105
                                · replace h := ifn b16 h
                                  by_cases b17 : p1 = 116
                                  · replace h := ifp b17 h
                                    refine swIn (k := 116) (tgt := 104) C b17 d_M_place_1 (by decide) rfl (by decide) ?_
                                    refine lv_iconst (v := (-1)) hx hb d_M_place_104 (by decide) ?_
                                    exact retI C hw rfl (congrArg (fun z => (z, σ)) h) d_M_place_105
                                  · replace h := ifn b17 h
                                    by_cases b18 : p1 = 117
                                    · replace h := ifp b18 h
                                      refine swIn (k := 117) (tgt := 104) C b18 d_M_place_1 (by decide) rfl (by decide) ?_
                                      refine lv_iconst (v := (-1)) hx hb d_M_place_104 (by decide) ?_
                                      exact retI C hw rfl (congrArg (fun z => (z, σ)) h) d_M_place_105
                                    · replace h := ifn b18 h
                                      by_cases b19 : p1 = 118
                                      · replace h := ifp b19 h
                                        refine swIn (k := 118) (tgt := 96) C b19 d_M_place_1 (by decide) rfl (by decide) ?_
                                        refine lv_iconst (v := 2) hx hb d_M_place_96 (by decide) ?_
                                        exact retI C hw rfl (congrArg (fun z => (z, σ)) h) d_M_place_97
                                      · replace h := ifn b19 h
                                        refine swOut (tgt := 104) C d_M_place_1 (fun z9 l9 h9 e9 => ?_) (by decide) ?_
                                        · have e10 : z9 = 100 ∨ z9 = 101 ∨ z9 = 102 ∨ z9 = 103 ∨ z9 = 104 ∨ z9 = 105 ∨ z9 = 106 ∨ z9 = 107 ∨ z9 = 108 ∨ z9 = 109 ∨ z9 = 110 ∨ z9 = 111 ∨ z9 = 112 ∨ z9 = 113 ∨ z9 = 114 ∨ z9 = 115 ∨ z9 = 116 ∨ z9 = 117 ∨ z9 = 118 := by omega
                                          rcases e10 with e10 | e10 | e10 | e10 | e10 | e10 | e10 | e10 | e10 | e10 | e10 | e10 | e10 | e10 | e10 | e10 | e10 | e10 | e10
                                          · exact lv_neT b1 (by decide) (e9.trans e10)
                                          · exact lv_neT b2 (by decide) (e9.trans e10)
                                          · exact lv_neT b3 (by decide) (e9.trans e10)
                                          · exact lv_neT b4 (by decide) (e9.trans e10)
                                          · exact lv_neT b5 (by decide) (e9.trans e10)
                                          · exact lv_neT b6 (by decide) (e9.trans e10)
                                          · exact lv_neT b7 (by decide) (e9.trans e10)
                                          · exact lv_neT b8 (by decide) (e9.trans e10)
                                          · exact lv_neT b9 (by decide) (e9.trans e10)
                                          · exact lv_neT b10 (by decide) (e9.trans e10)
                                          · exact lv_neT b11 (by decide) (e9.trans e10)
                                          · exact lv_neT b12 (by decide) (e9.trans e10)
                                          · exact lv_neT b13 (by decide) (e9.trans e10)
                                          · exact lv_neT b14 (by decide) (e9.trans e10)
                                          · exact lv_neT b15 (by decide) (e9.trans e10)
                                          · exact lv_neT b16 (by decide) (e9.trans e10)
                                          · exact lv_neT b17 (by decide) (e9.trans e10)
                                          · exact lv_neT b18 (by decide) (e9.trans e10)
                                          · exact lv_neT b19 (by decide) (e9.trans e10)
                                        · refine lv_iconst (v := (-1)) hx hb d_M_place_104 (by decide) ?_
                                          exact retI C hw rfl (congrArg (fun z => (z, σ)) h) d_M_place_105
def f_M_takesTest (c0 : Nat) (σ : St) : Option (Bool × St) := ((f_M_peek c0 σ).bind fun q1 => (if 0 ≤ (f_M_place c0 q1) then (st (sI σ c0 13 ((vI σ c0 13) + 1)) fun s5 => ((f_M_peek c0 s5).bind fun q6 => (if (f_M_in c0 q6 60 62) = false then some (false, s5) else (st (sI s5 c0 13 ((vI s5 c0 13) + 1)) fun s10 => ((f_M_takesNumber c0 s10).bind fun q11 => (if q11.1 = false then some (false, q11.2) else ((f_M_emits c0 (((1000 * (f_M_place c0 q1)) + (100 * (q6 - 60))) + (vI q11.2 c0 14)) q11.2).bind fun q14 => ((f_M_whole c0 q14).bind fun q16 => some (true, q16))))))))) else some (false, σ)))
set_option maxHeartbeats 400000 in
set_option maxRecDepth 20000 in
theorem c_M_takesTest (g : GX) (c0 : Nat) (hc0 : tg BM c0 20) (σ : St) (q : Bool × St) (h : f_M_takesTest c0 σ = some q) (l : Launch) : CT BM l y_M_takesTest (v_M_takesTest :: lwG) 4 [.ref (g.2.1 c0)] g σ (QZ BM g q) := by
  refine mkC (cc := b_M_takesTest) (maxL := 3) (ret := (some .boolean)) rfl (by decide) rfl (Nat.le_of_ble_eq_true rfl) ?_
  intro p e s m args below meth c A ls C hl hw
  obtain ⟨hx, hb, hr, hml, hown, hts, hK, hE, hA, hlk⟩ := id C
  replace hl : lv_has ls 3 [(0, .ref (g.2.1 c0))] := hl
  obtain ⟨H, hH⟩ : ∃ z, z = s.heap := ⟨_, rfl⟩
  rw [← hH] at hw ⊢
  obtain ⟨locs, hlo⟩ : ∃ z : List Loc, z = [] := ⟨_, rfl⟩
  rw [← hlo] at hw ⊢
  unfold f_M_takesTest at h
  refine lv_aload_n hx hb d_M_takesTest_0 rfl (lv_at hl 0 rfl) ?_
  refine lv_aload_n hx hb d_M_takesTest_1 rfl (lv_at hl 0 rfl) ?_
  refine bnd h (fun q1 k2 h => ?_)
  refine clI0 (v := q1) C hw (invV (As := []) C hw (c_M_peek g c0 hc0 σ q1 k2 l) rfl wc_M_226 nd_M_peek ⟨by decide, by decide⟩ (rc_M C hw hc0) rfl hl.1 rfl (Nat.le_of_ble_eq_true rfl) d_M_takesTest_2 ⟨Nat.le_refl _, Nat.le_refl _⟩) (fun H locs hw => ?_)
  refine clI0 (v := (f_M_place c0 q1)) C hw (invV (As := [.int q1]) C hw (c_M_place g c0 hc0 q1 σ l) rfl wc_M_241 nd_M_place ⟨by decide, by decide⟩ (rc_M C hw hc0) rfl hl.1 rfl (Nat.le_of_ble_eq_true rfl) d_M_takesTest_5 ⟨Nat.le_refl _, Nat.le_refl _⟩) (fun H locs hw => ?_)
  refine lv_istore_n (lv' := [(1, .int (f_M_place c0 q1)), (0, .ref (g.2.1 c0))]) hx hb d_M_takesTest_8 rfl hl (by decide) rfl (fun ls hl => ?_)
  refine lv_iload_n hx hb d_M_takesTest_9 rfl (lv_at hl 0 rfl) ?_
  refine lv_if_ge (tgt := 15) hx hb d_M_takesTest_10 (by decide) (fun b3 => ?_) (fun b3 => ?_)
  · replace h := ifp b3 h
    refine lv_aload_n hx hb d_M_takesTest_15 rfl (lv_at hl 1 rfl) ?_
    refine lv_dup hx hb d_M_takesTest_16 rfl ?_
    refine fg_M_50 C hw hc0 d_M_takesTest_17 ?_
    refine lv_iconst (v := 1) hx hb d_M_takesTest_20 (by decide) ?_
    refine lv_iadd hx hb d_M_takesTest_21 ?_
    refine ste h (fun s5 e19 h => ?_)
    refine fp_M_50 C hw hc0 d_M_takesTest_22 (fun H locs hw => ?_)
    replace hw := HWe hw e19
    refine lv_aload_n hx hb d_M_takesTest_25 rfl (lv_at hl 1 rfl) ?_
    refine bnd h (fun q6 k7 h => ?_)
    refine clI0 (v := q6) C hw (invV (As := []) C hw (c_M_peek g c0 hc0 s5 q6 k7 l) rfl wc_M_226 nd_M_peek ⟨by decide, by decide⟩ (rc_M C hw hc0) rfl hl.1 rfl (Nat.le_of_ble_eq_true rfl) d_M_takesTest_26 ⟨Nat.le_refl _, Nat.le_refl _⟩) (fun H locs hw => ?_)
    refine lv_istore_n (lv' := [(2, .int q6), (1, .int (f_M_place c0 q1)), (0, .ref (g.2.1 c0))]) hx hb d_M_takesTest_29 rfl hl (by decide) rfl (fun ls hl => ?_)
    refine lv_aload_n hx hb d_M_takesTest_30 rfl (lv_at hl 2 rfl) ?_
    refine lv_iload_n hx hb d_M_takesTest_31 rfl (lv_at hl 0 rfl) ?_
    refine lv_bipush (v := 60) hx hb d_M_takesTest_32 (by decide) ?_
    refine lv_bipush (v := 62) hx hb d_M_takesTest_34 (by decide) ?_
    refine clZ0 (v := (f_M_in c0 q6 60 62)) C hw (invV (As := [.int q6, .int 60, .int 62]) C hw (c_M_in g c0 hc0 q6 60 62 s5 l) rfl wc_M_218 nd_M_in ⟨by decide, by decide⟩ (rc_M C hw hc0) rfl hl.1 rfl (Nat.le_of_ble_eq_true rfl) d_M_takesTest_36 ⟨Nat.le_refl _, Nat.le_refl _⟩) (fun H locs hw => ?_)
    refine ifnB (tgt := 44) C d_M_takesTest_39 (by decide) (fun b8 => ?_) (fun b8 => ?_)
    · replace h := ifn b8 h
      refine lv_aload_n hx hb d_M_takesTest_44 rfl (lv_at hl 2 rfl) ?_
      refine lv_dup hx hb d_M_takesTest_45 rfl ?_
      refine fg_M_50 C hw hc0 d_M_takesTest_46 ?_
      refine lv_iconst (v := 1) hx hb d_M_takesTest_49 (by decide) ?_
      refine lv_iadd hx hb d_M_takesTest_50 ?_
      refine ste h (fun s10 e18 h => ?_)
      refine fp_M_50 C hw hc0 d_M_takesTest_51 (fun H locs hw => ?_)
      replace hw := HWe hw e18
      refine lv_aload_n hx hb d_M_takesTest_54 rfl (lv_at hl 2 rfl) ?_
      refine bnd h (fun q11 k12 h => ?_)
      refine clZ C hw (invV (As := []) C hw (c_M_takesNumber g c0 hc0 s10 q11 k12 l) rfl wc_M_245 nd_M_takesNumber ⟨by decide, by decide⟩ (rc_M C hw hc0) rfl hl.1 rfl (Nat.le_of_ble_eq_true rfl) d_M_takesTest_55 ⟨Nat.le_refl _, Nat.le_refl _⟩) (fun H locs hw => ?_)
      refine ifnB (tgt := 63) C d_M_takesTest_58 (by decide) (fun b13 => ?_) (fun b13 => ?_)
      · replace h := ifn b13 h
        refine lv_aload_n hx hb d_M_takesTest_63 rfl (lv_at hl 2 rfl) ?_
        refine lv_sipush (v := 1000) hx hb d_M_takesTest_64 (by decide) ?_
        refine lv_iload_n hx hb d_M_takesTest_67 rfl (lv_at hl 1 rfl) ?_
        refine lv_imul hx hb d_M_takesTest_68 ?_
        refine lv_bipush (v := 100) hx hb d_M_takesTest_69 (by decide) ?_
        refine lv_iload_n hx hb d_M_takesTest_71 rfl (lv_at hl 0 rfl) ?_
        refine lv_bipush (v := 60) hx hb d_M_takesTest_72 (by decide) ?_
        refine lv_isub hx hb d_M_takesTest_74 ?_
        refine lv_imul hx hb d_M_takesTest_75 ?_
        refine lv_iadd hx hb d_M_takesTest_76 ?_
        refine lv_aload_n hx hb d_M_takesTest_77 rfl (lv_at hl 2 rfl) ?_
        refine fg_M_53 C hw hc0 d_M_takesTest_78 ?_
        refine lv_iadd hx hb d_M_takesTest_81 ?_
        refine bnd h (fun q14 k15 h => ?_)
        refine clV C hw (invV (As := [.int (((1000 * (f_M_place c0 q1)) + (100 * (q6 - 60))) + (vI q11.2 c0 14))]) C hw (c_M_emits g c0 hc0 (((1000 * (f_M_place c0 q1)) + (100 * (q6 - 60))) + (vI q11.2 c0 14)) q11.2 q14 k15 l) rfl wc_M_237 nd_M_emits ⟨by decide, by decide⟩ (rc_M C hw hc0) rfl hl.1 rfl (Nat.le_of_ble_eq_true rfl) d_M_takesTest_82 ⟨Nat.le_refl _, Nat.le_refl _⟩) (fun H locs hw => ?_)
        refine lv_aload_n hx hb d_M_takesTest_85 rfl (lv_at hl 2 rfl) ?_
        refine bnd h (fun q16 k17 h => ?_)
        refine clV C hw (invV (As := []) C hw (c_M_whole g c0 hc0 q14 q16 k17 l) rfl wc_M_248 nd_M_whole ⟨by decide, by decide⟩ (rc_M C hw hc0) rfl hl.1 rfl (Nat.le_of_ble_eq_true rfl) d_M_takesTest_86 ⟨Nat.le_refl _, Nat.le_refl _⟩) (fun H locs hw => ?_)
        refine lv_iconst (v := 1) hx hb d_M_takesTest_89 (by decide) ?_
        exact retZ (b := true) C hw rfl rfl (Option.some.inj h) d_M_takesTest_90
      · replace h := ifp b13 h
        refine lv_iconst (v := 0) hx hb d_M_takesTest_61 (by decide) ?_
        exact retZ (b := false) C hw rfl rfl (Option.some.inj h) d_M_takesTest_62
    · replace h := ifp b8 h
      refine lv_iconst (v := 0) hx hb d_M_takesTest_42 (by decide) ?_
      exact retZ (b := false) C hw rfl rfl (Option.some.inj h) d_M_takesTest_43
  · replace h := ifn b3 h
    refine lv_iconst (v := 0) hx hb d_M_takesTest_13 (by decide) ?_
    exact retZ (b := false) C hw rfl rfl (Option.some.inj h) d_M_takesTest_14
def f_M_takesE_l22 : Nat → Nat → Int32 → Int32 → St → Option ((Unit) ⊕ (Bool × St))
  | 0, _, _, _, _ => none
  | n + 1, c0, x1, x2, σ => ((f_M_peek c0 σ).bind fun q8 => (if x2 = 0 then (if q8 = 38 then ((f_M_settle c0 q8 σ).bind fun q12 => (if ok (vI q12 c0 24) 101 = true then (st (sJ q12 15 (upd (vJ q12 15) (nx (vI q12 c0 24)) q8)) fun s15 => (st (sI s15 c0 24 ((vI s15 c0 24) + 1)) fun s17 => (st (sI s17 c0 13 ((vI s17 c0 13) + 1)) fun s19 => (f_M_takesE_l22 n c0 x1 1 s19)))) else none)) else (if q8 = 124 then ((f_M_settle c0 q8 σ).bind fun q42 => (if ok (vI q42 c0 24) 101 = true then (st (sJ q42 15 (upd (vJ q42 15) (nx (vI q42 c0 24)) q8)) fun s45 => (st (sI s45 c0 24 ((vI s45 c0 24) + 1)) fun s47 => (st (sI s47 c0 13 ((vI s47 c0 13) + 1)) fun s49 => (f_M_takesE_l22 n c0 x1 1 s49)))) else none)) else ((f_M_settle c0 124 σ).bind fun q24 => (if ok x1 60 = true then (st (sJ q24 13 (upd (vJ q24 13) (nx x1) (vI q24 c0 23))) fun s27 => (if (vI s27 c0 24) = 0 then some (Sum.inr (true, s27)) else (if q8 = 41 then (st (sI s27 c0 24 ((vI s27 c0 24) - 1)) fun s31 => (st (sI s31 c0 25 ((vI s31 c0 25) - 1)) fun s33 => (st (sI s33 c0 13 ((vI s33 c0 13) + 1)) fun s35 => ((f_M_whole c0 s35).bind fun q36 => (f_M_takesE_l22 n c0 x1 x2 q36))))) else some (Sum.inr (false, s27))))) else none)))) else (if q8 = 33 then (if (vI σ c0 25) = 4 then some (Sum.inr (false, σ)) else (st (sI σ c0 25 ((vI σ c0 25) + 1)) fun s56 => (if ok (vI s56 c0 24) 101 = true then (st (sJ s56 15 (upd (vJ s56 15) (nx (vI s56 c0 24)) q8)) fun s58 => (st (sI s58 c0 24 ((vI s58 c0 24) + 1)) fun s60 => (st (sI s60 c0 13 ((vI s60 c0 13) + 1)) fun s62 => (f_M_takesE_l22 n c0 x1 x2 s62)))) else none))) else (if q8 = 40 then (if (vI σ c0 25) = 4 then some (Sum.inr (false, σ)) else (st (sI σ c0 25 ((vI σ c0 25) + 1)) fun s73 => (if ok (vI s73 c0 24) 101 = true then (st (sJ s73 15 (upd (vJ s73 15) (nx (vI s73 c0 24)) q8)) fun s75 => (st (sI s75 c0 24 ((vI s75 c0 24) + 1)) fun s77 => (st (sI s77 c0 13 ((vI s77 c0 13) + 1)) fun s79 => (f_M_takesE_l22 n c0 x1 x2 s79)))) else none))) else ((f_M_takesTest c0 σ).bind fun q68 => (if q68.1 = false then some (Sum.inr (false, q68.2)) else (f_M_takesE_l22 n c0 x1 0 q68.2)))))))
def f_M_takesE (c0 : Nat) (p1 : Int32) (σ : St) : Option (Bool × St) := (st (sI σ c0 24 0) fun s2 => (st (sI s2 c0 25 0) fun s4 => (if ok p1 60 = true then (st (sJ s4 12 (upd (vJ s4 12) (nx p1) (vI s4 c0 23))) fun s6 => ((f_M_takesE_l22 FU c0 p1 1 s6).bind fun x_84 => Sum.elim (fun _ => none) (fun z => some z) x_84)) else none)))
set_option maxHeartbeats 400000 in
set_option maxRecDepth 20000 in
theorem c_M_takesE (g : GX) (c0 : Nat) (hc0 : tg BM c0 20) (p1 : Int32) (σ : St) (q : Bool × St) (h : f_M_takesE c0 p1 σ = some q) (l : Launch) : CT BM l y_M_takesE (v_M_takesE :: lwG) 5 [.ref (g.2.1 c0), .int p1] g σ (QZ BM g q) := by
  refine mkC (cc := b_M_takesE) (maxL := 4) (ret := (some .boolean)) rfl (by decide) rfl (Nat.le_of_ble_eq_true rfl) ?_
  intro p e s m args below meth c A ls C hl hw
  obtain ⟨hx, hb, hr, hml, hown, hts, hK, hE, hA, hlk⟩ := id C
  replace hl : lv_has ls 4 [(0, .ref (g.2.1 c0)), (1, .int p1)] := hl
  obtain ⟨H, hH⟩ : ∃ z, z = s.heap := ⟨_, rfl⟩
  rw [← hH] at hw ⊢
  obtain ⟨locs, hlo⟩ : ∃ z : List Loc, z = [] := ⟨_, rfl⟩
  rw [← hlo] at hw ⊢
  unfold f_M_takesE at h
  refine lv_aload_n hx hb d_M_takesE_0 rfl (lv_at hl 0 rfl) ?_
  refine lv_iconst (v := 0) hx hb d_M_takesE_1 (by decide) ?_
  refine ste h (fun s2 e89 h => ?_)
  refine fp_M_83 C hw hc0 d_M_takesE_2 (fun H locs hw => ?_)
  replace hw := HWe hw e89
  refine lv_aload_n hx hb d_M_takesE_5 rfl (lv_at hl 0 rfl) ?_
  refine lv_iconst (v := 0) hx hb d_M_takesE_6 (by decide) ?_
  refine ste h (fun s4 e88 h => ?_)
  refine fp_M_86 C hw hc0 d_M_takesE_7 (fun H locs hw => ?_)
  replace hw := HWe hw e88
  refine lv_aload_n hx hb d_M_takesE_10 rfl (lv_at hl 0 rfl) ?_
  refine fg_M_68 C hw hc0 d_M_takesE_11 ?_
  refine lv_iload_n hx hb d_M_takesE_14 rfl (lv_at hl 1 rfl) ?_
  refine lv_aload_n hx hb d_M_takesE_15 rfl (lv_at hl 0 rfl) ?_
  refine fg_M_80 C hw hc0 d_M_takesE_16 ?_
  refine gde h (fun g5 h => ?_)
  refine ste h (fun s6 e87 h => ?_)
  refine stI (n := 60) C hw tM_12 (by decide) g5 d_M_takesE_19 (fun H locs hw => ?_)
  replace hw := HWe hw e87
  refine lv_iconst (v := 1) hx hb d_M_takesE_20 (by decide) ?_
  refine lv_istore_n (lv' := [(2, .int 1), (0, .ref (g.2.1 c0)), (1, .int p1)]) hx hb d_M_takesE_21 rfl hl (by decide) rfl (fun ls hl => ?_)
  have L7 : ∀ (c0 : Nat) (hc0 : tg BM c0 20) (x1 : Int32) (n : Nat) (x2 : Int32) (σ : St) (H : Heap) (locs : List Loc) (ls : Array Slot), HW BM g A s σ H locs → lv_has ls 4 [(0, .ref (g.2.1 c0)), (1, .int x1), (2, .int x2)] → ∀ (ex : (Unit) ⊕ (Bool × St)), f_M_takesE_l22 n c0 x1 x2 σ = some ex → (True) → (∀ (z : Bool × St), ex = Sum.inr z → z = q) → W p l e (rmL 5) s m args below meth c H locs 0 0 (MQ below (QZ BM g q A) args s 0 0 A) (F0 m 22 ls []) := by
    intro c0 hc0 x1 n
    induction n with
    | zero =>
      intro x2 σ H locs ls hw hl ex h kx7 kr7
      cases h
    | succ n ih =>
      intro x2 σ H locs ls hw hl ex h kx7 kr7
      rw [f_M_takesE_l22] at h
      refine lv_aload_n hx hb d_M_takesE_22 rfl (lv_at hl 0 rfl) ?_
      refine bnd h (fun q8 k9 h => ?_)
      refine clI0 (v := q8) C hw (invV (As := []) C hw (c_M_peek g c0 hc0 σ q8 k9 l) rfl wc_M_226 nd_M_peek ⟨by decide, by decide⟩ (rc_M C hw hc0) rfl hl.1 rfl (Nat.le_of_ble_eq_true rfl) d_M_takesE_23 ⟨Nat.le_refl _, Nat.le_refl _⟩) (fun H locs hw => ?_)
      refine lv_istore_n (lv' := [(3, .int q8), (0, .ref (g.2.1 c0)), (1, .int x1), (2, .int x2)]) hx hb d_M_takesE_26 rfl hl (by decide) rfl (fun ls hl => ?_)
      refine lv_iload_n hx hb d_M_takesE_27 rfl (lv_at hl 3 rfl) ?_
      refine lv_if_eq (tgt := 110) hx hb d_M_takesE_28 (by decide) (fun b10 => ?_) (fun b10 => ?_)
      · replace h := ifp b10 h
        refine lv_iload_n hx hb d_M_takesE_110 rfl (lv_at hl 0 rfl) ?_
        refine lv_bipush (v := 38) hx hb d_M_takesE_111 (by decide) ?_
        refine lv_icmp_eq (tgt := 122) hx hb d_M_takesE_113 (by decide) (fun b11 => ?_) (fun b11 => ?_)
        · replace h := ifp b11 h
          refine lv_aload_n hx hb d_M_takesE_122 rfl (lv_at hl 1 rfl) ?_
          refine lv_iload_n hx hb d_M_takesE_123 rfl (lv_at hl 0 rfl) ?_
          refine bnd h (fun q12 k13 h => ?_)
          refine clV C hw (invV (As := [.int q8]) C hw (c_M_settle g c0 hc0 q8 σ q12 k13 l) rfl wc_M_254 nd_M_settle ⟨by decide, by decide⟩ (rc_M C hw hc0) rfl hl.1 rfl (Nat.le_of_ble_eq_true rfl) d_M_takesE_124 ⟨Nat.le_refl _, Nat.le_refl _⟩) (fun H locs hw => ?_)
          refine lv_aload_n hx hb d_M_takesE_127 rfl (lv_at hl 1 rfl) ?_
          refine fg_M_77 C hw hc0 d_M_takesE_128 ?_
          refine lv_aload_n hx hb d_M_takesE_131 rfl (lv_at hl 1 rfl) ?_
          refine fg_M_83 C hw hc0 d_M_takesE_132 ?_
          refine lv_iload_n hx hb d_M_takesE_135 rfl (lv_at hl 0 rfl) ?_
          refine gde h (fun g14 h => ?_)
          refine ste h (fun s15 e22 h => ?_)
          refine stI (n := 101) C hw tM_15 (by decide) g14 d_M_takesE_136 (fun H locs hw => ?_)
          replace hw := HWe hw e22
          refine lv_aload_n hx hb d_M_takesE_137 rfl (lv_at hl 1 rfl) ?_
          refine lv_dup hx hb d_M_takesE_138 rfl ?_
          refine fg_M_83 C hw hc0 d_M_takesE_139 ?_
          refine lv_iconst (v := 1) hx hb d_M_takesE_142 (by decide) ?_
          refine lv_iadd hx hb d_M_takesE_143 ?_
          refine ste h (fun s17 e21 h => ?_)
          refine fp_M_83 C hw hc0 d_M_takesE_144 (fun H locs hw => ?_)
          replace hw := HWe hw e21
          refine lv_iconst (v := 1) hx hb d_M_takesE_147 (by decide) ?_
          refine lv_istore_n (lv' := [(2, .int 1), (3, .int q8), (0, .ref (g.2.1 c0)), (1, .int x1)]) hx hb d_M_takesE_148 rfl hl (by decide) rfl (fun ls hl => ?_)
          refine lv_aload_n hx hb d_M_takesE_149 rfl (lv_at hl 2 rfl) ?_
          refine lv_dup hx hb d_M_takesE_150 rfl ?_
          refine fg_M_50 C hw hc0 d_M_takesE_151 ?_
          refine lv_iconst (v := 1) hx hb d_M_takesE_154 (by decide) ?_
          refine lv_iadd hx hb d_M_takesE_155 ?_
          refine ste h (fun s19 e20 h => ?_)
          refine fp_M_50 C hw hc0 d_M_takesE_156 (fun H locs hw => ?_)
          replace hw := HWe hw e20
          refine lv_goto (tgt := 22) hx hb d_M_takesE_159 (by decide) ?_
          exact ih 1 s19 H locs ls hw (lv_sub hl [2, 3, 0] rfl) ex h kx7 kr7
        · replace h := ifn b11 h
          refine lv_iload_n hx hb d_M_takesE_116 rfl (lv_at hl 0 rfl) ?_
          refine lv_bipush (v := 124) hx hb d_M_takesE_117 (by decide) ?_
          refine lv_icmp_ne (tgt := 162) hx hb d_M_takesE_119 (by decide) (fun b23 => ?_) (fun b23 => ?_)
          · replace h := ifn b23 h
            refine lv_aload_n hx hb d_M_takesE_162 rfl (lv_at hl 1 rfl) ?_
            refine lv_bipush (v := 124) hx hb d_M_takesE_163 (by decide) ?_
            refine bnd h (fun q24 k25 h => ?_)
            refine clV C hw (invV (As := [.int 124]) C hw (c_M_settle g c0 hc0 124 σ q24 k25 l) rfl wc_M_254 nd_M_settle ⟨by decide, by decide⟩ (rc_M C hw hc0) rfl hl.1 rfl (Nat.le_of_ble_eq_true rfl) d_M_takesE_165 ⟨Nat.le_refl _, Nat.le_refl _⟩) (fun H locs hw => ?_)
            refine lv_aload_n hx hb d_M_takesE_168 rfl (lv_at hl 1 rfl) ?_
            refine fg_M_71 C hw hc0 d_M_takesE_169 ?_
            refine lv_iload_n hx hb d_M_takesE_172 rfl (lv_at hl 2 rfl) ?_
            refine lv_aload_n hx hb d_M_takesE_173 rfl (lv_at hl 1 rfl) ?_
            refine fg_M_80 C hw hc0 d_M_takesE_174 ?_
            refine gde h (fun g26 h => ?_)
            refine ste h (fun s27 e41 h => ?_)
            refine stI (n := 60) C hw tM_13 (by decide) g26 d_M_takesE_177 (fun H locs hw => ?_)
            replace hw := HWe hw e41
            refine lv_aload_n hx hb d_M_takesE_178 rfl (lv_at hl 1 rfl) ?_
            refine fg_M_83 C hw hc0 d_M_takesE_179 ?_
            refine lv_if_ne (tgt := 187) hx hb d_M_takesE_182 (by decide) (fun b28 => ?_) (fun b28 => ?_)
            · replace h := ifn b28 h
              refine lv_iload_n hx hb d_M_takesE_187 rfl (lv_at hl 0 rfl) ?_
              refine lv_bipush (v := 41) hx hb d_M_takesE_188 (by decide) ?_
              refine lv_icmp_eq (tgt := 195) hx hb d_M_takesE_190 (by decide) (fun b29 => ?_) (fun b29 => ?_)
              · replace h := ifp b29 h
                refine lv_aload_n hx hb d_M_takesE_195 rfl (lv_at hl 1 rfl) ?_
                refine lv_dup hx hb d_M_takesE_196 rfl ?_
                refine fg_M_83 C hw hc0 d_M_takesE_197 ?_
                refine lv_iconst (v := 1) hx hb d_M_takesE_200 (by decide) ?_
                refine lv_isub hx hb d_M_takesE_201 ?_
                refine ste h (fun s31 e40 h => ?_)
                refine fp_M_83 C hw hc0 d_M_takesE_202 (fun H locs hw => ?_)
                replace hw := HWe hw e40
                refine lv_aload_n hx hb d_M_takesE_205 rfl (lv_at hl 1 rfl) ?_
                refine lv_dup hx hb d_M_takesE_206 rfl ?_
                refine fg_M_86 C hw hc0 d_M_takesE_207 ?_
                refine lv_iconst (v := 1) hx hb d_M_takesE_210 (by decide) ?_
                refine lv_isub hx hb d_M_takesE_211 ?_
                refine ste h (fun s33 e39 h => ?_)
                refine fp_M_86 C hw hc0 d_M_takesE_212 (fun H locs hw => ?_)
                replace hw := HWe hw e39
                refine lv_aload_n hx hb d_M_takesE_215 rfl (lv_at hl 1 rfl) ?_
                refine lv_dup hx hb d_M_takesE_216 rfl ?_
                refine fg_M_50 C hw hc0 d_M_takesE_217 ?_
                refine lv_iconst (v := 1) hx hb d_M_takesE_220 (by decide) ?_
                refine lv_iadd hx hb d_M_takesE_221 ?_
                refine ste h (fun s35 e38 h => ?_)
                refine fp_M_50 C hw hc0 d_M_takesE_222 (fun H locs hw => ?_)
                replace hw := HWe hw e38
                refine lv_aload_n hx hb d_M_takesE_225 rfl (lv_at hl 1 rfl) ?_
                refine bnd h (fun q36 k37 h => ?_)
                refine clV C hw (invV (As := []) C hw (c_M_whole g c0 hc0 s35 q36 k37 l) rfl wc_M_248 nd_M_whole ⟨by decide, by decide⟩ (rc_M C hw hc0) rfl hl.1 rfl (Nat.le_of_ble_eq_true rfl) d_M_takesE_226 ⟨Nat.le_refl _, Nat.le_refl _⟩) (fun H locs hw => ?_)
                refine lv_goto (tgt := 22) hx hb d_M_takesE_229 (by decide) ?_
                exact ih x2 q36 H locs ls hw (lv_sub hl [1, 2, 3] rfl) ex h kx7 kr7
              · replace h := ifn b29 h
                refine lv_iconst (v := 0) hx hb d_M_takesE_193 (by decide) ?_
                exact retZ (b := false) C hw rfl rfl (kr7 _ (Option.some.inj h).symm) d_M_takesE_194
            · replace h := ifp b28 h
              refine lv_iconst (v := 1) hx hb d_M_takesE_185 (by decide) ?_
              exact retZ (b := true) C hw rfl rfl (kr7 _ (Option.some.inj h).symm) d_M_takesE_186
          · replace h := ifp b23 h
            refine lv_aload_n hx hb d_M_takesE_122 rfl (lv_at hl 1 rfl) ?_
            refine lv_iload_n hx hb d_M_takesE_123 rfl (lv_at hl 0 rfl) ?_
            refine bnd h (fun q42 k43 h => ?_)
            refine clV C hw (invV (As := [.int q8]) C hw (c_M_settle g c0 hc0 q8 σ q42 k43 l) rfl wc_M_254 nd_M_settle ⟨by decide, by decide⟩ (rc_M C hw hc0) rfl hl.1 rfl (Nat.le_of_ble_eq_true rfl) d_M_takesE_124 ⟨Nat.le_refl _, Nat.le_refl _⟩) (fun H locs hw => ?_)
            refine lv_aload_n hx hb d_M_takesE_127 rfl (lv_at hl 1 rfl) ?_
            refine fg_M_77 C hw hc0 d_M_takesE_128 ?_
            refine lv_aload_n hx hb d_M_takesE_131 rfl (lv_at hl 1 rfl) ?_
            refine fg_M_83 C hw hc0 d_M_takesE_132 ?_
            refine lv_iload_n hx hb d_M_takesE_135 rfl (lv_at hl 0 rfl) ?_
            refine gde h (fun g44 h => ?_)
            refine ste h (fun s45 e52 h => ?_)
            refine stI (n := 101) C hw tM_15 (by decide) g44 d_M_takesE_136 (fun H locs hw => ?_)
            replace hw := HWe hw e52
            refine lv_aload_n hx hb d_M_takesE_137 rfl (lv_at hl 1 rfl) ?_
            refine lv_dup hx hb d_M_takesE_138 rfl ?_
            refine fg_M_83 C hw hc0 d_M_takesE_139 ?_
            refine lv_iconst (v := 1) hx hb d_M_takesE_142 (by decide) ?_
            refine lv_iadd hx hb d_M_takesE_143 ?_
            refine ste h (fun s47 e51 h => ?_)
            refine fp_M_83 C hw hc0 d_M_takesE_144 (fun H locs hw => ?_)
            replace hw := HWe hw e51
            refine lv_iconst (v := 1) hx hb d_M_takesE_147 (by decide) ?_
            refine lv_istore_n (lv' := [(2, .int 1), (3, .int q8), (0, .ref (g.2.1 c0)), (1, .int x1)]) hx hb d_M_takesE_148 rfl hl (by decide) rfl (fun ls hl => ?_)
            refine lv_aload_n hx hb d_M_takesE_149 rfl (lv_at hl 2 rfl) ?_
            refine lv_dup hx hb d_M_takesE_150 rfl ?_
            refine fg_M_50 C hw hc0 d_M_takesE_151 ?_
            refine lv_iconst (v := 1) hx hb d_M_takesE_154 (by decide) ?_
            refine lv_iadd hx hb d_M_takesE_155 ?_
            refine ste h (fun s49 e50 h => ?_)
            refine fp_M_50 C hw hc0 d_M_takesE_156 (fun H locs hw => ?_)
            replace hw := HWe hw e50
            refine lv_goto (tgt := 22) hx hb d_M_takesE_159 (by decide) ?_
            exact ih 1 s49 H locs ls hw (lv_sub hl [2, 3, 0] rfl) ex h kx7 kr7
      · replace h := ifn b10 h
        refine lv_iload_n hx hb d_M_takesE_31 rfl (lv_at hl 0 rfl) ?_
        refine lv_bipush (v := 33) hx hb d_M_takesE_32 (by decide) ?_
        refine lv_icmp_eq (tgt := 43) hx hb d_M_takesE_34 (by decide) (fun b53 => ?_) (fun b53 => ?_)
        · replace h := ifp b53 h
          refine lv_aload_n hx hb d_M_takesE_43 rfl (lv_at hl 1 rfl) ?_
          refine fg_M_86 C hw hc0 d_M_takesE_44 ?_
          refine lv_iconst (v := 4) hx hb d_M_takesE_47 (by decide) ?_
          refine lv_icmp_ne (tgt := 53) hx hb d_M_takesE_48 (by decide) (fun b54 => ?_) (fun b54 => ?_)
          · replace h := ifn b54 h
            refine lv_aload_n hx hb d_M_takesE_53 rfl (lv_at hl 1 rfl) ?_
            refine lv_dup hx hb d_M_takesE_54 rfl ?_
            refine fg_M_86 C hw hc0 d_M_takesE_55 ?_
            refine lv_iconst (v := 1) hx hb d_M_takesE_58 (by decide) ?_
            refine lv_iadd hx hb d_M_takesE_59 ?_
            refine ste h (fun s56 e66 h => ?_)
            refine fp_M_86 C hw hc0 d_M_takesE_60 (fun H locs hw => ?_)
            replace hw := HWe hw e66
            refine lv_aload_n hx hb d_M_takesE_63 rfl (lv_at hl 1 rfl) ?_
            refine fg_M_77 C hw hc0 d_M_takesE_64 ?_
            refine lv_aload_n hx hb d_M_takesE_67 rfl (lv_at hl 1 rfl) ?_
            refine fg_M_83 C hw hc0 d_M_takesE_68 ?_
            refine lv_iload_n hx hb d_M_takesE_71 rfl (lv_at hl 0 rfl) ?_
            refine gde h (fun g57 h => ?_)
            refine ste h (fun s58 e65 h => ?_)
            refine stI (n := 101) C hw tM_15 (by decide) g57 d_M_takesE_72 (fun H locs hw => ?_)
            replace hw := HWe hw e65
            refine lv_aload_n hx hb d_M_takesE_73 rfl (lv_at hl 1 rfl) ?_
            refine lv_dup hx hb d_M_takesE_74 rfl ?_
            refine fg_M_83 C hw hc0 d_M_takesE_75 ?_
            refine lv_iconst (v := 1) hx hb d_M_takesE_78 (by decide) ?_
            refine lv_iadd hx hb d_M_takesE_79 ?_
            refine ste h (fun s60 e64 h => ?_)
            refine fp_M_83 C hw hc0 d_M_takesE_80 (fun H locs hw => ?_)
            replace hw := HWe hw e64
            refine lv_aload_n hx hb d_M_takesE_83 rfl (lv_at hl 1 rfl) ?_
            refine lv_dup hx hb d_M_takesE_84 rfl ?_
            refine fg_M_50 C hw hc0 d_M_takesE_85 ?_
            refine lv_iconst (v := 1) hx hb d_M_takesE_88 (by decide) ?_
            refine lv_iadd hx hb d_M_takesE_89 ?_
            refine ste h (fun s62 e63 h => ?_)
            refine fp_M_50 C hw hc0 d_M_takesE_90 (fun H locs hw => ?_)
            replace hw := HWe hw e63
            refine lv_goto (tgt := 22) hx hb d_M_takesE_93 (by decide) ?_
            exact ih x2 s62 H locs ls hw (lv_sub hl [1, 2, 3] rfl) ex h kx7 kr7
          · replace h := ifp b54 h
            refine lv_iconst (v := 0) hx hb d_M_takesE_51 (by decide) ?_
            exact retZ (b := false) C hw rfl rfl (kr7 _ (Option.some.inj h).symm) d_M_takesE_52
        · replace h := ifn b53 h
          refine lv_iload_n hx hb d_M_takesE_37 rfl (lv_at hl 0 rfl) ?_
          refine lv_bipush (v := 40) hx hb d_M_takesE_38 (by decide) ?_
          refine lv_icmp_ne (tgt := 96) hx hb d_M_takesE_40 (by decide) (fun b67 => ?_) (fun b67 => ?_)
          · replace h := ifn b67 h
            refine lv_aload_n hx hb d_M_takesE_96 rfl (lv_at hl 1 rfl) ?_
            refine bnd h (fun q68 k69 h => ?_)
            refine clZ C hw (invV (As := []) C hw (c_M_takesTest g c0 hc0 σ q68 k69 l) rfl wc_M_251 nd_M_takesTest ⟨by decide, by decide⟩ (rc_M C hw hc0) rfl hl.1 rfl (Nat.le_of_ble_eq_true rfl) d_M_takesE_97 ⟨Nat.le_refl _, Nat.le_refl _⟩) (fun H locs hw => ?_)
            refine ifB (tgt := 108) C d_M_takesE_100 (by decide) (fun b70 => ?_) (fun b70 => ?_)
            · replace h := ifp b70 h
              refine lv_iconst (v := 0) hx hb d_M_takesE_108 (by decide) ?_
              exact retZ (b := false) C hw rfl rfl (kr7 _ (Option.some.inj h).symm) d_M_takesE_109
            · replace h := ifn b70 h
              refine lv_iconst (v := 0) hx hb d_M_takesE_103 (by decide) ?_
              refine lv_istore_n (lv' := [(2, .int 0), (3, .int q8), (0, .ref (g.2.1 c0)), (1, .int x1)]) hx hb d_M_takesE_104 rfl hl (by decide) rfl (fun ls hl => ?_)
              refine lv_goto (tgt := 22) hx hb d_M_takesE_105 (by decide) ?_
              exact ih 0 q68.2 H locs ls hw (lv_sub hl [2, 3, 0] rfl) ex h kx7 kr7
          · replace h := ifp b67 h
            refine lv_aload_n hx hb d_M_takesE_43 rfl (lv_at hl 1 rfl) ?_
            refine fg_M_86 C hw hc0 d_M_takesE_44 ?_
            refine lv_iconst (v := 4) hx hb d_M_takesE_47 (by decide) ?_
            refine lv_icmp_ne (tgt := 53) hx hb d_M_takesE_48 (by decide) (fun b71 => ?_) (fun b71 => ?_)
            · replace h := ifn b71 h
              refine lv_aload_n hx hb d_M_takesE_53 rfl (lv_at hl 1 rfl) ?_
              refine lv_dup hx hb d_M_takesE_54 rfl ?_
              refine fg_M_86 C hw hc0 d_M_takesE_55 ?_
              refine lv_iconst (v := 1) hx hb d_M_takesE_58 (by decide) ?_
              refine lv_iadd hx hb d_M_takesE_59 ?_
              refine ste h (fun s73 e83 h => ?_)
              refine fp_M_86 C hw hc0 d_M_takesE_60 (fun H locs hw => ?_)
              replace hw := HWe hw e83
              refine lv_aload_n hx hb d_M_takesE_63 rfl (lv_at hl 1 rfl) ?_
              refine fg_M_77 C hw hc0 d_M_takesE_64 ?_
              refine lv_aload_n hx hb d_M_takesE_67 rfl (lv_at hl 1 rfl) ?_
              refine fg_M_83 C hw hc0 d_M_takesE_68 ?_
              refine lv_iload_n hx hb d_M_takesE_71 rfl (lv_at hl 0 rfl) ?_
              refine gde h (fun g74 h => ?_)
              refine ste h (fun s75 e82 h => ?_)
              refine stI (n := 101) C hw tM_15 (by decide) g74 d_M_takesE_72 (fun H locs hw => ?_)
              replace hw := HWe hw e82
              refine lv_aload_n hx hb d_M_takesE_73 rfl (lv_at hl 1 rfl) ?_
              refine lv_dup hx hb d_M_takesE_74 rfl ?_
              refine fg_M_83 C hw hc0 d_M_takesE_75 ?_
              refine lv_iconst (v := 1) hx hb d_M_takesE_78 (by decide) ?_
              refine lv_iadd hx hb d_M_takesE_79 ?_
              refine ste h (fun s77 e81 h => ?_)
              refine fp_M_83 C hw hc0 d_M_takesE_80 (fun H locs hw => ?_)
              replace hw := HWe hw e81
              refine lv_aload_n hx hb d_M_takesE_83 rfl (lv_at hl 1 rfl) ?_
              refine lv_dup hx hb d_M_takesE_84 rfl ?_
              refine fg_M_50 C hw hc0 d_M_takesE_85 ?_
              refine lv_iconst (v := 1) hx hb d_M_takesE_88 (by decide) ?_
              refine lv_iadd hx hb d_M_takesE_89 ?_
              refine ste h (fun s79 e80 h => ?_)
              refine fp_M_50 C hw hc0 d_M_takesE_90 (fun H locs hw => ?_)
              replace hw := HWe hw e80
              refine lv_goto (tgt := 22) hx hb d_M_takesE_93 (by decide) ?_
              exact ih x2 s79 H locs ls hw (lv_sub hl [1, 2, 3] rfl) ex h kx7 kr7
            · replace h := ifp b71 h
              refine lv_iconst (v := 0) hx hb d_M_takesE_51 (by decide) ?_
              exact retZ (b := false) C hw rfl rfl (kr7 _ (Option.some.inj h).symm) d_M_takesE_52
  refine bnd h (fun x_84 k85 h => ?_)
  refine L7 c0 hc0 p1 FU 1 s6 H locs ls hw (lv_sub hl [1, 2, 0] rfl) x_84 k85 trivial (fun z e86 => ?_)
  rw [e86] at h
  replace h := ser h
  exact Option.some.inj h
def f_M_takesHead (c0 : Nat) (p1 : Int32) (σ : St) : Option (Bool × St) := ((f_M_peek c0 σ).bind fun q1 => (if q1 = 102 then (if ok p1 60 = true then (st (sJ σ 10 (upd (vJ σ 10) (nx p1) 2)) fun s5 => ((f_M_takesWord c0 9 4 s5).bind fun q6 => some (q6.1, q6.2))) else none) else (if q1 = 108 then (if ok p1 60 = true then (st (sJ σ 10 (upd (vJ σ 10) (nx p1) 1)) fun s11 => ((f_M_takesWord c0 4 5 s11).bind fun q12 => some (q12.1, q12.2))) else none) else (if q1 = 119 then (if ok p1 60 = true then (st (sJ σ 10 (upd (vJ σ 10) (nx p1) 0)) fun s17 => ((f_M_takesWord c0 0 4 s17).bind fun q18 => some (q18.1, q18.2))) else none) else (if ok p1 60 = true then (st (sJ σ 10 (upd (vJ σ 10) (nx p1) 3)) fun s22 => ((f_M_takesWord c0 13 3 s22).bind fun q23 => some (q23.1, q23.2))) else none)))))
set_option maxHeartbeats 400000 in
set_option maxRecDepth 20000 in
theorem c_M_takesHead (g : GX) (c0 : Nat) (hc0 : tg BM c0 20) (p1 : Int32) (σ : St) (q : Bool × St) (h : f_M_takesHead c0 p1 σ = some q) (l : Launch) : CT BM l y_M_takesHead (v_M_takesHead :: lwG) 4 [.ref (g.2.1 c0), .int p1] g σ (QZ BM g q) := by
  refine mkC (cc := b_M_takesHead) (maxL := 2) (ret := (some .boolean)) rfl (by decide) rfl (Nat.le_of_ble_eq_true rfl) ?_
  intro p e s m args below meth c A ls C hl hw
  obtain ⟨hx, hb, hr, hml, hown, hts, hK, hE, hA, hlk⟩ := id C
  replace hl : lv_has ls 2 [(0, .ref (g.2.1 c0)), (1, .int p1)] := hl
  obtain ⟨H, hH⟩ : ∃ z, z = s.heap := ⟨_, rfl⟩
  rw [← hH] at hw ⊢
  obtain ⟨locs, hlo⟩ : ∃ z : List Loc, z = [] := ⟨_, rfl⟩
  rw [← hlo] at hw ⊢
  unfold f_M_takesHead at h
  refine lv_aload_n hx hb d_M_takesHead_0 rfl (lv_at hl 0 rfl) ?_
  refine bnd h (fun q1 k2 h => ?_)
  refine clI0 (v := q1) C hw (invV (As := []) C hw (c_M_peek g c0 hc0 σ q1 k2 l) rfl wc_M_226 nd_M_peek ⟨by decide, by decide⟩ (rc_M C hw hc0) rfl hl.1 rfl (Nat.le_of_ble_eq_true rfl) d_M_takesHead_1 ⟨Nat.le_refl _, Nat.le_refl _⟩) (fun H locs hw => ?_)
  by_cases b3 : q1 = 102
  · replace h := ifp b3 h
    refine lv_lookup (off := 64) (tgt := 68) hx hb d_M_takesHead_4 (by decide) (by rw [b3]; decide) (by decide) ?_
    refine lv_aload_n hx hb d_M_takesHead_68 rfl (lv_at hl 0 rfl) ?_
    refine fg_M_62 C hw hc0 d_M_takesHead_69 ?_
    refine lv_iload_n hx hb d_M_takesHead_72 rfl (lv_at hl 1 rfl) ?_
    refine lv_iconst (v := 2) hx hb d_M_takesHead_73 (by decide) ?_
    refine gde h (fun g4 h => ?_)
    refine ste h (fun s5 e8 h => ?_)
    refine stI (n := 60) C hw tM_10 (by decide) g4 d_M_takesHead_74 (fun H locs hw => ?_)
    replace hw := HWe hw e8
    refine lv_aload_n hx hb d_M_takesHead_75 rfl (lv_at hl 0 rfl) ?_
    refine lv_bipush (v := 9) hx hb d_M_takesHead_76 (by decide) ?_
    refine lv_iconst (v := 4) hx hb d_M_takesHead_78 (by decide) ?_
    refine bnd h (fun q6 k7 h => ?_)
    refine clZ C hw (invV (As := [.int 9, .int 4]) C hw (c_M_takesWord g c0 hc0 9 4 s5 q6 k7 l) rfl wc_M_257 nd_M_takesWord ⟨by decide, by decide⟩ (rc_M C hw hc0) rfl hl.1 rfl (Nat.le_of_ble_eq_true rfl) d_M_takesHead_79 ⟨Nat.le_refl _, Nat.le_refl _⟩) (fun H locs hw => ?_)
    exact retZ (b := q6.1) C hw rfl rfl (Option.some.inj h) d_M_takesHead_82
  · replace h := ifn b3 h
    by_cases b9 : q1 = 108
    · replace h := ifp b9 h
      refine lv_lookup (off := 50) (tgt := 54) hx hb d_M_takesHead_4 (by decide) (by rw [b9]; decide) (by decide) ?_
      refine lv_aload_n hx hb d_M_takesHead_54 rfl (lv_at hl 0 rfl) ?_
      refine fg_M_62 C hw hc0 d_M_takesHead_55 ?_
      refine lv_iload_n hx hb d_M_takesHead_58 rfl (lv_at hl 1 rfl) ?_
      refine lv_iconst (v := 1) hx hb d_M_takesHead_59 (by decide) ?_
      refine gde h (fun g10 h => ?_)
      refine ste h (fun s11 e14 h => ?_)
      refine stI (n := 60) C hw tM_10 (by decide) g10 d_M_takesHead_60 (fun H locs hw => ?_)
      replace hw := HWe hw e14
      refine lv_aload_n hx hb d_M_takesHead_61 rfl (lv_at hl 0 rfl) ?_
      refine lv_iconst (v := 4) hx hb d_M_takesHead_62 (by decide) ?_
      refine lv_iconst (v := 5) hx hb d_M_takesHead_63 (by decide) ?_
      refine bnd h (fun q12 k13 h => ?_)
      refine clZ C hw (invV (As := [.int 4, .int 5]) C hw (c_M_takesWord g c0 hc0 4 5 s11 q12 k13 l) rfl wc_M_257 nd_M_takesWord ⟨by decide, by decide⟩ (rc_M C hw hc0) rfl hl.1 rfl (Nat.le_of_ble_eq_true rfl) d_M_takesHead_64 ⟨Nat.le_refl _, Nat.le_refl _⟩) (fun H locs hw => ?_)
      exact retZ (b := q12.1) C hw rfl rfl (Option.some.inj h) d_M_takesHead_67
    · replace h := ifn b9 h
      by_cases b15 : q1 = 119
      · replace h := ifp b15 h
        refine lv_lookup (off := 36) (tgt := 40) hx hb d_M_takesHead_4 (by decide) (by rw [b15]; decide) (by decide) ?_
        refine lv_aload_n hx hb d_M_takesHead_40 rfl (lv_at hl 0 rfl) ?_
        refine fg_M_62 C hw hc0 d_M_takesHead_41 ?_
        refine lv_iload_n hx hb d_M_takesHead_44 rfl (lv_at hl 1 rfl) ?_
        refine lv_iconst (v := 0) hx hb d_M_takesHead_45 (by decide) ?_
        refine gde h (fun g16 h => ?_)
        refine ste h (fun s17 e20 h => ?_)
        refine stI (n := 60) C hw tM_10 (by decide) g16 d_M_takesHead_46 (fun H locs hw => ?_)
        replace hw := HWe hw e20
        refine lv_aload_n hx hb d_M_takesHead_47 rfl (lv_at hl 0 rfl) ?_
        refine lv_iconst (v := 0) hx hb d_M_takesHead_48 (by decide) ?_
        refine lv_iconst (v := 4) hx hb d_M_takesHead_49 (by decide) ?_
        refine bnd h (fun q18 k19 h => ?_)
        refine clZ C hw (invV (As := [.int 0, .int 4]) C hw (c_M_takesWord g c0 hc0 0 4 s17 q18 k19 l) rfl wc_M_257 nd_M_takesWord ⟨by decide, by decide⟩ (rc_M C hw hc0) rfl hl.1 rfl (Nat.le_of_ble_eq_true rfl) d_M_takesHead_50 ⟨Nat.le_refl _, Nat.le_refl _⟩) (fun H locs hw => ?_)
        exact retZ (b := q18.1) C hw rfl rfl (Option.some.inj h) d_M_takesHead_53
      · replace h := ifn b15 h
        refine lv_lookup (off := 79) (tgt := 83) hx hb d_M_takesHead_4 (by decide) ((lv_osw b3 (by decide)).trans ((lv_osw b9 (by decide)).trans ((lv_osw b15 (by decide)).trans (rfl)))) (by decide) ?_
        refine lv_aload_n hx hb d_M_takesHead_83 rfl (lv_at hl 0 rfl) ?_
        refine fg_M_62 C hw hc0 d_M_takesHead_84 ?_
        refine lv_iload_n hx hb d_M_takesHead_87 rfl (lv_at hl 1 rfl) ?_
        refine lv_iconst (v := 3) hx hb d_M_takesHead_88 (by decide) ?_
        refine gde h (fun g21 h => ?_)
        refine ste h (fun s22 e25 h => ?_)
        refine stI (n := 60) C hw tM_10 (by decide) g21 d_M_takesHead_89 (fun H locs hw => ?_)
        replace hw := HWe hw e25
        refine lv_aload_n hx hb d_M_takesHead_90 rfl (lv_at hl 0 rfl) ?_
        refine lv_bipush (v := 13) hx hb d_M_takesHead_91 (by decide) ?_
        refine lv_iconst (v := 3) hx hb d_M_takesHead_93 (by decide) ?_
        refine bnd h (fun q23 k24 h => ?_)
        refine clZ C hw (invV (As := [.int 13, .int 3]) C hw (c_M_takesWord g c0 hc0 13 3 s22 q23 k24 l) rfl wc_M_257 nd_M_takesWord ⟨by decide, by decide⟩ (rc_M C hw hc0) rfl hl.1 rfl (Nat.le_of_ble_eq_true rfl) d_M_takesHead_94 ⟨Nat.le_refl _, Nat.le_refl _⟩) (fun H locs hw => ?_)
        exact retZ (b := q23.1) C hw rfl rfl (Option.some.inj h) d_M_takesHead_97
def f_M_takesClause (c0 : Nat) (p1 : Int32) (σ : St) : Option (Bool × St) := ((f_M_takesHead c0 p1 σ).bind fun q1 => (if q1.1 = false then some (false, q1.2) else ((f_M_takesNumber c0 q1.2).bind fun q4 => (if q4.1 = false then some (false, q4.2) else (if ok p1 60 = true then (st (sJ q4.2 11 (upd (vJ q4.2 11) (nx p1) (vI q4.2 c0 14))) fun s8 => (if ok p1 60 = true then (if (vJ s8 10 (nx p1)) = 1 then some (true, s8) else (if ok p1 60 = true then (if (vJ s8 10 (nx p1)) = 2 then some (true, s8) else ((f_M_reads c0 32 s8).bind fun q13 => (if q13.1 = false then some (false, q13.2) else ((f_M_takesE c0 p1 q13.2).bind fun q16 => (if q16.1 = false then some (false, q16.2) else some (true, q16.2)))))) else none)) else none)) else none)))))
set_option maxHeartbeats 400000 in
set_option maxRecDepth 20000 in
theorem c_M_takesClause (g : GX) (c0 : Nat) (hc0 : tg BM c0 20) (p1 : Int32) (σ : St) (q : Bool × St) (h : f_M_takesClause c0 p1 σ = some q) (l : Launch) : CT BM l y_M_takesClause (v_M_takesClause :: lwG) 6 [.ref (g.2.1 c0), .int p1] g σ (QZ BM g q) := by
  refine mkC (cc := b_M_takesClause) (maxL := 2) (ret := (some .boolean)) rfl (by decide) rfl (Nat.le_of_ble_eq_true rfl) ?_
  intro p e s m args below meth c A ls C hl hw
  obtain ⟨hx, hb, hr, hml, hown, hts, hK, hE, hA, hlk⟩ := id C
  replace hl : lv_has ls 2 [(0, .ref (g.2.1 c0)), (1, .int p1)] := hl
  obtain ⟨H, hH⟩ : ∃ z, z = s.heap := ⟨_, rfl⟩
  rw [← hH] at hw ⊢
  obtain ⟨locs, hlo⟩ : ∃ z : List Loc, z = [] := ⟨_, rfl⟩
  rw [← hlo] at hw ⊢
  unfold f_M_takesClause at h
  refine lv_aload_n hx hb d_M_takesClause_0 rfl (lv_at hl 0 rfl) ?_
  refine lv_iload_n hx hb d_M_takesClause_1 rfl (lv_at hl 1 rfl) ?_
  refine bnd h (fun q1 k2 h => ?_)
  refine clZ C hw (invV (As := [.int p1]) C hw (c_M_takesHead g c0 hc0 p1 σ q1 k2 l) rfl wc_M_261 nd_M_takesHead ⟨by decide, by decide⟩ (rc_M C hw hc0) rfl hl.1 rfl (Nat.le_of_ble_eq_true rfl) d_M_takesClause_2 ⟨Nat.le_refl _, Nat.le_refl _⟩) (fun H locs hw => ?_)
  refine ifB (tgt := 15) C d_M_takesClause_5 (by decide) (fun b3 => ?_) (fun b3 => ?_)
  · replace h := ifp b3 h
    refine lv_iconst (v := 0) hx hb d_M_takesClause_15 (by decide) ?_
    exact retZ (b := false) C hw rfl rfl (Option.some.inj h) d_M_takesClause_16
  · replace h := ifn b3 h
    refine lv_aload_n hx hb d_M_takesClause_8 rfl (lv_at hl 0 rfl) ?_
    refine bnd h (fun q4 k5 h => ?_)
    refine clZ C hw (invV (As := []) C hw (c_M_takesNumber g c0 hc0 q1.2 q4 k5 l) rfl wc_M_245 nd_M_takesNumber ⟨by decide, by decide⟩ (rc_M C hw hc0) rfl hl.1 rfl (Nat.le_of_ble_eq_true rfl) d_M_takesClause_9 ⟨Nat.le_refl _, Nat.le_refl _⟩) (fun H locs hw => ?_)
    refine ifnB (tgt := 17) C d_M_takesClause_12 (by decide) (fun b6 => ?_) (fun b6 => ?_)
    · replace h := ifn b6 h
      refine lv_aload_n hx hb d_M_takesClause_17 rfl (lv_at hl 0 rfl) ?_
      refine fg_M_65 C hw hc0 d_M_takesClause_18 ?_
      refine lv_iload_n hx hb d_M_takesClause_21 rfl (lv_at hl 1 rfl) ?_
      refine lv_aload_n hx hb d_M_takesClause_22 rfl (lv_at hl 0 rfl) ?_
      refine fg_M_53 C hw hc0 d_M_takesClause_23 ?_
      refine gde h (fun g7 h => ?_)
      refine ste h (fun s8 e19 h => ?_)
      refine stI (n := 60) C hw tM_11 (by decide) g7 d_M_takesClause_26 (fun H locs hw => ?_)
      replace hw := HWe hw e19
      refine lv_aload_n hx hb d_M_takesClause_27 rfl (lv_at hl 0 rfl) ?_
      refine fg_M_62 C hw hc0 d_M_takesClause_28 ?_
      refine lv_iload_n hx hb d_M_takesClause_31 rfl (lv_at hl 1 rfl) ?_
      refine gde h (fun g9 h => ?_)
      refine ldI (n := 60) C hw tM_10 (by decide) g9 d_M_takesClause_32 ?_
      refine lv_iconst (v := 1) hx hb d_M_takesClause_33 (by decide) ?_
      refine lv_icmp_eq (tgt := 64) hx hb d_M_takesClause_34 (by decide) (fun b10 => ?_) (fun b10 => ?_)
      · replace h := ifp b10 h
        refine lv_iconst (v := 1) hx hb d_M_takesClause_64 (by decide) ?_
        refine lv_goto (tgt := 69) hx hb d_M_takesClause_65 (by decide) ?_
        exact retZ (b := true) C hw rfl rfl (Option.some.inj h) d_M_takesClause_69
      · replace h := ifn b10 h
        refine lv_aload_n hx hb d_M_takesClause_37 rfl (lv_at hl 0 rfl) ?_
        refine fg_M_62 C hw hc0 d_M_takesClause_38 ?_
        refine lv_iload_n hx hb d_M_takesClause_41 rfl (lv_at hl 1 rfl) ?_
        refine gde h (fun g11 h => ?_)
        refine ldI (n := 60) C hw tM_10 (by decide) g11 d_M_takesClause_42 ?_
        refine lv_iconst (v := 2) hx hb d_M_takesClause_43 (by decide) ?_
        refine lv_icmp_eq (tgt := 64) hx hb d_M_takesClause_44 (by decide) (fun b12 => ?_) (fun b12 => ?_)
        · replace h := ifp b12 h
          refine lv_iconst (v := 1) hx hb d_M_takesClause_64 (by decide) ?_
          refine lv_goto (tgt := 69) hx hb d_M_takesClause_65 (by decide) ?_
          exact retZ (b := true) C hw rfl rfl (Option.some.inj h) d_M_takesClause_69
        · replace h := ifn b12 h
          refine lv_aload_n hx hb d_M_takesClause_47 rfl (lv_at hl 0 rfl) ?_
          refine lv_bipush (v := 32) hx hb d_M_takesClause_48 (by decide) ?_
          refine bnd h (fun q13 k14 h => ?_)
          refine clZ C hw (invV (As := [.int 32]) C hw (c_M_reads g c0 hc0 32 s8 q13 k14 l) rfl wc_M_230 nd_M_reads ⟨by decide, by decide⟩ (rc_M C hw hc0) rfl hl.1 rfl (Nat.le_of_ble_eq_true rfl) d_M_takesClause_50 ⟨Nat.le_refl _, Nat.le_refl _⟩) (fun H locs hw => ?_)
          refine ifB (tgt := 68) C d_M_takesClause_53 (by decide) (fun b15 => ?_) (fun b15 => ?_)
          · replace h := ifp b15 h
            refine lv_iconst (v := 0) hx hb d_M_takesClause_68 (by decide) ?_
            exact retZ (b := false) C hw rfl rfl (Option.some.inj h) d_M_takesClause_69
          · replace h := ifn b15 h
            refine lv_aload_n hx hb d_M_takesClause_56 rfl (lv_at hl 0 rfl) ?_
            refine lv_iload_n hx hb d_M_takesClause_57 rfl (lv_at hl 1 rfl) ?_
            refine bnd h (fun q16 k17 h => ?_)
            refine clZ C hw (invV (As := [.int p1]) C hw (c_M_takesE g c0 hc0 p1 q13.2 q16 k17 l) rfl wc_M_264 nd_M_takesE ⟨by decide, by decide⟩ (rc_M C hw hc0) rfl hl.1 rfl (Nat.le_of_ble_eq_true rfl) d_M_takesClause_58 ⟨Nat.le_refl _, Nat.le_refl _⟩) (fun H locs hw => ?_)
            refine ifB (tgt := 68) C d_M_takesClause_61 (by decide) (fun b18 => ?_) (fun b18 => ?_)
            · replace h := ifp b18 h
              refine lv_iconst (v := 0) hx hb d_M_takesClause_68 (by decide) ?_
              exact retZ (b := false) C hw rfl rfl (Option.some.inj h) d_M_takesClause_69
            · replace h := ifn b18 h
              refine lv_iconst (v := 1) hx hb d_M_takesClause_64 (by decide) ?_
              refine lv_goto (tgt := 69) hx hb d_M_takesClause_65 (by decide) ?_
              exact retZ (b := true) C hw rfl rfl (Option.some.inj h) d_M_takesClause_69
    · replace h := ifp b6 h
      refine lv_iconst (v := 0) hx hb d_M_takesClause_15 (by decide) ?_
      exact retZ (b := false) C hw rfl rfl (Option.some.inj h) d_M_takesClause_16
def f_M_goesText_l15 : Nat → Nat → Int32 → Int32 → St → Option ((St) ⊕ (Bool × St))
  | 0, _, _, _, _ => none
  | n + 1, c0, x1, x2, σ => ((f_M_takesClause c0 ((10 * x1) + x2) σ).bind fun q6 => (if q6.1 = false then some (Sum.inr (false, q6.2)) else (if ok x1 6 = true then (st (sJ q6.2 9 (upd (vJ q6.2 9) (nx x1) (x2 + 1))) fun s10 => (if (vI s10 c0 13) = (vI s10 c0 12) then some (Sum.inr (true, s10)) else (if (x2 + 1) = 10 then some (Sum.inl s10) else ((f_M_reads c0 59 s10).bind fun q13 => (if q13.1 = false then some (Sum.inl q13.2) else (f_M_goesText_l15 n c0 x1 (x2 + 1) q13.2)))))) else none)))
def f_M_goesText (c0 : Nat) (p1 : Int32) (σ : St) : Option (Bool × St) := (st (sI σ c0 13 0) fun s2 => (st (sI s2 c0 23 (100 * p1)) fun s4 => ((f_M_goesText_l15 FU c0 p1 0 s4).bind fun x_17 => Sum.elim (fun y19 => some (false, y19)) (fun z => some z) x_17)))
set_option maxHeartbeats 400000 in
set_option maxRecDepth 20000 in
theorem c_M_goesText (g : GX) (c0 : Nat) (hc0 : tg BM c0 20) (p1 : Int32) (σ : St) (q : Bool × St) (h : f_M_goesText c0 p1 σ = some q) (l : Launch) : CT BM l y_M_goesText (v_M_goesText :: lwG) 7 [.ref (g.2.1 c0), .int p1] g σ (QZ BM g q) := by
  refine mkC (cc := b_M_goesText) (maxL := 3) (ret := (some .boolean)) rfl (by decide) rfl (Nat.le_of_ble_eq_true rfl) ?_
  intro p e s m args below meth c A ls C hl hw
  obtain ⟨hx, hb, hr, hml, hown, hts, hK, hE, hA, hlk⟩ := id C
  replace hl : lv_has ls 3 [(0, .ref (g.2.1 c0)), (1, .int p1)] := hl
  obtain ⟨H, hH⟩ : ∃ z, z = s.heap := ⟨_, rfl⟩
  rw [← hH] at hw ⊢
  obtain ⟨locs, hlo⟩ : ∃ z : List Loc, z = [] := ⟨_, rfl⟩
  rw [← hlo] at hw ⊢
  unfold f_M_goesText at h
  refine lv_aload_n hx hb d_M_goesText_0 rfl (lv_at hl 0 rfl) ?_
  refine lv_iconst (v := 0) hx hb d_M_goesText_1 (by decide) ?_
  refine ste h (fun s2 e22 h => ?_)
  refine fp_M_50 C hw hc0 d_M_goesText_2 (fun H locs hw => ?_)
  replace hw := HWe hw e22
  refine lv_aload_n hx hb d_M_goesText_5 rfl (lv_at hl 0 rfl) ?_
  refine lv_bipush (v := 100) hx hb d_M_goesText_6 (by decide) ?_
  refine lv_iload_n hx hb d_M_goesText_8 rfl (lv_at hl 1 rfl) ?_
  refine lv_imul hx hb d_M_goesText_9 ?_
  refine ste h (fun s4 e21 h => ?_)
  refine fp_M_80 C hw hc0 d_M_goesText_10 (fun H locs hw => ?_)
  replace hw := HWe hw e21
  refine lv_iconst (v := 0) hx hb d_M_goesText_13 (by decide) ?_
  refine lv_istore_n (lv' := [(2, .int 0), (0, .ref (g.2.1 c0)), (1, .int p1)]) hx hb d_M_goesText_14 rfl hl (by decide) rfl (fun ls hl => ?_)
  have L5 : ∀ (c0 : Nat) (hc0 : tg BM c0 20) (x1 : Int32) (n : Nat) (x2 : Int32) (σ : St) (H : Heap) (locs : List Loc) (ls : Array Slot), HW BM g A s σ H locs → lv_has ls 3 [(0, .ref (g.2.1 c0)), (1, .int x1), (2, .int x2)] → ∀ (ex : (St) ⊕ (Bool × St)), f_M_goesText_l15 n c0 x1 x2 σ = some ex → (∀ (y : St), ex = Sum.inl y → ∀ (H : Heap) (locs : List Loc) (ls : Array Slot), HW BM g A s y H locs → lv_has ls 3 [] → W p l e (rmL 7) s m args below meth c H locs 0 0 (MQ below (QZ BM g q A) args s 0 0 A) (F0 m 68 ls [])) → (∀ (z : Bool × St), ex = Sum.inr z → z = q) → W p l e (rmL 7) s m args below meth c H locs 0 0 (MQ below (QZ BM g q A) args s 0 0 A) (F0 m 15 ls []) := by
    intro c0 hc0 x1 n
    induction n with
    | zero =>
      intro x2 σ H locs ls hw hl ex h kx5 kr5
      cases h
    | succ n ih =>
      intro x2 σ H locs ls hw hl ex h kx5 kr5
      rw [f_M_goesText_l15] at h
      refine lv_aload_n hx hb d_M_goesText_15 rfl (lv_at hl 0 rfl) ?_
      refine lv_bipush (v := 10) hx hb d_M_goesText_16 (by decide) ?_
      refine lv_iload_n hx hb d_M_goesText_18 rfl (lv_at hl 1 rfl) ?_
      refine lv_imul hx hb d_M_goesText_19 ?_
      refine lv_iload_n hx hb d_M_goesText_20 rfl (lv_at hl 2 rfl) ?_
      refine lv_iadd hx hb d_M_goesText_21 ?_
      refine bnd h (fun q6 k7 h => ?_)
      refine clZ C hw (invV (As := [.int ((10 * x1) + x2)]) C hw (c_M_takesClause g c0 hc0 ((10 * x1) + x2) σ q6 k7 l) rfl wc_M_267 nd_M_takesClause ⟨by decide, by decide⟩ (rc_M C hw hc0) rfl hl.1 rfl (Nat.le_of_ble_eq_true rfl) d_M_goesText_22 ⟨Nat.le_refl _, Nat.le_refl _⟩) (fun H locs hw => ?_)
      refine ifnB (tgt := 30) C d_M_goesText_25 (by decide) (fun b8 => ?_) (fun b8 => ?_)
      · replace h := ifn b8 h
        refine lv_iinc (v := (x2 + 1)) (lv' := [(2, .int (x2 + 1)), (0, .ref (g.2.1 c0)), (1, .int x1)]) hx hb d_M_goesText_30 hl (k := 2) rfl rfl (by decide) rfl (fun ls hl => ?_)
        refine lv_aload_n hx hb d_M_goesText_33 rfl (lv_at hl 1 rfl) ?_
        refine fg_M_59 C hw hc0 d_M_goesText_34 ?_
        refine lv_iload_n hx hb d_M_goesText_37 rfl (lv_at hl 2 rfl) ?_
        refine lv_iload_n hx hb d_M_goesText_38 rfl (lv_at hl 0 rfl) ?_
        refine gde h (fun g9 h => ?_)
        refine ste h (fun s10 e16 h => ?_)
        refine stI (n := 6) C hw tM_9 (by decide) g9 d_M_goesText_39 (fun H locs hw => ?_)
        replace hw := HWe hw e16
        refine lv_aload_n hx hb d_M_goesText_40 rfl (lv_at hl 1 rfl) ?_
        refine fg_M_50 C hw hc0 d_M_goesText_41 ?_
        refine lv_aload_n hx hb d_M_goesText_44 rfl (lv_at hl 1 rfl) ?_
        refine fg_M_47 C hw hc0 d_M_goesText_45 ?_
        refine lv_icmp_ne (tgt := 53) hx hb d_M_goesText_48 (by decide) (fun b11 => ?_) (fun b11 => ?_)
        · replace h := ifn b11 h
          refine lv_iload_n hx hb d_M_goesText_53 rfl (lv_at hl 0 rfl) ?_
          refine lv_bipush (v := 10) hx hb d_M_goesText_54 (by decide) ?_
          refine lv_icmp_eq (tgt := 68) hx hb d_M_goesText_56 (by decide) (fun b12 => ?_) (fun b12 => ?_)
          · replace h := ifp b12 h
            exact kx5 _ (Option.some.inj h).symm H locs ls hw (lv_sub hl [] rfl)
          · replace h := ifn b12 h
            refine lv_aload_n hx hb d_M_goesText_59 rfl (lv_at hl 1 rfl) ?_
            refine lv_bipush (v := 59) hx hb d_M_goesText_60 (by decide) ?_
            refine bnd h (fun q13 k14 h => ?_)
            refine clZ C hw (invV (As := [.int 59]) C hw (c_M_reads g c0 hc0 59 s10 q13 k14 l) rfl wc_M_230 nd_M_reads ⟨by decide, by decide⟩ (rc_M C hw hc0) rfl hl.1 rfl (Nat.le_of_ble_eq_true rfl) d_M_goesText_62 ⟨Nat.le_refl _, Nat.le_refl _⟩) (fun H locs hw => ?_)
            refine ifnB (tgt := 15) C d_M_goesText_65 (by decide) (fun b15 => ?_) (fun b15 => ?_)
            · replace h := ifn b15 h
              exact ih (x2 + 1) q13.2 H locs ls hw (lv_sub hl [1, 2, 0] rfl) ex h kx5 kr5
            · replace h := ifp b15 h
              exact kx5 _ (Option.some.inj h).symm H locs ls hw (lv_sub hl [] rfl)
        · replace h := ifp b11 h
          refine lv_iconst (v := 1) hx hb d_M_goesText_51 (by decide) ?_
          exact retZ (b := true) C hw rfl rfl (kr5 _ (Option.some.inj h).symm) d_M_goesText_52
      · replace h := ifp b8 h
        refine lv_iconst (v := 0) hx hb d_M_goesText_28 (by decide) ?_
        exact retZ (b := false) C hw rfl rfl (kr5 _ (Option.some.inj h).symm) d_M_goesText_29
  refine bnd h (fun x_17 k18 h => ?_)
  refine L5 c0 hc0 p1 FU 0 s4 H locs ls hw (lv_sub hl [1, 2, 0] rfl) x_17 k18 (fun y19 e20 H locs ls hw hl => ?_) (fun z e20 => ?_)
  · rw [e20] at h
    replace h := sel h
    refine lv_iconst (v := 0) hx hb d_M_goesText_68 (by decide) ?_
    exact retZ (b := false) C hw rfl rfl (Option.some.inj h) d_M_goesText_69
  · rw [e20] at h
    replace h := ser h
    exact Option.some.inj h
def f_M_rule (c0 : Nat) (σ : St) : Option (Int32 × St) := (if (vI σ c0 10) = 6 then some ((-4), σ) else ((f_M_goesText c0 (vI σ c0 10) σ).bind fun q2 => (st (sI q2.2 c0 12 0) fun s5 => (if q2.1 = false then some (((-10) - (vI s5 c0 13)), s5) else (st (sI s5 c0 11 (vI s5 c0 10)) fun s8 => (st (sI s8 c0 10 ((vI s8 c0 10) + 1)) fun s10 => some ((vI s10 c0 11), s10)))))))
set_option maxHeartbeats 400000 in
set_option maxRecDepth 20000 in
theorem c_M_rule (g : GX) (c0 : Nat) (hc0 : tg BM c0 20) (σ : St) (q : Int32 × St) (h : f_M_rule c0 σ = some q) (l : Launch) : CT BM l y_M_rule (v_M_rule :: lwG) 8 [.ref (g.2.1 c0)] g σ (QI BM g q) := by
  refine mkC (cc := b_M_rule) (maxL := 2) (ret := (some .int)) rfl (by decide) rfl (Nat.le_of_ble_eq_true rfl) ?_
  intro p e s m args below meth c A ls C hl hw
  obtain ⟨hx, hb, hr, hml, hown, hts, hK, hE, hA, hlk⟩ := id C
  replace hl : lv_has ls 2 [(0, .ref (g.2.1 c0))] := hl
  obtain ⟨H, hH⟩ : ∃ z, z = s.heap := ⟨_, rfl⟩
  rw [← hH] at hw ⊢
  obtain ⟨locs, hlo⟩ : ∃ z : List Loc, z = [] := ⟨_, rfl⟩
  rw [← hlo] at hw ⊢
  unfold f_M_rule at h
  refine lv_aload_n hx hb d_M_rule_0 rfl (lv_at hl 0 rfl) ?_
  refine fg_M_41 C hw hc0 d_M_rule_1 ?_
  refine lv_bipush (v := 6) hx hb d_M_rule_4 (by decide) ?_
  refine lv_icmp_ne (tgt := 12) hx hb d_M_rule_6 (by decide) (fun b1 => ?_) (fun b1 => ?_)
  · replace h := ifn b1 h
    refine lv_aload_n hx hb d_M_rule_12 rfl (lv_at hl 0 rfl) ?_
    refine lv_aload_n hx hb d_M_rule_13 rfl (lv_at hl 0 rfl) ?_
    refine fg_M_41 C hw hc0 d_M_rule_14 ?_
    refine bnd h (fun q2 k3 h => ?_)
    refine clZ C hw (invV (As := [.int (vI σ c0 10)]) C hw (c_M_goesText g c0 hc0 (vI σ c0 10) σ q2 k3 l) rfl wc_M_270 nd_M_goesText ⟨by decide, by decide⟩ (rc_M C hw hc0) rfl hl.1 rfl (Nat.le_of_ble_eq_true rfl) d_M_rule_17 ⟨Nat.le_refl _, Nat.le_refl _⟩) (fun H locs hw => ?_)
    refine lv_istore_n (lv' := [(1, .int (b2i q2.1)), (0, .ref (g.2.1 c0))]) hx hb d_M_rule_20 rfl hl (by decide) rfl (fun ls hl => ?_)
    refine lv_aload_n hx hb d_M_rule_21 rfl (lv_at hl 1 rfl) ?_
    refine lv_iconst (v := 0) hx hb d_M_rule_22 (by decide) ?_
    refine ste h (fun s5 e13 h => ?_)
    refine fp_M_47 C hw hc0 d_M_rule_23 (fun H locs hw => ?_)
    replace hw := HWe hw e13
    refine lv_iload_n hx hb d_M_rule_26 rfl (lv_at hl 0 rfl) ?_
    refine ifnB (tgt := 38) C d_M_rule_27 (by decide) (fun b6 => ?_) (fun b6 => ?_)
    · replace h := ifn b6 h
      refine lv_aload_n hx hb d_M_rule_38 rfl (lv_at hl 1 rfl) ?_
      refine lv_aload_n hx hb d_M_rule_39 rfl (lv_at hl 1 rfl) ?_
      refine fg_M_41 C hw hc0 d_M_rule_40 ?_
      refine ste h (fun s8 e12 h => ?_)
      refine fp_M_44 C hw hc0 d_M_rule_43 (fun H locs hw => ?_)
      replace hw := HWe hw e12
      refine lv_aload_n hx hb d_M_rule_46 rfl (lv_at hl 1 rfl) ?_
      refine lv_dup hx hb d_M_rule_47 rfl ?_
      refine fg_M_41 C hw hc0 d_M_rule_48 ?_
      refine lv_iconst (v := 1) hx hb d_M_rule_51 (by decide) ?_
      refine lv_iadd hx hb d_M_rule_52 ?_
      refine ste h (fun s10 e11 h => ?_)
      refine fp_M_41 C hw hc0 d_M_rule_53 (fun H locs hw => ?_)
      replace hw := HWe hw e11
      refine lv_aload_n hx hb d_M_rule_56 rfl (lv_at hl 1 rfl) ?_
      refine fg_M_44 C hw hc0 d_M_rule_57 ?_
      exact retI C hw rfl (Option.some.inj h) d_M_rule_60
    · replace h := ifp b6 h
      refine lv_bipush (v := (-10)) hx hb d_M_rule_30 (by decide) ?_
      refine lv_aload_n hx hb d_M_rule_32 rfl (lv_at hl 1 rfl) ?_
      refine fg_M_50 C hw hc0 d_M_rule_33 ?_
      refine lv_isub hx hb d_M_rule_36 ?_
      exact retI C hw rfl (Option.some.inj h) d_M_rule_37
  · replace h := ifp b1 h
    refine lv_bipush (v := (-4)) hx hb d_M_rule_9 (by decide) ?_
    exact retI C hw rfl (Option.some.inj h) d_M_rule_11
def f_M_begin (c0 : Nat) (σ : St) : Int32 := (if 0 ≤ (vI σ c0 11) then (10 * (vI σ c0 11)) else 0)
set_option maxHeartbeats 400000 in
set_option maxRecDepth 20000 in
theorem c_M_begin (g : GX) (c0 : Nat) (hc0 : tg BM c0 20) (σ : St) (l : Launch) : CT BM l y_M_begin (v_M_begin :: lwG) 1 [.ref (g.2.1 c0)] g σ (QI BM g (f_M_begin c0 σ, σ)) := by
  generalize h : f_M_begin c0 σ = q
  refine mkC (cc := b_M_begin) (maxL := 1) (ret := (some .int)) rfl (by decide) rfl (Nat.le_of_ble_eq_true rfl) ?_
  intro p e s m args below meth c A ls C hl hw
  obtain ⟨hx, hb, hr, hml, hown, hts, hK, hE, hA, hlk⟩ := id C
  replace hl : lv_has ls 1 [(0, .ref (g.2.1 c0))] := hl
  obtain ⟨H, hH⟩ : ∃ z, z = s.heap := ⟨_, rfl⟩
  rw [← hH] at hw ⊢
  obtain ⟨locs, hlo⟩ : ∃ z : List Loc, z = [] := ⟨_, rfl⟩
  rw [← hlo] at hw ⊢
  unfold f_M_begin at h
  refine lv_aload_n hx hb d_M_begin_0 rfl (lv_at hl 0 rfl) ?_
  refine fg_M_44 C hw hc0 d_M_begin_1 ?_
  refine lv_if_ge (tgt := 11) hx hb d_M_begin_4 (by decide) (fun b1 => ?_) (fun b1 => ?_)
  · replace h := ifp b1 h
    refine lv_bipush (v := 10) hx hb d_M_begin_11 (by decide) ?_
    refine lv_aload_n hx hb d_M_begin_13 rfl (lv_at hl 0 rfl) ?_
    refine fg_M_44 C hw hc0 d_M_begin_14 ?_
    refine lv_imul hx hb d_M_begin_17 ?_
    exact retI C hw rfl (congrArg (fun z => (z, σ)) h) d_M_begin_18
  · replace h := ifn b1 h
    refine lv_iconst (v := 0) hx hb d_M_begin_7 (by decide) ?_
    refine lv_goto (tgt := 18) hx hb d_M_begin_8 (by decide) ?_
    exact retI C hw rfl (congrArg (fun z => (z, σ)) h) d_M_begin_18
def f_M_behind (c0 : Nat) (σ : St) : Option (Int32) := (if 0 ≤ (vI σ c0 11) then (if ok (vI σ c0 11) 6 = true then some ((10 * (vI σ c0 11)) + (vJ σ 9 (nx (vI σ c0 11)))) else none) else some 0)
set_option maxHeartbeats 400000 in
set_option maxRecDepth 20000 in
theorem c_M_behind (g : GX) (c0 : Nat) (hc0 : tg BM c0 20) (σ : St) (q : Int32) (h : f_M_behind c0 σ = some q) (l : Launch) : CT BM l y_M_behind (v_M_behind :: lwG) 1 [.ref (g.2.1 c0)] g σ (QI BM g (q, σ)) := by
  refine mkC (cc := b_M_behind) (maxL := 1) (ret := (some .int)) rfl (by decide) rfl (Nat.le_of_ble_eq_true rfl) ?_
  intro p e s m args below meth c A ls C hl hw
  obtain ⟨hx, hb, hr, hml, hown, hts, hK, hE, hA, hlk⟩ := id C
  replace hl : lv_has ls 1 [(0, .ref (g.2.1 c0))] := hl
  obtain ⟨H, hH⟩ : ∃ z, z = s.heap := ⟨_, rfl⟩
  rw [← hH] at hw ⊢
  obtain ⟨locs, hlo⟩ : ∃ z : List Loc, z = [] := ⟨_, rfl⟩
  rw [← hlo] at hw ⊢
  unfold f_M_behind at h
  refine lv_aload_n hx hb d_M_behind_0 rfl (lv_at hl 0 rfl) ?_
  refine fg_M_44 C hw hc0 d_M_behind_1 ?_
  refine lv_if_ge (tgt := 11) hx hb d_M_behind_4 (by decide) (fun b1 => ?_) (fun b1 => ?_)
  · replace h := ifp b1 h
    refine lv_bipush (v := 10) hx hb d_M_behind_11 (by decide) ?_
    refine lv_aload_n hx hb d_M_behind_13 rfl (lv_at hl 0 rfl) ?_
    refine fg_M_44 C hw hc0 d_M_behind_14 ?_
    refine lv_imul hx hb d_M_behind_17 ?_
    refine lv_aload_n hx hb d_M_behind_18 rfl (lv_at hl 0 rfl) ?_
    refine fg_M_59 C hw hc0 d_M_behind_19 ?_
    refine lv_aload_n hx hb d_M_behind_22 rfl (lv_at hl 0 rfl) ?_
    refine fg_M_44 C hw hc0 d_M_behind_23 ?_
    refine gde h (fun g2 h => ?_)
    refine ldI (n := 6) C hw tM_9 (by decide) g2 d_M_behind_26 ?_
    refine lv_iadd hx hb d_M_behind_27 ?_
    exact retI C hw rfl (congrArg (fun z => (z, σ)) (Option.some.inj h)) d_M_behind_28
  · replace h := ifn b1 h
    refine lv_iconst (v := 0) hx hb d_M_behind_7 (by decide) ?_
    refine lv_goto (tgt := 28) hx hb d_M_behind_8 (by decide) ?_
    exact retI C hw rfl (congrArg (fun z => (z, σ)) (Option.some.inj h)) d_M_behind_28
def f_M_lastOf_l8 : Nat → Nat → Int32 → Int32 → Int32 → St → Option (Int32)
  | 0, _, _, _, _, _ => none
  | n + 1, c0, x1, x3, x4, σ => ((f_M_behind c0 σ).bind fun q2 => (if q2 ≤ x4 then some x3 else (if ok x4 60 = true then (if (vJ σ 10 (nx x4)) = x1 then (if ok x4 60 = true then (f_M_lastOf_l8 n c0 x1 (vJ σ 11 (nx x4)) (x4 + 1) σ) else none) else (f_M_lastOf_l8 n c0 x1 x3 (x4 + 1) σ)) else none)))
def f_M_lastOf (c0 : Nat) (p1 : Int32) (p2 : Int32) (σ : St) : Option (Int32) := ((f_M_lastOf_l8 FU c0 p1 p2 (f_M_begin c0 σ) σ).bind fun x_8 => some x_8)
set_option maxHeartbeats 400000 in
set_option maxRecDepth 20000 in
theorem c_M_lastOf (g : GX) (c0 : Nat) (hc0 : tg BM c0 20) (p1 : Int32) (p2 : Int32) (σ : St) (q : Int32) (h : f_M_lastOf c0 p1 p2 σ = some q) (l : Launch) : CT BM l y_M_lastOf (v_M_lastOf :: lwG) 2 [.ref (g.2.1 c0), .int p1, .int p2] g σ (QI BM g (q, σ)) := by
  refine mkC (cc := b_M_lastOf) (maxL := 5) (ret := (some .int)) rfl (by decide) rfl (Nat.le_of_ble_eq_true rfl) ?_
  intro p e s m args below meth c A ls C hl hw
  obtain ⟨hx, hb, hr, hml, hown, hts, hK, hE, hA, hlk⟩ := id C
  replace hl : lv_has ls 5 [(0, .ref (g.2.1 c0)), (1, .int p1), (2, .int p2)] := hl
  obtain ⟨H, hH⟩ : ∃ z, z = s.heap := ⟨_, rfl⟩
  rw [← hH] at hw ⊢
  obtain ⟨locs, hlo⟩ : ∃ z : List Loc, z = [] := ⟨_, rfl⟩
  rw [← hlo] at hw ⊢
  unfold f_M_lastOf at h
  refine lv_iload_n hx hb d_M_lastOf_0 rfl (lv_at hl 2 rfl) ?_
  refine lv_istore_n (lv' := [(3, .int p2), (0, .ref (g.2.1 c0)), (1, .int p1), (2, .int p2)]) hx hb d_M_lastOf_1 rfl hl (by decide) rfl (fun ls hl => ?_)
  refine lv_aload_n hx hb d_M_lastOf_2 rfl (lv_at hl 1 rfl) ?_
  refine clI0 (v := (f_M_begin c0 σ)) C hw (invV (As := []) C hw (c_M_begin g c0 hc0 σ l) rfl wc_M_273 nd_M_begin ⟨by decide, by decide⟩ (rc_M C hw hc0) rfl hl.1 rfl (Nat.le_of_ble_eq_true rfl) d_M_lastOf_3 ⟨Nat.le_refl _, Nat.le_refl _⟩) (fun H locs hw => ?_)
  refine lv_istore (lv' := [(4, .int (f_M_begin c0 σ)), (3, .int p2), (0, .ref (g.2.1 c0)), (1, .int p1), (2, .int p2)]) hx hb d_M_lastOf_6 hl (by decide) rfl (fun ls hl => ?_)
  have L1 : ∀ (c0 : Nat) (hc0 : tg BM c0 20) (x1 : Int32) (n : Nat) (x3 : Int32) (x4 : Int32) (σ : St) (H : Heap) (locs : List Loc) (ls : Array Slot), HW BM g A s σ H locs → lv_has ls 5 [(0, .ref (g.2.1 c0)), (1, .int x1), (3, .int x3), (4, .int x4)] → ∀ (ex : Int32), f_M_lastOf_l8 n c0 x1 x3 x4 σ = some ex → (∀ (y : Int32), ex = y → ∀ (H : Heap) (locs : List Loc) (ls : Array Slot), HW BM g A s σ H locs → lv_has ls 5 [(3, .int y)] → W p l e (rmL 2) s m args below meth c H locs 0 0 (MQ below (QI BM g (q, σ) A) args s 0 0 A) (F0 m 46 ls [])) → (True) → W p l e (rmL 2) s m args below meth c H locs 0 0 (MQ below (QI BM g (q, σ) A) args s 0 0 A) (F0 m 8 ls []) := by
    intro c0 hc0 x1 n
    induction n with
    | zero =>
      intro x3 x4 σ H locs ls hw hl ex h kx1 kr1
      cases h
    | succ n ih =>
      intro x3 x4 σ H locs ls hw hl ex h kx1 kr1
      rw [f_M_lastOf_l8] at h
      refine lv_iload hx hb d_M_lastOf_8 (lv_at hl 3 rfl) ?_
      refine lv_aload_n hx hb d_M_lastOf_10 rfl (lv_at hl 0 rfl) ?_
      refine bnd h (fun q2 k3 h => ?_)
      refine clI0 (v := q2) C hw (invV (As := []) C hw (c_M_behind g c0 hc0 σ q2 k3 l) rfl wc_M_276 nd_M_behind ⟨by decide, by decide⟩ (rc_M C hw hc0) rfl hl.1 rfl (Nat.le_of_ble_eq_true rfl) d_M_lastOf_11 ⟨Nat.le_refl _, Nat.le_refl _⟩) (fun H locs hw => ?_)
      refine lv_icmp_ge (tgt := 46) hx hb d_M_lastOf_14 (by decide) (fun b4 => ?_) (fun b4 => ?_)
      · replace h := ifp b4 h
        exact kx1 _ (Option.some.inj h).symm H locs ls hw (lv_sub hl [2] rfl)
      · replace h := ifn b4 h
        refine lv_aload_n hx hb d_M_lastOf_17 rfl (lv_at hl 0 rfl) ?_
        refine fg_M_62 C hw hc0 d_M_lastOf_18 ?_
        refine lv_iload hx hb d_M_lastOf_21 (lv_at hl 3 rfl) ?_
        refine gde h (fun g5 h => ?_)
        refine ldI (n := 60) C hw tM_10 (by decide) g5 d_M_lastOf_23 ?_
        refine lv_iload_n hx hb d_M_lastOf_24 rfl (lv_at hl 1 rfl) ?_
        refine lv_icmp_ne (tgt := 38) hx hb d_M_lastOf_25 (by decide) (fun b6 => ?_) (fun b6 => ?_)
        · replace h := ifn b6 h
          refine lv_iload_n hx hb d_M_lastOf_38 rfl (lv_at hl 2 rfl) ?_
          refine lv_istore_n (lv' := [(3, .int x3), (0, .ref (g.2.1 c0)), (1, .int x1), (4, .int x4)]) hx hb d_M_lastOf_39 rfl hl (by decide) rfl (fun ls hl => ?_)
          refine lv_iinc (v := (x4 + 1)) (lv' := [(4, .int (x4 + 1)), (3, .int x3), (0, .ref (g.2.1 c0)), (1, .int x1)]) hx hb d_M_lastOf_40 hl (k := 3) rfl rfl (by decide) rfl (fun ls hl => ?_)
          refine lv_goto (tgt := 8) hx hb d_M_lastOf_43 (by decide) ?_
          exact ih x3 (x4 + 1) σ H locs ls hw (lv_sub hl [2, 3, 1, 0] rfl) ex h kx1 kr1
        · replace h := ifp b6 h
          refine lv_aload_n hx hb d_M_lastOf_28 rfl (lv_at hl 0 rfl) ?_
          refine fg_M_65 C hw hc0 d_M_lastOf_29 ?_
          refine lv_iload hx hb d_M_lastOf_32 (lv_at hl 3 rfl) ?_
          refine gde h (fun g7 h => ?_)
          refine ldI (n := 60) C hw tM_11 (by decide) g7 d_M_lastOf_34 ?_
          refine lv_goto (tgt := 39) hx hb d_M_lastOf_35 (by decide) ?_
          refine lv_istore_n (lv' := [(3, .int (vJ σ 11 (nx x4))), (0, .ref (g.2.1 c0)), (1, .int x1), (4, .int x4)]) hx hb d_M_lastOf_39 rfl hl (by decide) rfl (fun ls hl => ?_)
          refine lv_iinc (v := (x4 + 1)) (lv' := [(4, .int (x4 + 1)), (3, .int (vJ σ 11 (nx x4))), (0, .ref (g.2.1 c0)), (1, .int x1)]) hx hb d_M_lastOf_40 hl (k := 3) rfl rfl (by decide) rfl (fun ls hl => ?_)
          refine lv_goto (tgt := 8) hx hb d_M_lastOf_43 (by decide) ?_
          exact ih (vJ σ 11 (nx x4)) (x4 + 1) σ H locs ls hw (lv_sub hl [2, 3, 1, 0] rfl) ex h kx1 kr1
  refine bnd h (fun x_8 k9 h => ?_)
  refine L1 c0 hc0 p1 FU p2 (f_M_begin c0 σ) σ H locs ls hw (lv_sub hl [2, 3, 1, 0] rfl) x_8 k9 (fun y11 e12 H locs ls hw hl => ?_) trivial
  subst e12
  refine lv_iload_n hx hb d_M_lastOf_46 rfl (lv_at hl 0 rfl) ?_
  exact retI C hw rfl (congrArg (fun z => (z, σ)) (Option.some.inj h)) d_M_lastOf_47
def f_M_leastNow (c0 : Nat) (σ : St) : Option (Int32) := (if 0 ≤ (vI σ c0 27) then some (vI σ c0 27) else ((f_M_lastOf c0 1 5 σ).bind fun q2 => some q2))
set_option maxHeartbeats 400000 in
set_option maxRecDepth 20000 in
theorem c_M_leastNow (g : GX) (c0 : Nat) (hc0 : tg BM c0 20) (σ : St) (q : Int32) (h : f_M_leastNow c0 σ = some q) (l : Launch) : CT BM l y_M_leastNow (v_M_leastNow :: lwG) 3 [.ref (g.2.1 c0)] g σ (QI BM g (q, σ)) := by
  refine mkC (cc := b_M_leastNow) (maxL := 1) (ret := (some .int)) rfl (by decide) rfl (Nat.le_of_ble_eq_true rfl) ?_
  intro p e s m args below meth c A ls C hl hw
  obtain ⟨hx, hb, hr, hml, hown, hts, hK, hE, hA, hlk⟩ := id C
  replace hl : lv_has ls 1 [(0, .ref (g.2.1 c0))] := hl
  obtain ⟨H, hH⟩ : ∃ z, z = s.heap := ⟨_, rfl⟩
  rw [← hH] at hw ⊢
  obtain ⟨locs, hlo⟩ : ∃ z : List Loc, z = [] := ⟨_, rfl⟩
  rw [← hlo] at hw ⊢
  unfold f_M_leastNow at h
  refine lv_aload_n hx hb d_M_leastNow_0 rfl (lv_at hl 0 rfl) ?_
  refine fg_M_92 C hw hc0 d_M_leastNow_1 ?_
  refine lv_if_ge (tgt := 16) hx hb d_M_leastNow_4 (by decide) (fun b1 => ?_) (fun b1 => ?_)
  · replace h := ifp b1 h
    refine lv_aload_n hx hb d_M_leastNow_16 rfl (lv_at hl 0 rfl) ?_
    refine fg_M_92 C hw hc0 d_M_leastNow_17 ?_
    exact retI C hw rfl (congrArg (fun z => (z, σ)) (Option.some.inj h)) d_M_leastNow_20
  · replace h := ifn b1 h
    refine lv_aload_n hx hb d_M_leastNow_7 rfl (lv_at hl 0 rfl) ?_
    refine lv_iconst (v := 1) hx hb d_M_leastNow_8 (by decide) ?_
    refine lv_iconst (v := 5) hx hb d_M_leastNow_9 (by decide) ?_
    refine bnd h (fun q2 k3 h => ?_)
    refine clI0 (v := q2) C hw (invV (As := [.int 1, .int 5]) C hw (c_M_lastOf g c0 hc0 1 5 σ q2 k3 l) rfl wc_M_279 nd_M_lastOf ⟨by decide, by decide⟩ (rc_M C hw hc0) rfl hl.1 rfl (Nat.le_of_ble_eq_true rfl) d_M_leastNow_10 ⟨Nat.le_refl _, Nat.le_refl _⟩) (fun H locs hw => ?_)
    refine lv_goto (tgt := 20) hx hb d_M_leastNow_13 (by decide) ?_
    exact retI C hw rfl (congrArg (fun z => (z, σ)) (Option.some.inj h)) d_M_leastNow_20
def f_M_fullNow (c0 : Nat) (σ : St) : Option (Int32) := (if 0 ≤ (vI σ c0 28) then some (vI σ c0 28) else ((f_M_lastOf c0 2 20 σ).bind fun q2 => some (10 * q2)))
set_option maxHeartbeats 400000 in
set_option maxRecDepth 20000 in
theorem c_M_fullNow (g : GX) (c0 : Nat) (hc0 : tg BM c0 20) (σ : St) (q : Int32) (h : f_M_fullNow c0 σ = some q) (l : Launch) : CT BM l y_M_fullNow (v_M_fullNow :: lwG) 3 [.ref (g.2.1 c0)] g σ (QI BM g (q, σ)) := by
  refine mkC (cc := b_M_fullNow) (maxL := 1) (ret := (some .int)) rfl (by decide) rfl (Nat.le_of_ble_eq_true rfl) ?_
  intro p e s m args below meth c A ls C hl hw
  obtain ⟨hx, hb, hr, hml, hown, hts, hK, hE, hA, hlk⟩ := id C
  replace hl : lv_has ls 1 [(0, .ref (g.2.1 c0))] := hl
  obtain ⟨H, hH⟩ : ∃ z, z = s.heap := ⟨_, rfl⟩
  rw [← hH] at hw ⊢
  obtain ⟨locs, hlo⟩ : ∃ z : List Loc, z = [] := ⟨_, rfl⟩
  rw [← hlo] at hw ⊢
  unfold f_M_fullNow at h
  refine lv_aload_n hx hb d_M_fullNow_0 rfl (lv_at hl 0 rfl) ?_
  refine fg_M_95 C hw hc0 d_M_fullNow_1 ?_
  refine lv_if_ge (tgt := 20) hx hb d_M_fullNow_4 (by decide) (fun b1 => ?_) (fun b1 => ?_)
  · replace h := ifp b1 h
    refine lv_aload_n hx hb d_M_fullNow_20 rfl (lv_at hl 0 rfl) ?_
    refine fg_M_95 C hw hc0 d_M_fullNow_21 ?_
    exact retI C hw rfl (congrArg (fun z => (z, σ)) (Option.some.inj h)) d_M_fullNow_24
  · replace h := ifn b1 h
    refine lv_bipush (v := 10) hx hb d_M_fullNow_7 (by decide) ?_
    refine lv_aload_n hx hb d_M_fullNow_9 rfl (lv_at hl 0 rfl) ?_
    refine lv_iconst (v := 2) hx hb d_M_fullNow_10 (by decide) ?_
    refine lv_bipush (v := 20) hx hb d_M_fullNow_11 (by decide) ?_
    refine bnd h (fun q2 k3 h => ?_)
    refine clI0 (v := q2) C hw (invV (As := [.int 2, .int 20]) C hw (c_M_lastOf g c0 hc0 2 20 σ q2 k3 l) rfl wc_M_279 nd_M_lastOf ⟨by decide, by decide⟩ (rc_M C hw hc0) rfl hl.1 rfl (Nat.le_of_ble_eq_true rfl) d_M_fullNow_13 ⟨Nat.le_refl _, Nat.le_refl _⟩) (fun H locs hw => ?_)
    refine lv_imul hx hb d_M_fullNow_16 ?_
    refine lv_goto (tgt := 24) hx hb d_M_fullNow_17 (by decide) ?_
    exact retI C hw rfl (congrArg (fun z => (z, σ)) (Option.some.inj h)) d_M_fullNow_24
def f_M_factOf (c0 : Nat) (p1 : Int32) (p2 : Int32) (σ : St) : Option (Int32) := (if p1 = 0 then some p2 else (if p1 = 1 then (if ok p2 6 = true then some (vJ σ 1 (nx p2)) else none) else (if p1 = 2 then (if ok p2 6 = true then some (vJ σ 2 (nx p2)) else none) else (if p1 = 3 then some ((vI σ c0 1) / 10) else (if p1 = 4 then some ((vI σ c0 2) % 7) else (if ok p2 6 = true then some ((vJ σ 5 (nx p2)) % 100) else none))))))
set_option maxHeartbeats 400000 in
set_option maxRecDepth 20000 in
theorem c_M_factOf (g : GX) (c0 : Nat) (hc0 : tg BM c0 20) (p1 : Int32) (p2 : Int32) (σ : St) (q : Int32) (h : f_M_factOf c0 p1 p2 σ = some q) (l : Launch) : CT BM l y_M_factOf (v_M_factOf :: lwG) 1 [.ref (g.2.1 c0), .int p1, .int p2] g σ (QI BM g (q, σ)) := by
  refine mkC (cc := b_M_factOf) (maxL := 3) (ret := (some .int)) rfl (by decide) rfl (Nat.le_of_ble_eq_true rfl) ?_
  intro p e s m args below meth c A ls C hl hw
  obtain ⟨hx, hb, hr, hml, hown, hts, hK, hE, hA, hlk⟩ := id C
  replace hl : lv_has ls 3 [(0, .ref (g.2.1 c0)), (1, .int p1), (2, .int p2)] := hl
  obtain ⟨H, hH⟩ : ∃ z, z = s.heap := ⟨_, rfl⟩
  rw [← hH] at hw ⊢
  obtain ⟨locs, hlo⟩ : ∃ z : List Loc, z = [] := ⟨_, rfl⟩
  rw [← hlo] at hw ⊢
  unfold f_M_factOf at h
  refine lv_iload_n hx hb d_M_factOf_0 rfl (lv_at hl 1 rfl) ?_
  by_cases b1 : p1 = 0
  · replace h := ifp b1 h
    refine swIn (k := 0) (tgt := 36) C b1 d_M_factOf_1 (by decide) rfl (by decide) ?_
    refine lv_iload_n hx hb d_M_factOf_36 rfl (lv_at hl 2 rfl) ?_
    exact retI C hw rfl (congrArg (fun z => (z, σ)) (Option.some.inj h)) d_M_factOf_37
  · replace h := ifn b1 h
    by_cases b2 : p1 = 1
    · replace h := ifp b2 h
      refine swIn (k := 1) (tgt := 38) C b2 d_M_factOf_1 (by decide) rfl (by decide) ?_
      refine lv_aload_n hx hb d_M_factOf_38 rfl (lv_at hl 0 rfl) ?_
      refine fg_M_19 C hw hc0 d_M_factOf_39 ?_
      refine lv_iload_n hx hb d_M_factOf_42 rfl (lv_at hl 2 rfl) ?_
      refine gde h (fun g3 h => ?_)
      refine ldI (n := 6) C hw tM_1 (by decide) g3 d_M_factOf_43 ?_
      exact retI C hw rfl (congrArg (fun z => (z, σ)) (Option.some.inj h)) d_M_factOf_44
    · replace h := ifn b2 h
      by_cases b4 : p1 = 2
      · replace h := ifp b4 h
        refine swIn (k := 2) (tgt := 45) C b4 d_M_factOf_1 (by decide) rfl (by decide) ?_
        refine lv_aload_n hx hb d_M_factOf_45 rfl (lv_at hl 0 rfl) ?_
        refine fg_M_23 C hw hc0 d_M_factOf_46 ?_
        refine lv_iload_n hx hb d_M_factOf_49 rfl (lv_at hl 2 rfl) ?_
        refine gde h (fun g5 h => ?_)
        refine ldI (n := 6) C hw tM_2 (by decide) g5 d_M_factOf_50 ?_
        exact retI C hw rfl (congrArg (fun z => (z, σ)) (Option.some.inj h)) d_M_factOf_51
      · replace h := ifn b4 h
        by_cases b6 : p1 = 3
        · replace h := ifp b6 h
          refine swIn (k := 3) (tgt := 52) C b6 d_M_factOf_1 (by decide) rfl (by decide) ?_
          refine lv_aload_n hx hb d_M_factOf_52 rfl (lv_at hl 0 rfl) ?_
          refine fg_M_13 C hw hc0 d_M_factOf_53 ?_
          refine lv_bipush (v := 10) hx hb d_M_factOf_56 (by decide) ?_
          refine lv_idiv hx hb d_M_factOf_58 (by decide) ?_
          exact retI C hw rfl (congrArg (fun z => (z, σ)) (Option.some.inj h)) d_M_factOf_59
        · replace h := ifn b6 h
          by_cases b7 : p1 = 4
          · replace h := ifp b7 h
            refine swIn (k := 4) (tgt := 60) C b7 d_M_factOf_1 (by decide) rfl (by decide) ?_
            refine lv_aload_n hx hb d_M_factOf_60 rfl (lv_at hl 0 rfl) ?_
            refine fg_M_16 C hw hc0 d_M_factOf_61 ?_
            refine lv_bipush (v := 7) hx hb d_M_factOf_64 (by decide) ?_
            refine remR C (by decide) d_M_factOf_66 ?_
            exact retI C hw rfl (congrArg (fun z => (z, σ)) (Option.some.inj h)) d_M_factOf_67
          · replace h := ifn b7 h
            refine swOut (tgt := 68) C d_M_factOf_1 (fun z9 l9 h9 e9 => ?_) (by decide) ?_
            · have e10 : z9 = 0 ∨ z9 = 1 ∨ z9 = 2 ∨ z9 = 3 ∨ z9 = 4 := by omega
              rcases e10 with e10 | e10 | e10 | e10 | e10
              · exact lv_neT b1 (by decide) (e9.trans e10)
              · exact lv_neT b2 (by decide) (e9.trans e10)
              · exact lv_neT b4 (by decide) (e9.trans e10)
              · exact lv_neT b6 (by decide) (e9.trans e10)
              · exact lv_neT b7 (by decide) (e9.trans e10)
            · refine lv_aload_n hx hb d_M_factOf_68 rfl (lv_at hl 0 rfl) ?_
              refine fg_M_32 C hw hc0 d_M_factOf_69 ?_
              refine lv_iload_n hx hb d_M_factOf_72 rfl (lv_at hl 2 rfl) ?_
              refine gde h (fun g8 h => ?_)
              refine ldI (n := 6) C hw tM_5 (by decide) g8 d_M_factOf_73 ?_
              refine lv_bipush (v := 100) hx hb d_M_factOf_74 (by decide) ?_
              refine remR C (by decide) d_M_factOf_76 ?_
              exact retI C hw rfl (congrArg (fun z => (z, σ)) (Option.some.inj h)) d_M_factOf_77
