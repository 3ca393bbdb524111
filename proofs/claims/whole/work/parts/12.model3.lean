/-! ===== read off the bytecode by a program: each method as a function, and its walk ===== -/
def f_M_least_l34 : Nat → Nat → Int32 → Int32 → Int32 → Int32 → Int32 → St → Option (Int32 × Int32 × St)
  | 0, _, _, _, _, _, _, _ => none
  | n + 1, c0, x1, x2, x3, x4, x5, σ => (if 21 ≤ x5 then some (x3, x4, σ) else (st (sI σ c0 27 x5) fun s6 => ((f_M_fetchesIn c0 x1 s6).bind fun q7 => (if x3 < 0 then (f_M_least_l34 n c0 x1 x2 x5 q7.1 (x5 + 1) q7.2) else (if q7.1 < x4 then (f_M_least_l34 n c0 x1 x2 x5 q7.1 (x5 + 1) q7.2) else (f_M_least_l34 n c0 x1 x2 x3 x4 (x5 + 1) q7.2))))))
def f_M_least (c0 : Nat) (p1 : Int32) (p2 : Int32) (σ : St) : Option (Int32 × St) := (if (f_M_in c0 p2 0 1) = false then some ((-1), σ) else (if (f_M_in c0 p1 1 10) = false then some ((-2), σ) else ((f_M_least_l34 FU c0 p1 p2 (-1) 0 0 σ).bind fun x_12 => (st (sI x_12.2.2 c0 27 (-1)) fun s16 => (if p2 = 0 then some (x_12.1, s16) else some (x_12.2.1, s16))))))
set_option maxHeartbeats 400000 in
set_option maxRecDepth 20000 in
theorem c_M_least (g : GX) (c0 : Nat) (hc0 : tg BM c0 20) (p1 : Int32) (p2 : Int32) (σ : St) (q : Int32 × St) (h : f_M_least c0 p1 p2 σ = some q) (l : Launch) : CT BM l y_M_least (v_M_least :: lwG) 10 [.ref (g.2.1 c0), .int p1, .int p2] g σ (QI BM g q) := by
  refine mkC (cc := b_M_least) (maxL := 7) (ret := (some .int)) rfl (by decide) rfl (Nat.le_of_ble_eq_true rfl) ?_
  intro p e s m args below meth c A ls C hl hw
  obtain ⟨hx, hb, hr, hml, hown, hts, hK, hE, hA, hlk⟩ := id C
  replace hl : lv_has ls 7 [(0, .ref (g.2.1 c0)), (1, .int p1), (2, .int p2)] := hl
  obtain ⟨H, hH⟩ : ∃ z, z = s.heap := ⟨_, rfl⟩
  rw [← hH] at hw ⊢
  obtain ⟨locs, hlo⟩ : ∃ z : List Loc, z = [] := ⟨_, rfl⟩
  rw [← hlo] at hw ⊢
  unfold f_M_least at h
  refine lv_aload_n hx hb d_M_least_0 rfl (lv_at hl 0 rfl) ?_
  refine lv_iload_n hx hb d_M_least_1 rfl (lv_at hl 2 rfl) ?_
  refine lv_iconst (v := 0) hx hb d_M_least_2 (by decide) ?_
  refine lv_iconst (v := 1) hx hb d_M_least_3 (by decide) ?_
  refine clZ0 (v := (f_M_in c0 p2 0 1)) C hw (invV (As := [.int p2, .int 0, .int 1]) C hw (c_M_in g c0 hc0 p2 0 1 σ l) rfl wc_M_218 nd_M_in ⟨by decide, by decide⟩ (rc_M C hw hc0) rfl hl.1 rfl (Nat.le_of_ble_eq_true rfl) d_M_least_4 ⟨Nat.le_refl _, Nat.le_refl _⟩) (fun H locs hw => ?_)
  refine ifnB (tgt := 12) C d_M_least_7 (by decide) (fun b1 => ?_) (fun b1 => ?_)
  · replace h := ifn b1 h
    refine lv_aload_n hx hb d_M_least_12 rfl (lv_at hl 0 rfl) ?_
    refine lv_iload_n hx hb d_M_least_13 rfl (lv_at hl 1 rfl) ?_
    refine lv_iconst (v := 1) hx hb d_M_least_14 (by decide) ?_
    refine lv_bipush (v := 10) hx hb d_M_least_15 (by decide) ?_
    refine clZ0 (v := (f_M_in c0 p1 1 10)) C hw (invV (As := [.int p1, .int 1, .int 10]) C hw (c_M_in g c0 hc0 p1 1 10 σ l) rfl wc_M_218 nd_M_in ⟨by decide, by decide⟩ (rc_M C hw hc0) rfl hl.1 rfl (Nat.le_of_ble_eq_true rfl) d_M_least_17 ⟨Nat.le_refl _, Nat.le_refl _⟩) (fun H locs hw => ?_)
    refine ifnB (tgt := 26) C d_M_least_20 (by decide) (fun b2 => ?_) (fun b2 => ?_)
    · replace h := ifn b2 h
      refine lv_iconst (v := (-1)) hx hb d_M_least_26 (by decide) ?_
      refine lv_istore_n (lv' := [(3, .int (-1)), (0, .ref (g.2.1 c0)), (1, .int p1), (2, .int p2)]) hx hb d_M_least_27 rfl hl (by decide) rfl (fun ls hl => ?_)
      refine lv_iconst (v := 0) hx hb d_M_least_28 (by decide) ?_
      refine lv_istore (lv' := [(4, .int 0), (3, .int (-1)), (0, .ref (g.2.1 c0)), (1, .int p1), (2, .int p2)]) hx hb d_M_least_29 hl (by decide) rfl (fun ls hl => ?_)
      refine lv_iconst (v := 0) hx hb d_M_least_31 (by decide) ?_
      refine lv_istore (lv' := [(5, .int 0), (4, .int 0), (3, .int (-1)), (0, .ref (g.2.1 c0)), (1, .int p1), (2, .int p2)]) hx hb d_M_least_32 hl (by decide) rfl (fun ls hl => ?_)
      have L3 : ∀ (c0 : Nat) (hc0 : tg BM c0 20) (x1 : Int32) (x2 : Int32) (n : Nat) (x3 : Int32) (x4 : Int32) (x5 : Int32) (σ : St) (H : Heap) (locs : List Loc) (ls : Array Slot), HW BM g A s σ H locs → lv_has ls 7 [(0, .ref (g.2.1 c0)), (1, .int x1), (2, .int x2), (3, .int x3), (4, .int x4), (5, .int x5)] → ∀ (ex : Int32 × Int32 × St), f_M_least_l34 n c0 x1 x2 x3 x4 x5 σ = some ex → (∀ (y : Int32 × Int32 × St), ex = y → ∀ (H : Heap) (locs : List Loc) (ls : Array Slot), HW BM g A s y.2.2 H locs → lv_has ls 7 [(0, .ref (g.2.1 c0)), (2, .int x2), (3, .int y.1), (4, .int y.2.1)] → W p l e (rmL 10) s m args below meth c H locs 0 0 (MQ below (QI BM g q A) args s 0 0 A) (F0 m 81 ls [])) → (True) → W p l e (rmL 10) s m args below meth c H locs 0 0 (MQ below (QI BM g q A) args s 0 0 A) (F0 m 34 ls []) := by
        intro c0 hc0 x1 x2 n
        induction n with
        | zero =>
          intro x3 x4 x5 σ H locs ls hw hl ex h kx3 kr3
          cases h
        | succ n ih =>
          intro x3 x4 x5 σ H locs ls hw hl ex h kx3 kr3
          rw [f_M_least_l34] at h
          refine lv_iload hx hb d_M_least_34 (lv_at hl 5 rfl) ?_
          refine lv_bipush (v := 21) hx hb d_M_least_36 (by decide) ?_
          refine lv_icmp_ge (tgt := 81) hx hb d_M_least_38 (by decide) (fun b4 => ?_) (fun b4 => ?_)
          · replace h := ifp b4 h
            exact kx3 _ (Option.some.inj h).symm H locs ls hw (lv_sub hl [0, 2, 3, 4] rfl)
          · replace h := ifn b4 h
            refine lv_aload_n hx hb d_M_least_41 rfl (lv_at hl 0 rfl) ?_
            refine lv_iload hx hb d_M_least_42 (lv_at hl 5 rfl) ?_
            refine ste h (fun s6 e11 h => ?_)
            refine fp_M_92 C hw hc0 d_M_least_44 (fun H locs hw => ?_)
            replace hw := HWe hw e11
            refine lv_aload_n hx hb d_M_least_47 rfl (lv_at hl 0 rfl) ?_
            refine lv_iload_n hx hb d_M_least_48 rfl (lv_at hl 1 rfl) ?_
            refine bnd h (fun q7 k8 h => ?_)
            refine clI C hw (invV (As := [.int x1]) C hw (c_M_fetchesIn g c0 hc0 x1 s6 q7 k8 l) rfl wc_M_337 nd_M_fetchesIn ⟨by decide, by decide⟩ (rc_M C hw hc0) rfl hl.1 rfl (Nat.le_of_ble_eq_true rfl) d_M_least_49 ⟨Nat.le_refl _, Nat.le_refl _⟩) (fun H locs hw => ?_)
            refine lv_istore (lv' := [(6, .int q7.1), (0, .ref (g.2.1 c0)), (1, .int x1), (2, .int x2), (3, .int x3), (4, .int x4), (5, .int x5)]) hx hb d_M_least_52 hl (by decide) rfl (fun ls hl => ?_)
            refine lv_iload_n hx hb d_M_least_54 rfl (lv_at hl 4 rfl) ?_
            refine lv_if_lt (tgt := 68) hx hb d_M_least_55 (by decide) (fun b9 => ?_) (fun b9 => ?_)
            · replace h := ifp b9 h
              refine lv_iload hx hb d_M_least_68 (lv_at hl 6 rfl) ?_
              refine lv_istore_n (lv' := [(3, .int x5), (6, .int q7.1), (0, .ref (g.2.1 c0)), (1, .int x1), (2, .int x2), (4, .int x4), (5, .int x5)]) hx hb d_M_least_70 rfl hl (by decide) rfl (fun ls hl => ?_)
              refine lv_iload hx hb d_M_least_71 (lv_at hl 1 rfl) ?_
              refine lv_istore (lv' := [(4, .int q7.1), (3, .int x5), (6, .int q7.1), (0, .ref (g.2.1 c0)), (1, .int x1), (2, .int x2), (5, .int x5)]) hx hb d_M_least_73 hl (by decide) rfl (fun ls hl => ?_)
              refine lv_iinc (v := (x5 + 1)) (lv' := [(5, .int (x5 + 1)), (4, .int q7.1), (3, .int x5), (6, .int q7.1), (0, .ref (g.2.1 c0)), (1, .int x1), (2, .int x2)]) hx hb d_M_least_75 hl (k := 6) rfl rfl (by decide) rfl (fun ls hl => ?_)
              refine lv_goto (tgt := 34) hx hb d_M_least_78 (by decide) ?_
              exact ih x5 q7.1 (x5 + 1) q7.2 H locs ls hw (lv_sub hl [4, 5, 6, 2, 1, 0] rfl) ex h kx3 kr3
            · replace h := ifn b9 h
              refine lv_iload hx hb d_M_least_58 (lv_at hl 0 rfl) ?_
              refine lv_iload hx hb d_M_least_60 (lv_at hl 5 rfl) ?_
              refine lv_icmp_lt (tgt := 68) hx hb d_M_least_62 (by decide) (fun b10 => ?_) (fun b10 => ?_)
              · replace h := ifp b10 h
                refine lv_iload hx hb d_M_least_68 (lv_at hl 6 rfl) ?_
                refine lv_istore_n (lv' := [(3, .int x5), (6, .int q7.1), (0, .ref (g.2.1 c0)), (1, .int x1), (2, .int x2), (4, .int x4), (5, .int x5)]) hx hb d_M_least_70 rfl hl (by decide) rfl (fun ls hl => ?_)
                refine lv_iload hx hb d_M_least_71 (lv_at hl 1 rfl) ?_
                refine lv_istore (lv' := [(4, .int q7.1), (3, .int x5), (6, .int q7.1), (0, .ref (g.2.1 c0)), (1, .int x1), (2, .int x2), (5, .int x5)]) hx hb d_M_least_73 hl (by decide) rfl (fun ls hl => ?_)
                refine lv_iinc (v := (x5 + 1)) (lv' := [(5, .int (x5 + 1)), (4, .int q7.1), (3, .int x5), (6, .int q7.1), (0, .ref (g.2.1 c0)), (1, .int x1), (2, .int x2)]) hx hb d_M_least_75 hl (k := 6) rfl rfl (by decide) rfl (fun ls hl => ?_)
                refine lv_goto (tgt := 34) hx hb d_M_least_78 (by decide) ?_
                exact ih x5 q7.1 (x5 + 1) q7.2 H locs ls hw (lv_sub hl [4, 5, 6, 2, 1, 0] rfl) ex h kx3 kr3
              · replace h := ifn b10 h
                refine lv_goto (tgt := 75) hx hb d_M_least_65 (by decide) ?_
                refine lv_iinc (v := (x5 + 1)) (lv' := [(5, .int (x5 + 1)), (6, .int q7.1), (0, .ref (g.2.1 c0)), (1, .int x1), (2, .int x2), (3, .int x3), (4, .int x4)]) hx hb d_M_least_75 hl (k := 6) rfl rfl (by decide) rfl (fun ls hl => ?_)
                refine lv_goto (tgt := 34) hx hb d_M_least_78 (by decide) ?_
                exact ih x3 x4 (x5 + 1) q7.2 H locs ls hw (lv_sub hl [2, 3, 4, 5, 6, 0] rfl) ex h kx3 kr3
      refine bnd h (fun x_12 k13 h => ?_)
      refine L3 c0 hc0 p1 p2 FU (-1) 0 0 σ H locs ls hw (lv_sub hl [3, 4, 5, 2, 1, 0] rfl) x_12 k13 (fun y19 e20 H locs ls hw hl => ?_) trivial
      subst e20
      refine lv_aload_n hx hb d_M_least_81 rfl (lv_at hl 0 rfl) ?_
      refine lv_iconst (v := (-1)) hx hb d_M_least_82 (by decide) ?_
      refine ste h (fun s16 e18 h => ?_)
      refine fp_M_92 C hw hc0 d_M_least_83 (fun H locs hw => ?_)
      replace hw := HWe hw e18
      refine lv_iload_n hx hb d_M_least_86 rfl (lv_at hl 1 rfl) ?_
      refine lv_if_ne (tgt := 94) hx hb d_M_least_87 (by decide) (fun b17 => ?_) (fun b17 => ?_)
      · replace h := ifn b17 h
        refine lv_iload hx hb d_M_least_94 (lv_at hl 3 rfl) ?_
        exact retI C hw rfl (Option.some.inj h) d_M_least_96
      · replace h := ifp b17 h
        refine lv_iload_n hx hb d_M_least_90 rfl (lv_at hl 2 rfl) ?_
        refine lv_goto (tgt := 96) hx hb d_M_least_91 (by decide) ?_
        exact retI C hw rfl (Option.some.inj h) d_M_least_96
    · replace h := ifp b2 h
      refine lv_bipush (v := (-2)) hx hb d_M_least_23 (by decide) ?_
      exact retI C hw rfl (Option.some.inj h) d_M_least_25
  · replace h := ifp b1 h
    refine lv_iconst (v := (-1)) hx hb d_M_least_10 (by decide) ?_
    exact retI C hw rfl (Option.some.inj h) d_M_least_11
def f_M_full_l35 : Nat → Nat → Int32 → Int32 → Int32 → Int32 → Int32 → St → Option (Int32 × Int32 × St)
  | 0, _, _, _, _, _, _, _ => none
  | n + 1, c0, x1, x2, x3, x4, x5, σ => (if 301 ≤ x5 then some (x3, x4, σ) else (st (sI σ c0 28 x5) fun s6 => ((f_M_fetchesIn c0 x1 s6).bind fun q7 => (if x3 < 0 then (f_M_full_l35 n c0 x1 x2 x5 (q7.1 * ((x5 / 10) + 9)) (x5 + 10) q7.2) else (if (q7.1 * ((x5 / 10) + 9)) < x4 then (f_M_full_l35 n c0 x1 x2 x5 (q7.1 * ((x5 / 10) + 9)) (x5 + 10) q7.2) else (f_M_full_l35 n c0 x1 x2 x3 x4 (x5 + 10) q7.2))))))
def f_M_full (c0 : Nat) (p1 : Int32) (p2 : Int32) (σ : St) : Option (Int32 × St) := (if (f_M_in c0 p2 0 1) = false then some ((-1), σ) else (if (f_M_in c0 p1 1 10) = false then some ((-2), σ) else ((f_M_full_l35 FU c0 p1 p2 (-1) 0 10 σ).bind fun x_12 => (st (sI x_12.2.2 c0 28 (-1)) fun s16 => (if p2 = 0 then some (x_12.1, s16) else some (x_12.2.1, s16))))))
set_option maxHeartbeats 400000 in
set_option maxRecDepth 20000 in
theorem c_M_full (g : GX) (c0 : Nat) (hc0 : tg BM c0 20) (p1 : Int32) (p2 : Int32) (σ : St) (q : Int32 × St) (h : f_M_full c0 p1 p2 σ = some q) (l : Launch) : CT BM l y_M_full (v_M_full :: lwG) 10 [.ref (g.2.1 c0), .int p1, .int p2] g σ (QI BM g q) := by
  refine mkC (cc := b_M_full) (maxL := 7) (ret := (some .int)) rfl (by decide) rfl (Nat.le_of_ble_eq_true rfl) ?_
  intro p e s m args below meth c A ls C hl hw
  obtain ⟨hx, hb, hr, hml, hown, hts, hK, hE, hA, hlk⟩ := id C
  replace hl : lv_has ls 7 [(0, .ref (g.2.1 c0)), (1, .int p1), (2, .int p2)] := hl
  obtain ⟨H, hH⟩ : ∃ z, z = s.heap := ⟨_, rfl⟩
  rw [← hH] at hw ⊢
  obtain ⟨locs, hlo⟩ : ∃ z : List Loc, z = [] := ⟨_, rfl⟩
  rw [← hlo] at hw ⊢
  unfold f_M_full at h
  refine lv_aload_n hx hb d_M_full_0 rfl (lv_at hl 0 rfl) ?_
  refine lv_iload_n hx hb d_M_full_1 rfl (lv_at hl 2 rfl) ?_
  refine lv_iconst (v := 0) hx hb d_M_full_2 (by decide) ?_
  refine lv_iconst (v := 1) hx hb d_M_full_3 (by decide) ?_
  refine clZ0 (v := (f_M_in c0 p2 0 1)) C hw (invV (As := [.int p2, .int 0, .int 1]) C hw (c_M_in g c0 hc0 p2 0 1 σ l) rfl wc_M_218 nd_M_in ⟨by decide, by decide⟩ (rc_M C hw hc0) rfl hl.1 rfl (Nat.le_of_ble_eq_true rfl) d_M_full_4 ⟨Nat.le_refl _, Nat.le_refl _⟩) (fun H locs hw => ?_)
  refine ifnB (tgt := 12) C d_M_full_7 (by decide) (fun b1 => ?_) (fun b1 => ?_)
  · replace h := ifn b1 h
    refine lv_aload_n hx hb d_M_full_12 rfl (lv_at hl 0 rfl) ?_
    refine lv_iload_n hx hb d_M_full_13 rfl (lv_at hl 1 rfl) ?_
    refine lv_iconst (v := 1) hx hb d_M_full_14 (by decide) ?_
    refine lv_bipush (v := 10) hx hb d_M_full_15 (by decide) ?_
    refine clZ0 (v := (f_M_in c0 p1 1 10)) C hw (invV (As := [.int p1, .int 1, .int 10]) C hw (c_M_in g c0 hc0 p1 1 10 σ l) rfl wc_M_218 nd_M_in ⟨by decide, by decide⟩ (rc_M C hw hc0) rfl hl.1 rfl (Nat.le_of_ble_eq_true rfl) d_M_full_17 ⟨Nat.le_refl _, Nat.le_refl _⟩) (fun H locs hw => ?_)
    refine ifnB (tgt := 26) C d_M_full_20 (by decide) (fun b2 => ?_) (fun b2 => ?_)
    · replace h := ifn b2 h
      refine lv_iconst (v := (-1)) hx hb d_M_full_26 (by decide) ?_
      refine lv_istore_n (lv' := [(3, .int (-1)), (0, .ref (g.2.1 c0)), (1, .int p1), (2, .int p2)]) hx hb d_M_full_27 rfl hl (by decide) rfl (fun ls hl => ?_)
      refine lv_iconst (v := 0) hx hb d_M_full_28 (by decide) ?_
      refine lv_istore (lv' := [(4, .int 0), (3, .int (-1)), (0, .ref (g.2.1 c0)), (1, .int p1), (2, .int p2)]) hx hb d_M_full_29 hl (by decide) rfl (fun ls hl => ?_)
      refine lv_bipush (v := 10) hx hb d_M_full_31 (by decide) ?_
      refine lv_istore (lv' := [(5, .int 10), (4, .int 0), (3, .int (-1)), (0, .ref (g.2.1 c0)), (1, .int p1), (2, .int p2)]) hx hb d_M_full_33 hl (by decide) rfl (fun ls hl => ?_)
      have L3 : ∀ (c0 : Nat) (hc0 : tg BM c0 20) (x1 : Int32) (x2 : Int32) (n : Nat) (x3 : Int32) (x4 : Int32) (x5 : Int32) (σ : St) (H : Heap) (locs : List Loc) (ls : Array Slot), HW BM g A s σ H locs → lv_has ls 7 [(0, .ref (g.2.1 c0)), (1, .int x1), (2, .int x2), (3, .int x3), (4, .int x4), (5, .int x5)] → ∀ (ex : Int32 × Int32 × St), f_M_full_l35 n c0 x1 x2 x3 x4 x5 σ = some ex → (∀ (y : Int32 × Int32 × St), ex = y → ∀ (H : Heap) (locs : List Loc) (ls : Array Slot), HW BM g A s y.2.2 H locs → lv_has ls 7 [(0, .ref (g.2.1 c0)), (2, .int x2), (3, .int y.1), (4, .int y.2.1)] → W p l e (rmL 10) s m args below meth c H locs 0 0 (MQ below (QI BM g q A) args s 0 0 A) (F0 m 92 ls [])) → (True) → W p l e (rmL 10) s m args below meth c H locs 0 0 (MQ below (QI BM g q A) args s 0 0 A) (F0 m 35 ls []) := by
        intro c0 hc0 x1 x2 n
        induction n with
        | zero =>
          intro x3 x4 x5 σ H locs ls hw hl ex h kx3 kr3
          cases h
        | succ n ih =>
          intro x3 x4 x5 σ H locs ls hw hl ex h kx3 kr3
          rw [f_M_full_l35] at h
          refine lv_iload hx hb d_M_full_35 (lv_at hl 5 rfl) ?_
          refine lv_sipush (v := 301) hx hb d_M_full_37 (by decide) ?_
          refine lv_icmp_ge (tgt := 92) hx hb d_M_full_40 (by decide) (fun b4 => ?_) (fun b4 => ?_)
          · replace h := ifp b4 h
            exact kx3 _ (Option.some.inj h).symm H locs ls hw (lv_sub hl [0, 2, 3, 4] rfl)
          · replace h := ifn b4 h
            refine lv_aload_n hx hb d_M_full_43 rfl (lv_at hl 0 rfl) ?_
            refine lv_iload hx hb d_M_full_44 (lv_at hl 5 rfl) ?_
            refine ste h (fun s6 e11 h => ?_)
            refine fp_M_95 C hw hc0 d_M_full_46 (fun H locs hw => ?_)
            replace hw := HWe hw e11
            refine lv_aload_n hx hb d_M_full_49 rfl (lv_at hl 0 rfl) ?_
            refine lv_iload_n hx hb d_M_full_50 rfl (lv_at hl 1 rfl) ?_
            refine bnd h (fun q7 k8 h => ?_)
            refine clI C hw (invV (As := [.int x1]) C hw (c_M_fetchesIn g c0 hc0 x1 s6 q7 k8 l) rfl wc_M_337 nd_M_fetchesIn ⟨by decide, by decide⟩ (rc_M C hw hc0) rfl hl.1 rfl (Nat.le_of_ble_eq_true rfl) d_M_full_51 ⟨Nat.le_refl _, Nat.le_refl _⟩) (fun H locs hw => ?_)
            refine lv_iload hx hb d_M_full_54 (lv_at hl 5 rfl) ?_
            refine lv_bipush (v := 10) hx hb d_M_full_56 (by decide) ?_
            refine lv_idiv hx hb d_M_full_58 (by decide) ?_
            refine lv_bipush (v := 9) hx hb d_M_full_59 (by decide) ?_
            refine lv_iadd hx hb d_M_full_61 ?_
            refine lv_imul hx hb d_M_full_62 ?_
            refine lv_istore (lv' := [(6, .int (q7.1 * ((x5 / 10) + 9))), (0, .ref (g.2.1 c0)), (1, .int x1), (2, .int x2), (3, .int x3), (4, .int x4), (5, .int x5)]) hx hb d_M_full_63 hl (by decide) rfl (fun ls hl => ?_)
            refine lv_iload_n hx hb d_M_full_65 rfl (lv_at hl 4 rfl) ?_
            refine lv_if_lt (tgt := 79) hx hb d_M_full_66 (by decide) (fun b9 => ?_) (fun b9 => ?_)
            · replace h := ifp b9 h
              refine lv_iload hx hb d_M_full_79 (lv_at hl 6 rfl) ?_
              refine lv_istore_n (lv' := [(3, .int x5), (6, .int (q7.1 * ((x5 / 10) + 9))), (0, .ref (g.2.1 c0)), (1, .int x1), (2, .int x2), (4, .int x4), (5, .int x5)]) hx hb d_M_full_81 rfl hl (by decide) rfl (fun ls hl => ?_)
              refine lv_iload hx hb d_M_full_82 (lv_at hl 1 rfl) ?_
              refine lv_istore (lv' := [(4, .int (q7.1 * ((x5 / 10) + 9))), (3, .int x5), (6, .int (q7.1 * ((x5 / 10) + 9))), (0, .ref (g.2.1 c0)), (1, .int x1), (2, .int x2), (5, .int x5)]) hx hb d_M_full_84 hl (by decide) rfl (fun ls hl => ?_)
              refine lv_iinc (v := (x5 + 10)) (lv' := [(5, .int (x5 + 10)), (4, .int (q7.1 * ((x5 / 10) + 9))), (3, .int x5), (6, .int (q7.1 * ((x5 / 10) + 9))), (0, .ref (g.2.1 c0)), (1, .int x1), (2, .int x2)]) hx hb d_M_full_86 hl (k := 6) rfl rfl (by decide) rfl (fun ls hl => ?_)
              refine lv_goto (tgt := 35) hx hb d_M_full_89 (by decide) ?_
              exact ih x5 (q7.1 * ((x5 / 10) + 9)) (x5 + 10) q7.2 H locs ls hw (lv_sub hl [4, 5, 6, 2, 1, 0] rfl) ex h kx3 kr3
            · replace h := ifn b9 h
              refine lv_iload hx hb d_M_full_69 (lv_at hl 0 rfl) ?_
              refine lv_iload hx hb d_M_full_71 (lv_at hl 5 rfl) ?_
              refine lv_icmp_lt (tgt := 79) hx hb d_M_full_73 (by decide) (fun b10 => ?_) (fun b10 => ?_)
              · replace h := ifp b10 h
                refine lv_iload hx hb d_M_full_79 (lv_at hl 6 rfl) ?_
                refine lv_istore_n (lv' := [(3, .int x5), (6, .int (q7.1 * ((x5 / 10) + 9))), (0, .ref (g.2.1 c0)), (1, .int x1), (2, .int x2), (4, .int x4), (5, .int x5)]) hx hb d_M_full_81 rfl hl (by decide) rfl (fun ls hl => ?_)
                refine lv_iload hx hb d_M_full_82 (lv_at hl 1 rfl) ?_
                refine lv_istore (lv' := [(4, .int (q7.1 * ((x5 / 10) + 9))), (3, .int x5), (6, .int (q7.1 * ((x5 / 10) + 9))), (0, .ref (g.2.1 c0)), (1, .int x1), (2, .int x2), (5, .int x5)]) hx hb d_M_full_84 hl (by decide) rfl (fun ls hl => ?_)
                refine lv_iinc (v := (x5 + 10)) (lv' := [(5, .int (x5 + 10)), (4, .int (q7.1 * ((x5 / 10) + 9))), (3, .int x5), (6, .int (q7.1 * ((x5 / 10) + 9))), (0, .ref (g.2.1 c0)), (1, .int x1), (2, .int x2)]) hx hb d_M_full_86 hl (k := 6) rfl rfl (by decide) rfl (fun ls hl => ?_)
                refine lv_goto (tgt := 35) hx hb d_M_full_89 (by decide) ?_
                exact ih x5 (q7.1 * ((x5 / 10) + 9)) (x5 + 10) q7.2 H locs ls hw (lv_sub hl [4, 5, 6, 2, 1, 0] rfl) ex h kx3 kr3
              · replace h := ifn b10 h
                refine lv_goto (tgt := 86) hx hb d_M_full_76 (by decide) ?_
                refine lv_iinc (v := (x5 + 10)) (lv' := [(5, .int (x5 + 10)), (6, .int (q7.1 * ((x5 / 10) + 9))), (0, .ref (g.2.1 c0)), (1, .int x1), (2, .int x2), (3, .int x3), (4, .int x4)]) hx hb d_M_full_86 hl (k := 6) rfl rfl (by decide) rfl (fun ls hl => ?_)
                refine lv_goto (tgt := 35) hx hb d_M_full_89 (by decide) ?_
                exact ih x3 x4 (x5 + 10) q7.2 H locs ls hw (lv_sub hl [2, 3, 4, 5, 6, 0] rfl) ex h kx3 kr3
      refine bnd h (fun x_12 k13 h => ?_)
      refine L3 c0 hc0 p1 p2 FU (-1) 0 10 σ H locs ls hw (lv_sub hl [3, 4, 5, 2, 1, 0] rfl) x_12 k13 (fun y19 e20 H locs ls hw hl => ?_) trivial
      subst e20
      refine lv_aload_n hx hb d_M_full_92 rfl (lv_at hl 0 rfl) ?_
      refine lv_iconst (v := (-1)) hx hb d_M_full_93 (by decide) ?_
      refine ste h (fun s16 e18 h => ?_)
      refine fp_M_95 C hw hc0 d_M_full_94 (fun H locs hw => ?_)
      replace hw := HWe hw e18
      refine lv_iload_n hx hb d_M_full_97 rfl (lv_at hl 1 rfl) ?_
      refine lv_if_ne (tgt := 105) hx hb d_M_full_98 (by decide) (fun b17 => ?_) (fun b17 => ?_)
      · replace h := ifn b17 h
        refine lv_iload hx hb d_M_full_105 (lv_at hl 3 rfl) ?_
        exact retI C hw rfl (Option.some.inj h) d_M_full_107
      · replace h := ifp b17 h
        refine lv_iload_n hx hb d_M_full_101 rfl (lv_at hl 2 rfl) ?_
        refine lv_goto (tgt := 107) hx hb d_M_full_102 (by decide) ?_
        exact retI C hw rfl (Option.some.inj h) d_M_full_107
    · replace h := ifp b2 h
      refine lv_bipush (v := (-2)) hx hb d_M_full_23 (by decide) ?_
      exact retI C hw rfl (Option.some.inj h) d_M_full_25
  · replace h := ifp b1 h
    refine lv_iconst (v := (-1)) hx hb d_M_full_10 (by decide) ?_
    exact retI C hw rfl (Option.some.inj h) d_M_full_11
def f_M_layOrder_l4 : Nat → Nat → Int32 → Int32 → Int32 → St → Option (Int32)
  | 0, _, _, _, _, _ => none
  | n + 1, c0, x1, x2, x3, σ => (if (vI σ c0 0) < x3 then some x2 else (f_M_layOrder_l4 n c0 x1 (x2 * x3) (x3 + 1) σ))
def f_M_layOrder_l78 : Nat → Nat → Int32 → Int32 → Int32 → Int32 → Int32 → Int32 → St → Option (Int32)
  | 0, _, _, _, _, _, _, _, _ => none
  | n + 1, c0, x2, x3, x4, x5, x6, x7, σ => (if (f_M_has c0 x3 x7) = false then (if (f_M_has c0 x3 x7) = false then (f_M_layOrder_l78 n c0 x2 x3 x4 x5 (x6 - 0) (x7 + 1) σ) else (f_M_layOrder_l78 n c0 x2 x3 x4 x5 (x6 - 1) (x7 + 1) σ)) else (if x6 ≤ 0 then some x7 else (if (f_M_has c0 x3 x7) = false then (f_M_layOrder_l78 n c0 x2 x3 x4 x5 (x6 - 0) (x7 + 1) σ) else (f_M_layOrder_l78 n c0 x2 x3 x4 x5 (x6 - 1) (x7 + 1) σ))))
def f_M_layOrder_l44 : Nat → Nat → Int32 → Int32 → Int32 → Int32 → St → Option (St)
  | 0, _, _, _, _, _, _ => none
  | n + 1, c0, x2, x3, x4, x5, σ => (if (vI σ c0 0) ≤ x5 then some σ else (if ((vI σ c0 0) - x5) = 0 then none else (if (x2 / ((vI σ c0 0) - x5)) = 0 then none else (if (x2 / ((vI σ c0 0) - x5)) = 0 then none else ((f_M_layOrder_l78 FU c0 (x2 / ((vI σ c0 0) - x5)) x3 (x4 % (x2 / ((vI σ c0 0) - x5))) x5 (x4 / (x2 / ((vI σ c0 0) - x5))) 0 σ).bind fun x_17 => (if ok x5 5 = true then (st (sJ σ 21 (upd (vJ σ 21) (nx x5) x_17)) fun s21 => (f_M_layOrder_l44 n c0 (x2 / ((vI σ c0 0) - x5)) (x3 &&& ((1 <<< (x_17 &&& (31 : Int32))) ^^^ (-1))) (x4 % (x2 / ((vI σ c0 0) - x5))) (x5 + 1) s21)) else none))))))
def f_M_layOrder (c0 : Nat) (p1 : Int32) (σ : St) : Option (Bool × St) := ((f_M_layOrder_l4 FU c0 p1 1 2 σ).bind fun x_3 => (if p1 < x_3 then ((f_M_layOrder_l44 FU c0 x_3 ((1 <<< ((vI σ c0 0) &&& (31 : Int32))) - 1) p1 0 σ).bind fun x_25 => some (true, x_25)) else some (false, σ)))
set_option maxHeartbeats 400000 in
set_option maxRecDepth 20000 in
theorem c_M_layOrder (g : GX) (c0 : Nat) (hc0 : tg BM c0 20) (p1 : Int32) (σ : St) (q : Bool × St) (h : f_M_layOrder c0 p1 σ = some q) (l : Launch) : CT BM l y_M_layOrder (v_M_layOrder :: lwG) 2 [.ref (g.2.1 c0), .int p1] g σ (QZ BM g q) := by
  refine mkC (cc := b_M_layOrder) (maxL := 8) (ret := (some .boolean)) rfl (by decide) rfl (Nat.le_of_ble_eq_true rfl) ?_
  intro p e s m args below meth c A ls C hl hw
  obtain ⟨hx, hb, hr, hml, hown, hts, hK, hE, hA, hlk⟩ := id C
  replace hl : lv_has ls 8 [(0, .ref (g.2.1 c0)), (1, .int p1)] := hl
  obtain ⟨H, hH⟩ : ∃ z, z = s.heap := ⟨_, rfl⟩
  rw [← hH] at hw ⊢
  obtain ⟨locs, hlo⟩ : ∃ z : List Loc, z = [] := ⟨_, rfl⟩
  rw [← hlo] at hw ⊢
  unfold f_M_layOrder at h
  refine lv_iconst (v := 1) hx hb d_M_layOrder_0 (by decide) ?_
  refine lv_istore_n (lv' := [(2, .int 1), (0, .ref (g.2.1 c0)), (1, .int p1)]) hx hb d_M_layOrder_1 rfl hl (by decide) rfl (fun ls hl => ?_)
  refine lv_iconst (v := 2) hx hb d_M_layOrder_2 (by decide) ?_
  refine lv_istore_n (lv' := [(3, .int 2), (2, .int 1), (0, .ref (g.2.1 c0)), (1, .int p1)]) hx hb d_M_layOrder_3 rfl hl (by decide) rfl (fun ls hl => ?_)
  have L1 : ∀ (c0 : Nat) (hc0 : tg BM c0 20) (x1 : Int32) (n : Nat) (x2 : Int32) (x3 : Int32) (σ : St) (H : Heap) (locs : List Loc) (ls : Array Slot), HW BM g A s σ H locs → lv_has ls 8 [(0, .ref (g.2.1 c0)), (1, .int x1), (2, .int x2), (3, .int x3)] → ∀ (ex : Int32), f_M_layOrder_l4 n c0 x1 x2 x3 σ = some ex → (∀ (y : Int32), ex = y → ∀ (H : Heap) (locs : List Loc) (ls : Array Slot), HW BM g A s σ H locs → lv_has ls 8 [(0, .ref (g.2.1 c0)), (1, .int x1), (2, .int y)] → W p l e (rmL 2) s m args below meth c H locs 0 0 (MQ below (QZ BM g q A) args s 0 0 A) (F0 m 22 ls [])) → (True) → W p l e (rmL 2) s m args below meth c H locs 0 0 (MQ below (QZ BM g q A) args s 0 0 A) (F0 m 4 ls []) := by
    intro c0 hc0 x1 n
    induction n with
    | zero =>
      intro x2 x3 σ H locs ls hw hl ex h kx1 kr1
      cases h
    | succ n ih =>
      intro x2 x3 σ H locs ls hw hl ex h kx1 kr1
      rw [f_M_layOrder_l4] at h
      refine lv_iload_n hx hb d_M_layOrder_4 rfl (lv_at hl 3 rfl) ?_
      refine lv_aload_n hx hb d_M_layOrder_5 rfl (lv_at hl 0 rfl) ?_
      refine fg_M_7 C hw hc0 d_M_layOrder_6 ?_
      refine lv_icmp_gt (tgt := 22) hx hb d_M_layOrder_9 (by decide) (fun b2 => ?_) (fun b2 => ?_)
      · replace h := ifp b2 h
        exact kx1 _ (Option.some.inj h).symm H locs ls hw (lv_sub hl [0, 1, 2] rfl)
      · replace h := ifn b2 h
        refine lv_iload_n hx hb d_M_layOrder_12 rfl (lv_at hl 2 rfl) ?_
        refine lv_iload_n hx hb d_M_layOrder_13 rfl (lv_at hl 3 rfl) ?_
        refine lv_imul hx hb d_M_layOrder_14 ?_
        refine lv_istore_n (lv' := [(2, .int (x2 * x3)), (0, .ref (g.2.1 c0)), (1, .int x1), (3, .int x3)]) hx hb d_M_layOrder_15 rfl hl (by decide) rfl (fun ls hl => ?_)
        refine lv_iinc (v := (x3 + 1)) (lv' := [(3, .int (x3 + 1)), (2, .int (x2 * x3)), (0, .ref (g.2.1 c0)), (1, .int x1)]) hx hb d_M_layOrder_16 hl (k := 3) rfl rfl (by decide) rfl (fun ls hl => ?_)
        refine lv_goto (tgt := 4) hx hb d_M_layOrder_19 (by decide) ?_
        exact ih (x2 * x3) (x3 + 1) σ H locs ls hw (lv_sub hl [2, 3, 1, 0] rfl) ex h kx1 kr1
  refine bnd h (fun x_3 k4 h => ?_)
  refine L1 c0 hc0 p1 FU 1 2 σ H locs ls hw (lv_sub hl [2, 3, 1, 0] rfl) x_3 k4 (fun y30 e31 H locs ls hw hl => ?_) trivial
  subst e31
  refine lv_iload_n hx hb d_M_layOrder_22 rfl (lv_at hl 1 rfl) ?_
  refine lv_iload_n hx hb d_M_layOrder_23 rfl (lv_at hl 2 rfl) ?_
  refine lv_icmp_lt (tgt := 29) hx hb d_M_layOrder_24 (by decide) (fun b6 => ?_) (fun b6 => ?_)
  · replace h := ifp b6 h
    refine lv_iconst (v := 1) hx hb d_M_layOrder_29 (by decide) ?_
    refine lv_aload_n hx hb d_M_layOrder_30 rfl (lv_at hl 0 rfl) ?_
    refine fg_M_7 C hw hc0 d_M_layOrder_31 ?_
    refine lv_ishl hx hb d_M_layOrder_34 ?_
    refine lv_iconst (v := 1) hx hb d_M_layOrder_35 (by decide) ?_
    refine lv_isub hx hb d_M_layOrder_36 ?_
    refine lv_istore_n (lv' := [(3, .int ((1 <<< ((vI σ c0 0) &&& (31 : Int32))) - 1)), (0, .ref (g.2.1 c0)), (1, .int p1), (2, .int x_3)]) hx hb d_M_layOrder_37 rfl hl (by decide) rfl (fun ls hl => ?_)
    refine lv_iload_n hx hb d_M_layOrder_38 rfl (lv_at hl 2 rfl) ?_
    refine lv_istore (lv' := [(4, .int p1), (3, .int ((1 <<< ((vI σ c0 0) &&& (31 : Int32))) - 1)), (0, .ref (g.2.1 c0)), (1, .int p1), (2, .int x_3)]) hx hb d_M_layOrder_39 hl (by decide) rfl (fun ls hl => ?_)
    refine lv_iconst (v := 0) hx hb d_M_layOrder_41 (by decide) ?_
    refine lv_istore (lv' := [(5, .int 0), (4, .int p1), (3, .int ((1 <<< ((vI σ c0 0) &&& (31 : Int32))) - 1)), (0, .ref (g.2.1 c0)), (1, .int p1), (2, .int x_3)]) hx hb d_M_layOrder_42 hl (by decide) rfl (fun ls hl => ?_)
    have L7 : ∀ (c0 : Nat) (hc0 : tg BM c0 20) (n : Nat) (x2 : Int32) (x3 : Int32) (x4 : Int32) (x5 : Int32) (σ : St) (H : Heap) (locs : List Loc) (ls : Array Slot), HW BM g A s σ H locs → lv_has ls 8 [(0, .ref (g.2.1 c0)), (2, .int x2), (3, .int x3), (4, .int x4), (5, .int x5)] → ∀ (ex : St), f_M_layOrder_l44 n c0 x2 x3 x4 x5 σ = some ex → (∀ (y : St), ex = y → ∀ (H : Heap) (locs : List Loc) (ls : Array Slot), HW BM g A s y H locs → lv_has ls 8 [] → W p l e (rmL 2) s m args below meth c H locs 0 0 (MQ below (QZ BM g q A) args s 0 0 A) (F0 m 143 ls [])) → (True) → W p l e (rmL 2) s m args below meth c H locs 0 0 (MQ below (QZ BM g q A) args s 0 0 A) (F0 m 44 ls []) := by
      intro c0 hc0 n
      induction n with
      | zero =>
        intro x2 x3 x4 x5 σ H locs ls hw hl ex h kx7 kr7
        cases h
      | succ n ih =>
        intro x2 x3 x4 x5 σ H locs ls hw hl ex h kx7 kr7
        rw [f_M_layOrder_l44] at h
        refine lv_iload hx hb d_M_layOrder_44 (lv_at hl 4 rfl) ?_
        refine lv_aload_n hx hb d_M_layOrder_46 rfl (lv_at hl 0 rfl) ?_
        refine fg_M_7 C hw hc0 d_M_layOrder_47 ?_
        refine lv_icmp_ge (tgt := 143) hx hb d_M_layOrder_50 (by decide) (fun b8 => ?_) (fun b8 => ?_)
        · replace h := ifp b8 h
          exact kx7 _ (Option.some.inj h).symm H locs ls hw (lv_sub hl [] rfl)
        · replace h := ifn b8 h
          refine lv_iload_n hx hb d_M_layOrder_53 rfl (lv_at hl 1 rfl) ?_
          refine lv_aload_n hx hb d_M_layOrder_54 rfl (lv_at hl 0 rfl) ?_
          refine fg_M_7 C hw hc0 d_M_layOrder_55 ?_
          refine lv_iload hx hb d_M_layOrder_58 (lv_at hl 4 rfl) ?_
          refine lv_isub hx hb d_M_layOrder_60 ?_
          refine gdz h (fun g9 h => ?_)
          refine lv_idiv hx hb d_M_layOrder_61 g9 ?_
          refine lv_istore_n (lv' := [(2, .int (x2 / ((vI σ c0 0) - x5))), (0, .ref (g.2.1 c0)), (3, .int x3), (4, .int x4), (5, .int x5)]) hx hb d_M_layOrder_62 rfl hl (by decide) rfl (fun ls hl => ?_)
          refine lv_iload hx hb d_M_layOrder_63 (lv_at hl 3 rfl) ?_
          refine lv_iload_n hx hb d_M_layOrder_65 rfl (lv_at hl 0 rfl) ?_
          refine gdz h (fun g10 h => ?_)
          refine lv_idiv hx hb d_M_layOrder_66 g10 ?_
          refine lv_istore (lv' := [(6, .int (x4 / (x2 / ((vI σ c0 0) - x5)))), (2, .int (x2 / ((vI σ c0 0) - x5))), (0, .ref (g.2.1 c0)), (3, .int x3), (4, .int x4), (5, .int x5)]) hx hb d_M_layOrder_67 hl (by decide) rfl (fun ls hl => ?_)
          refine lv_iload hx hb d_M_layOrder_69 (lv_at hl 4 rfl) ?_
          refine lv_iload_n hx hb d_M_layOrder_71 rfl (lv_at hl 1 rfl) ?_
          refine gdz h (fun g11 h => ?_)
          refine remR C g11 d_M_layOrder_72 ?_
          refine lv_istore (lv' := [(4, .int (x4 % (x2 / ((vI σ c0 0) - x5)))), (6, .int (x4 / (x2 / ((vI σ c0 0) - x5)))), (2, .int (x2 / ((vI σ c0 0) - x5))), (0, .ref (g.2.1 c0)), (3, .int x3), (5, .int x5)]) hx hb d_M_layOrder_73 hl (by decide) rfl (fun ls hl => ?_)
          refine lv_iconst (v := 0) hx hb d_M_layOrder_75 (by decide) ?_
          refine lv_istore (lv' := [(7, .int 0), (4, .int (x4 % (x2 / ((vI σ c0 0) - x5)))), (6, .int (x4 / (x2 / ((vI σ c0 0) - x5)))), (2, .int (x2 / ((vI σ c0 0) - x5))), (0, .ref (g.2.1 c0)), (3, .int x3), (5, .int x5)]) hx hb d_M_layOrder_76 hl (by decide) rfl (fun ls hl => ?_)
          have L12 : ∀ (c0 : Nat) (hc0 : tg BM c0 20) (x2 : Int32) (x3 : Int32) (x4 : Int32) (x5 : Int32) (n : Nat) (x6 : Int32) (x7 : Int32) (σ : St) (H : Heap) (locs : List Loc) (ls : Array Slot), HW BM g A s σ H locs → lv_has ls 8 [(0, .ref (g.2.1 c0)), (2, .int x2), (3, .int x3), (4, .int x4), (5, .int x5), (6, .int x6), (7, .int x7)] → ∀ (ex : Int32), f_M_layOrder_l78 n c0 x2 x3 x4 x5 x6 x7 σ = some ex → (∀ (y : Int32), ex = y → ∀ (H : Heap) (locs : List Loc) (ls : Array Slot), HW BM g A s σ H locs → lv_has ls 8 [(0, .ref (g.2.1 c0)), (2, .int x2), (3, .int x3), (4, .int x4), (5, .int x5), (7, .int y)] → W p l e (rmL 2) s m args below meth c H locs 0 0 (MQ below (QZ BM g q A) args s 0 0 A) (F0 m 119 ls [])) → (True) → W p l e (rmL 2) s m args below meth c H locs 0 0 (MQ below (QZ BM g q A) args s 0 0 A) (F0 m 78 ls []) := by
            intro c0 hc0 x2 x3 x4 x5 n
            induction n with
            | zero =>
              intro x6 x7 σ H locs ls hw hl ex h kx12 kr12
              cases h
            | succ n ih =>
              intro x6 x7 σ H locs ls hw hl ex h kx12 kr12
              rw [f_M_layOrder_l78] at h
              refine lv_aload_n hx hb d_M_layOrder_78 rfl (lv_at hl 0 rfl) ?_
              refine lv_iload_n hx hb d_M_layOrder_79 rfl (lv_at hl 2 rfl) ?_
              refine lv_iload hx hb d_M_layOrder_80 (lv_at hl 6 rfl) ?_
              refine clZ0 (v := (f_M_has c0 x3 x7)) C hw (invV (As := [.int x3, .int x7]) C hw (c_M_has g c0 hc0 x3 x7 σ l) rfl wc_M_340 nd_M_has ⟨by decide, by decide⟩ (rc_M C hw hc0) rfl hl.1 rfl (Nat.le_of_ble_eq_true rfl) d_M_layOrder_82 ⟨Nat.le_refl _, Nat.le_refl _⟩) (fun H locs hw => ?_)
              refine ifB (tgt := 93) C d_M_layOrder_85 (by decide) (fun b13 => ?_) (fun b13 => ?_)
              · replace h := ifp b13 h
                refine lv_iload hx hb d_M_layOrder_93 (lv_at hl 5 rfl) ?_
                refine lv_aload_n hx hb d_M_layOrder_95 rfl (lv_at hl 0 rfl) ?_
                refine lv_iload_n hx hb d_M_layOrder_96 rfl (lv_at hl 2 rfl) ?_
                refine lv_iload hx hb d_M_layOrder_97 (lv_at hl 6 rfl) ?_
                refine clZ0 (v := (f_M_has c0 x3 x7)) C hw (invV (As := [.int x3, .int x7]) C hw (c_M_has g c0 hc0 x3 x7 σ l) rfl wc_M_340 nd_M_has ⟨by decide, by decide⟩ (rc_M C hw hc0) rfl hl.1 rfl (Nat.le_of_ble_eq_true rfl) d_M_layOrder_99 ⟨Nat.le_refl _, Nat.le_refl _⟩) (fun H locs hw => ?_)
                refine ifB (tgt := 109) C d_M_layOrder_102 (by decide) (fun b14 => ?_) (fun b14 => ?_)
                · replace h := ifp b14 h
                  refine lv_iconst (v := 0) hx hb d_M_layOrder_109 (by decide) ?_
                  refine lv_isub hx hb d_M_layOrder_110 ?_
                  refine lv_istore (lv' := [(6, .int (x6 - 0)), (0, .ref (g.2.1 c0)), (2, .int x2), (3, .int x3), (4, .int x4), (5, .int x5), (7, .int x7)]) hx hb d_M_layOrder_111 hl (by decide) rfl (fun ls hl => ?_)
                  refine lv_iinc (v := (x7 + 1)) (lv' := [(7, .int (x7 + 1)), (6, .int (x6 - 0)), (0, .ref (g.2.1 c0)), (2, .int x2), (3, .int x3), (4, .int x4), (5, .int x5)]) hx hb d_M_layOrder_113 hl (k := 6) rfl rfl (by decide) rfl (fun ls hl => ?_)
                  refine lv_goto (tgt := 78) hx hb d_M_layOrder_116 (by decide) ?_
                  exact ih (x6 - 0) (x7 + 1) σ H locs ls hw (lv_sub hl [2, 3, 4, 5, 6, 1, 0] rfl) ex h kx12 kr12
                · replace h := ifn b14 h
                  refine lv_iconst (v := 1) hx hb d_M_layOrder_105 (by decide) ?_
                  refine lv_goto (tgt := 110) hx hb d_M_layOrder_106 (by decide) ?_
                  refine lv_isub hx hb d_M_layOrder_110 ?_
                  refine lv_istore (lv' := [(6, .int (x6 - 1)), (0, .ref (g.2.1 c0)), (2, .int x2), (3, .int x3), (4, .int x4), (5, .int x5), (7, .int x7)]) hx hb d_M_layOrder_111 hl (by decide) rfl (fun ls hl => ?_)
                  refine lv_iinc (v := (x7 + 1)) (lv' := [(7, .int (x7 + 1)), (6, .int (x6 - 1)), (0, .ref (g.2.1 c0)), (2, .int x2), (3, .int x3), (4, .int x4), (5, .int x5)]) hx hb d_M_layOrder_113 hl (k := 6) rfl rfl (by decide) rfl (fun ls hl => ?_)
                  refine lv_goto (tgt := 78) hx hb d_M_layOrder_116 (by decide) ?_
                  exact ih (x6 - 1) (x7 + 1) σ H locs ls hw (lv_sub hl [2, 3, 4, 5, 6, 1, 0] rfl) ex h kx12 kr12
              · replace h := ifn b13 h
                refine lv_iload hx hb d_M_layOrder_88 (lv_at hl 5 rfl) ?_
                refine lv_if_le (tgt := 119) hx hb d_M_layOrder_90 (by decide) (fun b15 => ?_) (fun b15 => ?_)
                · replace h := ifp b15 h
                  exact kx12 _ (Option.some.inj h).symm H locs ls hw (lv_sub hl [0, 1, 2, 3, 4, 6] rfl)
                · replace h := ifn b15 h
                  refine lv_iload hx hb d_M_layOrder_93 (lv_at hl 5 rfl) ?_
                  refine lv_aload_n hx hb d_M_layOrder_95 rfl (lv_at hl 0 rfl) ?_
                  refine lv_iload_n hx hb d_M_layOrder_96 rfl (lv_at hl 2 rfl) ?_
                  refine lv_iload hx hb d_M_layOrder_97 (lv_at hl 6 rfl) ?_
                  refine clZ0 (v := (f_M_has c0 x3 x7)) C hw (invV (As := [.int x3, .int x7]) C hw (c_M_has g c0 hc0 x3 x7 σ l) rfl wc_M_340 nd_M_has ⟨by decide, by decide⟩ (rc_M C hw hc0) rfl hl.1 rfl (Nat.le_of_ble_eq_true rfl) d_M_layOrder_99 ⟨Nat.le_refl _, Nat.le_refl _⟩) (fun H locs hw => ?_)
                  refine ifB (tgt := 109) C d_M_layOrder_102 (by decide) (fun b16 => ?_) (fun b16 => ?_)
                  · replace h := ifp b16 h
                    refine lv_iconst (v := 0) hx hb d_M_layOrder_109 (by decide) ?_
                    refine lv_isub hx hb d_M_layOrder_110 ?_
                    refine lv_istore (lv' := [(6, .int (x6 - 0)), (0, .ref (g.2.1 c0)), (2, .int x2), (3, .int x3), (4, .int x4), (5, .int x5), (7, .int x7)]) hx hb d_M_layOrder_111 hl (by decide) rfl (fun ls hl => ?_)
                    refine lv_iinc (v := (x7 + 1)) (lv' := [(7, .int (x7 + 1)), (6, .int (x6 - 0)), (0, .ref (g.2.1 c0)), (2, .int x2), (3, .int x3), (4, .int x4), (5, .int x5)]) hx hb d_M_layOrder_113 hl (k := 6) rfl rfl (by decide) rfl (fun ls hl => ?_)
                    refine lv_goto (tgt := 78) hx hb d_M_layOrder_116 (by decide) ?_
                    exact ih (x6 - 0) (x7 + 1) σ H locs ls hw (lv_sub hl [2, 3, 4, 5, 6, 1, 0] rfl) ex h kx12 kr12
                  · replace h := ifn b16 h
                    refine lv_iconst (v := 1) hx hb d_M_layOrder_105 (by decide) ?_
                    refine lv_goto (tgt := 110) hx hb d_M_layOrder_106 (by decide) ?_
                    refine lv_isub hx hb d_M_layOrder_110 ?_
                    refine lv_istore (lv' := [(6, .int (x6 - 1)), (0, .ref (g.2.1 c0)), (2, .int x2), (3, .int x3), (4, .int x4), (5, .int x5), (7, .int x7)]) hx hb d_M_layOrder_111 hl (by decide) rfl (fun ls hl => ?_)
                    refine lv_iinc (v := (x7 + 1)) (lv' := [(7, .int (x7 + 1)), (6, .int (x6 - 1)), (0, .ref (g.2.1 c0)), (2, .int x2), (3, .int x3), (4, .int x4), (5, .int x5)]) hx hb d_M_layOrder_113 hl (k := 6) rfl rfl (by decide) rfl (fun ls hl => ?_)
                    refine lv_goto (tgt := 78) hx hb d_M_layOrder_116 (by decide) ?_
                    exact ih (x6 - 1) (x7 + 1) σ H locs ls hw (lv_sub hl [2, 3, 4, 5, 6, 1, 0] rfl) ex h kx12 kr12
          refine bnd h (fun x_17 k18 h => ?_)
          refine L12 c0 hc0 (x2 / ((vI σ c0 0) - x5)) x3 (x4 % (x2 / ((vI σ c0 0) - x5))) x5 FU (x4 / (x2 / ((vI σ c0 0) - x5))) 0 σ H locs ls hw (lv_sub hl [4, 3, 5, 1, 6, 2, 0] rfl) x_17 k18 (fun y23 e24 H locs ls hw hl => ?_) trivial
          subst e24
          refine lv_aload_n hx hb d_M_layOrder_119 rfl (lv_at hl 0 rfl) ?_
          refine fg_M_126 C hw hc0 d_M_layOrder_120 ?_
          refine lv_iload hx hb d_M_layOrder_123 (lv_at hl 4 rfl) ?_
          refine lv_iload hx hb d_M_layOrder_125 (lv_at hl 5 rfl) ?_
          refine gde h (fun g20 h => ?_)
          refine ste h (fun s21 e22 h => ?_)
          refine stI (n := 5) C hw tM_21 (by decide) g20 d_M_layOrder_127 (fun H locs hw => ?_)
          replace hw := HWe hw e22
          refine lv_iload_n hx hb d_M_layOrder_128 rfl (lv_at hl 2 rfl) ?_
          refine lv_iconst (v := 1) hx hb d_M_layOrder_129 (by decide) ?_
          refine lv_iload hx hb d_M_layOrder_130 (lv_at hl 5 rfl) ?_
          refine lv_ishl hx hb d_M_layOrder_132 ?_
          refine lv_iconst (v := (-1)) hx hb d_M_layOrder_133 (by decide) ?_
          refine lv_ixor hx hb d_M_layOrder_134 ?_
          refine lv_iand hx hb d_M_layOrder_135 ?_
          refine lv_istore_n (lv' := [(3, .int (x3 &&& ((1 <<< (x_17 &&& (31 : Int32))) ^^^ (-1)))), (0, .ref (g.2.1 c0)), (2, .int (x2 / ((vI σ c0 0) - x5))), (4, .int (x4 % (x2 / ((vI σ c0 0) - x5)))), (5, .int x5), (7, .int x_17)]) hx hb d_M_layOrder_136 rfl hl (by decide) rfl (fun ls hl => ?_)
          refine lv_iinc (v := (x5 + 1)) (lv' := [(5, .int (x5 + 1)), (3, .int (x3 &&& ((1 <<< (x_17 &&& (31 : Int32))) ^^^ (-1)))), (0, .ref (g.2.1 c0)), (2, .int (x2 / ((vI σ c0 0) - x5))), (4, .int (x4 % (x2 / ((vI σ c0 0) - x5)))), (7, .int x_17)]) hx hb d_M_layOrder_137 hl (k := 4) rfl rfl (by decide) rfl (fun ls hl => ?_)
          refine lv_goto (tgt := 44) hx hb d_M_layOrder_140 (by decide) ?_
          exact ih (x2 / ((vI σ c0 0) - x5)) (x3 &&& ((1 <<< (x_17 &&& (31 : Int32))) ^^^ (-1))) (x4 % (x2 / ((vI σ c0 0) - x5))) (x5 + 1) s21 H locs ls hw (lv_sub hl [2, 3, 1, 4, 0] rfl) ex h kx7 kr7
    refine bnd h (fun x_25 k26 h => ?_)
    refine L7 c0 hc0 FU x_3 ((1 <<< ((vI σ c0 0) &&& (31 : Int32))) - 1) p1 0 σ H locs ls hw (lv_sub hl [3, 5, 2, 1, 0] rfl) x_25 k26 (fun y28 e29 H locs ls hw hl => ?_) trivial
    subst e29
    refine lv_iconst (v := 1) hx hb d_M_layOrder_143 (by decide) ?_
    exact retZ (b := true) C hw rfl rfl (Option.some.inj h) d_M_layOrder_144
  · replace h := ifn b6 h
    refine lv_iconst (v := 0) hx hb d_M_layOrder_27 (by decide) ?_
    exact retZ (b := false) C hw rfl rfl (Option.some.inj h) d_M_layOrder_28
def f_M_order_l45 : Nat → Nat → Int32 → Int32 → Int32 → Int32 → Int32 → St → Option (Int32 × St)
  | 0, _, _, _, _, _, _, _ => none
  | n + 1, c0, x1, x2, x3, x4, x5, σ => (if (vI σ c0 0) ≤ x5 then some (x4, σ) else (if ok x5 5 = true then ((f_M_goes c0 (vJ σ 21 (nx x5)) σ).bind fun q12 => (f_M_order_l45 n c0 x1 x2 x3 (x4 + q12.1) (x5 + 1) q12.2)) else none))
def f_M_order_l95 : Nat → Nat → Int32 → Int32 → Int32 → Int32 → St → Option (St)
  | 0, _, _, _, _, _, _ => none
  | n + 1, c0, x1, x2, x3, x5, σ => (if 5 ≤ x5 then some σ else (if ok x5 5 = true then (if ok x5 5 = true then (st (sJ σ 22 (upd (vJ σ 22) (nx x5) (vJ σ 21 (nx x5)))) fun s24 => (f_M_order_l95 n c0 x1 x2 x3 (x5 + 1) s24)) else none) else none))
def f_M_order_l27 : Nat → Nat → Int32 → Int32 → Int32 → St → Option (Int32 × St)
  | 0, _, _, _, _, _ => none
  | n + 1, c0, x1, x2, x3, σ => ((f_M_layOrder c0 x3 σ).bind fun q4 => (if q4.1 = false then some (x2, q4.2) else ((f_M_keep c0 q4.2).bind fun q7 => ((f_M_order_l45 FU c0 x1 x2 x3 0 0 q7).bind fun x_14 => ((f_M_putBack c0 x_14.2).bind fun q17 => (if x2 < x_14.1 then ((f_M_order_l95 FU c0 x1 x_14.1 x3 0 q17).bind fun x_26 => (f_M_order_l27 n c0 x1 x_14.1 (x3 + 1) x_26)) else (f_M_order_l27 n c0 x1 x2 (x3 + 1) q17)))))))
def f_M_order (c0 : Nat) (p1 : Int32) (σ : St) : Option (Int32 × St) := (if (f_M_in c0 p1 (-1) 4) = false then some ((-1), σ) else (if (vI σ c0 0) ≤ 5 then ((f_M_order_l27 FU c0 p1 (-1) 0 σ).bind fun x_33 => (if 0 ≤ p1 then (if (vI x_33.2 c0 0) ≤ p1 then some ((-5), x_33.2) else (if ok p1 5 = true then some ((vJ x_33.2 22 (nx p1)), x_33.2) else none)) else some (x_33.1, x_33.2))) else some ((-9), σ)))
set_option maxHeartbeats 400000 in
set_option maxRecDepth 20000 in
theorem c_M_order (g : GX) (c0 : Nat) (hc0 : tg BM c0 20) (p1 : Int32) (σ : St) (q : Int32 × St) (h : f_M_order c0 p1 σ = some q) (l : Launch) : CT BM l y_M_order (v_M_order :: lwG) 7 [.ref (g.2.1 c0), .int p1] g σ (QI BM g q) := by
  refine mkC (cc := b_M_order) (maxL := 6) (ret := (some .int)) rfl (by decide) rfl (Nat.le_of_ble_eq_true rfl) ?_
  intro p e s m args below meth c A ls C hl hw
  obtain ⟨hx, hb, hr, hml, hown, hts, hK, hE, hA, hlk⟩ := id C
  replace hl : lv_has ls 6 [(0, .ref (g.2.1 c0)), (1, .int p1)] := hl
  obtain ⟨H, hH⟩ : ∃ z, z = s.heap := ⟨_, rfl⟩
  rw [← hH] at hw ⊢
  obtain ⟨locs, hlo⟩ : ∃ z : List Loc, z = [] := ⟨_, rfl⟩
  rw [← hlo] at hw ⊢
  unfold f_M_order at h
  refine lv_aload_n hx hb d_M_order_0 rfl (lv_at hl 0 rfl) ?_
  refine lv_iload_n hx hb d_M_order_1 rfl (lv_at hl 1 rfl) ?_
  refine lv_iconst (v := (-1)) hx hb d_M_order_2 (by decide) ?_
  refine lv_iconst (v := 4) hx hb d_M_order_3 (by decide) ?_
  refine clZ0 (v := (f_M_in c0 p1 (-1) 4)) C hw (invV (As := [.int p1, .int (-1), .int 4]) C hw (c_M_in g c0 hc0 p1 (-1) 4 σ l) rfl wc_M_218 nd_M_in ⟨by decide, by decide⟩ (rc_M C hw hc0) rfl hl.1 rfl (Nat.le_of_ble_eq_true rfl) d_M_order_4 ⟨Nat.le_refl _, Nat.le_refl _⟩) (fun H locs hw => ?_)
  refine ifnB (tgt := 12) C d_M_order_7 (by decide) (fun b1 => ?_) (fun b1 => ?_)
  · replace h := ifn b1 h
    refine lv_aload_n hx hb d_M_order_12 rfl (lv_at hl 0 rfl) ?_
    refine fg_M_7 C hw hc0 d_M_order_13 ?_
    refine lv_iconst (v := 5) hx hb d_M_order_16 (by decide) ?_
    refine lv_icmp_le (tgt := 23) hx hb d_M_order_17 (by decide) (fun b2 => ?_) (fun b2 => ?_)
    · replace h := ifp b2 h
      refine lv_iconst (v := (-1)) hx hb d_M_order_23 (by decide) ?_
      refine lv_istore_n (lv' := [(2, .int (-1)), (0, .ref (g.2.1 c0)), (1, .int p1)]) hx hb d_M_order_24 rfl hl (by decide) rfl (fun ls hl => ?_)
      refine lv_iconst (v := 0) hx hb d_M_order_25 (by decide) ?_
      refine lv_istore_n (lv' := [(3, .int 0), (2, .int (-1)), (0, .ref (g.2.1 c0)), (1, .int p1)]) hx hb d_M_order_26 rfl hl (by decide) rfl (fun ls hl => ?_)
      have L3 : ∀ (c0 : Nat) (hc0 : tg BM c0 20) (x1 : Int32) (n : Nat) (x2 : Int32) (x3 : Int32) (σ : St) (H : Heap) (locs : List Loc) (ls : Array Slot), HW BM g A s σ H locs → lv_has ls 6 [(0, .ref (g.2.1 c0)), (1, .int x1), (2, .int x2), (3, .int x3)] → ∀ (ex : Int32 × St), f_M_order_l27 n c0 x1 x2 x3 σ = some ex → (∀ (y : Int32 × St), ex = y → ∀ (H : Heap) (locs : List Loc) (ls : Array Slot), HW BM g A s y.2 H locs → lv_has ls 6 [(0, .ref (g.2.1 c0)), (1, .int x1), (2, .int y.1)] → W p l e (rmL 7) s m args below meth c H locs 0 0 (MQ below (QI BM g q A) args s 0 0 A) (F0 m 127 ls [])) → (True) → W p l e (rmL 7) s m args below meth c H locs 0 0 (MQ below (QI BM g q A) args s 0 0 A) (F0 m 27 ls []) := by
        intro c0 hc0 x1 n
        induction n with
        | zero =>
          intro x2 x3 σ H locs ls hw hl ex h kx3 kr3
          cases h
        | succ n ih =>
          intro x2 x3 σ H locs ls hw hl ex h kx3 kr3
          rw [f_M_order_l27] at h
          refine lv_aload_n hx hb d_M_order_27 rfl (lv_at hl 0 rfl) ?_
          refine lv_iload_n hx hb d_M_order_28 rfl (lv_at hl 3 rfl) ?_
          refine bnd h (fun q4 k5 h => ?_)
          refine clZ C hw (invV (As := [.int x3]) C hw (c_M_layOrder g c0 hc0 x3 σ q4 k5 l) rfl wc_M_343 nd_M_layOrder ⟨by decide, by decide⟩ (rc_M C hw hc0) rfl hl.1 rfl (Nat.le_of_ble_eq_true rfl) d_M_order_29 ⟨Nat.le_refl _, Nat.le_refl _⟩) (fun H locs hw => ?_)
          refine ifB (tgt := 127) C d_M_order_32 (by decide) (fun b6 => ?_) (fun b6 => ?_)
          · replace h := ifp b6 h
            exact kx3 _ (Option.some.inj h).symm H locs ls hw (lv_sub hl [0, 1, 2] rfl)
          · replace h := ifn b6 h
            refine lv_aload_n hx hb d_M_order_35 rfl (lv_at hl 0 rfl) ?_
            refine bnd h (fun q7 k8 h => ?_)
            refine clV C hw (invV (As := []) C hw (c_M_keep g c0 hc0 q4.2 q7 k8 l) rfl wc_M_325 nd_M_keep ⟨by decide, by decide⟩ (rc_M C hw hc0) rfl hl.1 rfl (Nat.le_of_ble_eq_true rfl) d_M_order_36 ⟨Nat.le_refl _, Nat.le_refl _⟩) (fun H locs hw => ?_)
            refine lv_iconst (v := 0) hx hb d_M_order_39 (by decide) ?_
            refine lv_istore (lv' := [(4, .int 0), (0, .ref (g.2.1 c0)), (1, .int x1), (2, .int x2), (3, .int x3)]) hx hb d_M_order_40 hl (by decide) rfl (fun ls hl => ?_)
            refine lv_iconst (v := 0) hx hb d_M_order_42 (by decide) ?_
            refine lv_istore (lv' := [(5, .int 0), (4, .int 0), (0, .ref (g.2.1 c0)), (1, .int x1), (2, .int x2), (3, .int x3)]) hx hb d_M_order_43 hl (by decide) rfl (fun ls hl => ?_)
            have L9 : ∀ (c0 : Nat) (hc0 : tg BM c0 20) (x1 : Int32) (x2 : Int32) (x3 : Int32) (n : Nat) (x4 : Int32) (x5 : Int32) (σ : St) (H : Heap) (locs : List Loc) (ls : Array Slot), HW BM g A s σ H locs → lv_has ls 6 [(0, .ref (g.2.1 c0)), (1, .int x1), (2, .int x2), (3, .int x3), (4, .int x4), (5, .int x5)] → ∀ (ex : Int32 × St), f_M_order_l45 n c0 x1 x2 x3 x4 x5 σ = some ex → (∀ (y : Int32 × St), ex = y → ∀ (H : Heap) (locs : List Loc) (ls : Array Slot), HW BM g A s y.2 H locs → lv_has ls 6 [(0, .ref (g.2.1 c0)), (1, .int x1), (2, .int x2), (3, .int x3), (4, .int y.1)] → W p l e (rmL 7) s m args below meth c H locs 0 0 (MQ below (QI BM g q A) args s 0 0 A) (F0 m 76 ls [])) → (True) → W p l e (rmL 7) s m args below meth c H locs 0 0 (MQ below (QI BM g q A) args s 0 0 A) (F0 m 45 ls []) := by
              intro c0 hc0 x1 x2 x3 n
              induction n with
              | zero =>
                intro x4 x5 σ H locs ls hw hl ex h kx9 kr9
                cases h
              | succ n ih =>
                intro x4 x5 σ H locs ls hw hl ex h kx9 kr9
                rw [f_M_order_l45] at h
                refine lv_iload hx hb d_M_order_45 (lv_at hl 5 rfl) ?_
                refine lv_aload_n hx hb d_M_order_47 rfl (lv_at hl 0 rfl) ?_
                refine fg_M_7 C hw hc0 d_M_order_48 ?_
                refine lv_icmp_ge (tgt := 76) hx hb d_M_order_51 (by decide) (fun b10 => ?_) (fun b10 => ?_)
                · replace h := ifp b10 h
                  exact kx9 _ (Option.some.inj h).symm H locs ls hw (lv_sub hl [0, 1, 2, 3, 4] rfl)
                · replace h := ifn b10 h
                  refine lv_iload hx hb d_M_order_54 (lv_at hl 4 rfl) ?_
                  refine lv_aload_n hx hb d_M_order_56 rfl (lv_at hl 0 rfl) ?_
                  refine lv_aload_n hx hb d_M_order_57 rfl (lv_at hl 0 rfl) ?_
                  refine fg_M_126 C hw hc0 d_M_order_58 ?_
                  refine lv_iload hx hb d_M_order_61 (lv_at hl 5 rfl) ?_
                  refine gde h (fun g11 h => ?_)
                  refine ldI (n := 5) C hw tM_21 (by decide) g11 d_M_order_63 ?_
                  refine bnd h (fun q12 k13 h => ?_)
                  refine clI C hw (invV (As := [.int (vJ σ 21 (nx x5))]) C hw (c_M_goes g c0 hc0 (vJ σ 21 (nx x5)) σ q12 k13 l) rfl wc_M_319 nd_M_goes ⟨by decide, by decide⟩ (rc_M C hw hc0) rfl hl.1 rfl (Nat.le_of_ble_eq_true rfl) d_M_order_64 ⟨Nat.le_refl _, Nat.le_refl _⟩) (fun H locs hw => ?_)
                  refine lv_iadd hx hb d_M_order_67 ?_
                  refine lv_istore (lv' := [(4, .int (x4 + q12.1)), (0, .ref (g.2.1 c0)), (1, .int x1), (2, .int x2), (3, .int x3), (5, .int x5)]) hx hb d_M_order_68 hl (by decide) rfl (fun ls hl => ?_)
                  refine lv_iinc (v := (x5 + 1)) (lv' := [(5, .int (x5 + 1)), (4, .int (x4 + q12.1)), (0, .ref (g.2.1 c0)), (1, .int x1), (2, .int x2), (3, .int x3)]) hx hb d_M_order_70 hl (k := 5) rfl rfl (by decide) rfl (fun ls hl => ?_)
                  refine lv_goto (tgt := 45) hx hb d_M_order_73 (by decide) ?_
                  exact ih (x4 + q12.1) (x5 + 1) q12.2 H locs ls hw (lv_sub hl [2, 3, 4, 5, 1, 0] rfl) ex h kx9 kr9
            refine bnd h (fun x_14 k15 h => ?_)
            refine L9 c0 hc0 x1 x2 x3 FU 0 0 q7 H locs ls hw (lv_sub hl [2, 3, 4, 5, 1, 0] rfl) x_14 k15 (fun y31 e32 H locs ls hw hl => ?_) trivial
            subst e32
            refine lv_aload_n hx hb d_M_order_76 rfl (lv_at hl 0 rfl) ?_
            refine bnd h (fun q17 k18 h => ?_)
            refine clV C hw (invV (As := []) C hw (c_M_putBack g c0 hc0 x_14.2 q17 k18 l) rfl wc_M_334 nd_M_putBack ⟨by decide, by decide⟩ (rc_M C hw hc0) rfl hl.1 rfl (Nat.le_of_ble_eq_true rfl) d_M_order_77 ⟨Nat.le_refl _, Nat.le_refl _⟩) (fun H locs hw => ?_)
            refine lv_iload hx hb d_M_order_80 (lv_at hl 4 rfl) ?_
            refine lv_iload_n hx hb d_M_order_82 rfl (lv_at hl 2 rfl) ?_
            refine lv_icmp_gt (tgt := 89) hx hb d_M_order_83 (by decide) (fun b19 => ?_) (fun b19 => ?_)
            · replace h := ifp b19 h
              refine lv_iload hx hb d_M_order_89 (lv_at hl 4 rfl) ?_
              refine lv_istore_n (lv' := [(2, .int x_14.1), (0, .ref (g.2.1 c0)), (1, .int x1), (3, .int x3), (4, .int x_14.1)]) hx hb d_M_order_91 rfl hl (by decide) rfl (fun ls hl => ?_)
              refine lv_iconst (v := 0) hx hb d_M_order_92 (by decide) ?_
              refine lv_istore (lv' := [(5, .int 0), (2, .int x_14.1), (0, .ref (g.2.1 c0)), (1, .int x1), (3, .int x3), (4, .int x_14.1)]) hx hb d_M_order_93 hl (by decide) rfl (fun ls hl => ?_)
              have L20 : ∀ (c0 : Nat) (hc0 : tg BM c0 20) (x1 : Int32) (x2 : Int32) (x3 : Int32) (n : Nat) (x5 : Int32) (σ : St) (H : Heap) (locs : List Loc) (ls : Array Slot), HW BM g A s σ H locs → lv_has ls 6 [(0, .ref (g.2.1 c0)), (1, .int x1), (2, .int x2), (3, .int x3), (5, .int x5)] → ∀ (ex : St), f_M_order_l95 n c0 x1 x2 x3 x5 σ = some ex → (∀ (y : St), ex = y → ∀ (H : Heap) (locs : List Loc) (ls : Array Slot), HW BM g A s y H locs → lv_has ls 6 [(0, .ref (g.2.1 c0)), (1, .int x1), (2, .int x2), (3, .int x3)] → W p l e (rmL 7) s m args below meth c H locs 0 0 (MQ below (QI BM g q A) args s 0 0 A) (F0 m 121 ls [])) → (True) → W p l e (rmL 7) s m args below meth c H locs 0 0 (MQ below (QI BM g q A) args s 0 0 A) (F0 m 95 ls []) := by
                intro c0 hc0 x1 x2 x3 n
                induction n with
                | zero =>
                  intro x5 σ H locs ls hw hl ex h kx20 kr20
                  cases h
                | succ n ih =>
                  intro x5 σ H locs ls hw hl ex h kx20 kr20
                  rw [f_M_order_l95] at h
                  refine lv_iload hx hb d_M_order_95 (lv_at hl 4 rfl) ?_
                  refine lv_iconst (v := 5) hx hb d_M_order_97 (by decide) ?_
                  refine lv_icmp_ge (tgt := 121) hx hb d_M_order_98 (by decide) (fun b21 => ?_) (fun b21 => ?_)
                  · replace h := ifp b21 h
                    exact kx20 _ (Option.some.inj h).symm H locs ls hw (lv_sub hl [0, 1, 2, 3] rfl)
                  · replace h := ifn b21 h
                    refine lv_aload_n hx hb d_M_order_101 rfl (lv_at hl 0 rfl) ?_
                    refine fg_M_129 C hw hc0 d_M_order_102 ?_
                    refine lv_iload hx hb d_M_order_105 (lv_at hl 4 rfl) ?_
                    refine lv_aload_n hx hb d_M_order_107 rfl (lv_at hl 0 rfl) ?_
                    refine fg_M_126 C hw hc0 d_M_order_108 ?_
                    refine lv_iload hx hb d_M_order_111 (lv_at hl 4 rfl) ?_
                    refine gde h (fun g22 h => ?_)
                    refine ldI (n := 5) C hw tM_21 (by decide) g22 d_M_order_113 ?_
                    refine gde h (fun g23 h => ?_)
                    refine ste h (fun s24 e25 h => ?_)
                    refine stI (n := 5) C hw tM_22 (by decide) g23 d_M_order_114 (fun H locs hw => ?_)
                    replace hw := HWe hw e25
                    refine lv_iinc (v := (x5 + 1)) (lv' := [(5, .int (x5 + 1)), (0, .ref (g.2.1 c0)), (1, .int x1), (2, .int x2), (3, .int x3)]) hx hb d_M_order_115 hl (k := 4) rfl rfl (by decide) rfl (fun ls hl => ?_)
                    refine lv_goto (tgt := 95) hx hb d_M_order_118 (by decide) ?_
                    exact ih (x5 + 1) s24 H locs ls hw (lv_sub hl [1, 2, 3, 4, 0] rfl) ex h kx20 kr20
              refine bnd h (fun x_26 k27 h => ?_)
              refine L20 c0 hc0 x1 x_14.1 x3 FU 0 q17 H locs ls hw (lv_sub hl [2, 3, 1, 4, 0] rfl) x_26 k27 (fun y29 e30 H locs ls hw hl => ?_) trivial
              subst e30
              refine lv_iinc (v := (x3 + 1)) (lv' := [(3, .int (x3 + 1)), (0, .ref (g.2.1 c0)), (1, .int x1), (2, .int x_14.1)]) hx hb d_M_order_121 hl (k := 3) rfl rfl (by decide) rfl (fun ls hl => ?_)
              refine lv_goto (tgt := 27) hx hb d_M_order_124 (by decide) ?_
              exact ih x_14.1 (x3 + 1) x_26 H locs ls hw (lv_sub hl [1, 2, 3, 0] rfl) ex h kx3 kr3
            · replace h := ifn b19 h
              refine lv_goto (tgt := 121) hx hb d_M_order_86 (by decide) ?_
              refine lv_iinc (v := (x3 + 1)) (lv' := [(3, .int (x3 + 1)), (0, .ref (g.2.1 c0)), (1, .int x1), (2, .int x2), (4, .int x_14.1)]) hx hb d_M_order_121 hl (k := 3) rfl rfl (by decide) rfl (fun ls hl => ?_)
              refine lv_goto (tgt := 27) hx hb d_M_order_124 (by decide) ?_
              exact ih x2 (x3 + 1) q17 H locs ls hw (lv_sub hl [1, 2, 3, 0] rfl) ex h kx3 kr3
      refine bnd h (fun x_33 k34 h => ?_)
      refine L3 c0 hc0 p1 FU (-1) 0 σ H locs ls hw (lv_sub hl [2, 3, 1, 0] rfl) x_33 k34 (fun y39 e40 H locs ls hw hl => ?_) trivial
      subst e40
      refine lv_iload_n hx hb d_M_order_127 rfl (lv_at hl 1 rfl) ?_
      refine lv_if_ge (tgt := 135) hx hb d_M_order_128 (by decide) (fun b36 => ?_) (fun b36 => ?_)
      · replace h := ifp b36 h
        refine lv_iload_n hx hb d_M_order_135 rfl (lv_at hl 1 rfl) ?_
        refine lv_aload_n hx hb d_M_order_136 rfl (lv_at hl 0 rfl) ?_
        refine fg_M_7 C hw hc0 d_M_order_137 ?_
        refine lv_icmp_ge (tgt := 152) hx hb d_M_order_140 (by decide) (fun b37 => ?_) (fun b37 => ?_)
        · replace h := ifp b37 h
          refine lv_bipush (v := (-5)) hx hb d_M_order_152 (by decide) ?_
          exact retI C hw rfl (Option.some.inj h) d_M_order_154
        · replace h := ifn b37 h
          refine lv_aload_n hx hb d_M_order_143 rfl (lv_at hl 0 rfl) ?_
          refine fg_M_129 C hw hc0 d_M_order_144 ?_
          refine lv_iload_n hx hb d_M_order_147 rfl (lv_at hl 1 rfl) ?_
          refine gde h (fun g38 h => ?_)
          refine ldI (n := 5) C hw tM_22 (by decide) g38 d_M_order_148 ?_
          refine lv_goto (tgt := 154) hx hb d_M_order_149 (by decide) ?_
          exact retI C hw rfl (Option.some.inj h) d_M_order_154
      · replace h := ifn b36 h
        refine lv_iload_n hx hb d_M_order_131 rfl (lv_at hl 2 rfl) ?_
        refine lv_goto (tgt := 154) hx hb d_M_order_132 (by decide) ?_
        exact retI C hw rfl (Option.some.inj h) d_M_order_154
    · replace h := ifn b2 h
      refine lv_bipush (v := (-9)) hx hb d_M_order_20 (by decide) ?_
      exact retI C hw rfl (Option.some.inj h) d_M_order_22
  · replace h := ifp b1 h
    refine lv_iconst (v := (-1)) hx hb d_M_order_10 (by decide) ?_
    exact retI C hw rfl (Option.some.inj h) d_M_order_11
def f_M_without (c0 : Nat) (p1 : Int32) (p2 : Int32) (σ : St) : Option (Int32 × St) := (if (f_M_isTaker c0 p1 σ) = false then some ((-10001), σ) else (if (f_M_in c0 p2 0 30) = false then some ((-10002), σ) else ((f_M_fetchesIn c0 p2 σ).bind fun q3 => (st (sI q3.2 c0 31 p1) fun s6 => ((f_M_fetchesIn c0 p2 s6).bind fun q7 => (st (sI q7.2 c0 31 (-1)) fun s10 => some ((q3.1 - q7.1), s10)))))))
set_option maxHeartbeats 400000 in
set_option maxRecDepth 20000 in
theorem c_M_without (g : GX) (c0 : Nat) (hc0 : tg BM c0 20) (p1 : Int32) (p2 : Int32) (σ : St) (q : Int32 × St) (h : f_M_without c0 p1 p2 σ = some q) (l : Launch) : CT BM l y_M_without (v_M_without :: lwG) 10 [.ref (g.2.1 c0), .int p1, .int p2] g σ (QI BM g q) := by
  refine mkC (cc := b_M_without) (maxL := 5) (ret := (some .int)) rfl (by decide) rfl (Nat.le_of_ble_eq_true rfl) ?_
  intro p e s m args below meth c A ls C hl hw
  obtain ⟨hx, hb, hr, hml, hown, hts, hK, hE, hA, hlk⟩ := id C
  replace hl : lv_has ls 5 [(0, .ref (g.2.1 c0)), (1, .int p1), (2, .int p2)] := hl
  obtain ⟨H, hH⟩ : ∃ z, z = s.heap := ⟨_, rfl⟩
  rw [← hH] at hw ⊢
  obtain ⟨locs, hlo⟩ : ∃ z : List Loc, z = [] := ⟨_, rfl⟩
  rw [← hlo] at hw ⊢
  unfold f_M_without at h
  refine lv_aload_n hx hb d_M_without_0 rfl (lv_at hl 0 rfl) ?_
  refine lv_iload_n hx hb d_M_without_1 rfl (lv_at hl 1 rfl) ?_
  refine clZ0 (v := (f_M_isTaker c0 p1 σ)) C hw (invV (As := [.int p1]) C hw (c_M_isTaker g c0 hc0 p1 σ l) rfl wc_M_222 nd_M_isTaker ⟨by decide, by decide⟩ (rc_M C hw hc0) rfl hl.1 rfl (Nat.le_of_ble_eq_true rfl) d_M_without_2 ⟨Nat.le_refl _, Nat.le_refl _⟩) (fun H locs hw => ?_)
  refine ifnB (tgt := 12) C d_M_without_5 (by decide) (fun b1 => ?_) (fun b1 => ?_)
  · replace h := ifn b1 h
    refine lv_aload_n hx hb d_M_without_12 rfl (lv_at hl 0 rfl) ?_
    refine lv_iload_n hx hb d_M_without_13 rfl (lv_at hl 2 rfl) ?_
    refine lv_iconst (v := 0) hx hb d_M_without_14 (by decide) ?_
    refine lv_bipush (v := 30) hx hb d_M_without_15 (by decide) ?_
    refine clZ0 (v := (f_M_in c0 p2 0 30)) C hw (invV (As := [.int p2, .int 0, .int 30]) C hw (c_M_in g c0 hc0 p2 0 30 σ l) rfl wc_M_218 nd_M_in ⟨by decide, by decide⟩ (rc_M C hw hc0) rfl hl.1 rfl (Nat.le_of_ble_eq_true rfl) d_M_without_17 ⟨Nat.le_refl _, Nat.le_refl _⟩) (fun H locs hw => ?_)
    refine ifnB (tgt := 27) C d_M_without_20 (by decide) (fun b2 => ?_) (fun b2 => ?_)
    · replace h := ifn b2 h
      refine lv_aload_n hx hb d_M_without_27 rfl (lv_at hl 0 rfl) ?_
      refine lv_iload_n hx hb d_M_without_28 rfl (lv_at hl 2 rfl) ?_
      refine bnd h (fun q3 k4 h => ?_)
      refine clI C hw (invV (As := [.int p2]) C hw (c_M_fetchesIn g c0 hc0 p2 σ q3 k4 l) rfl wc_M_337 nd_M_fetchesIn ⟨by decide, by decide⟩ (rc_M C hw hc0) rfl hl.1 rfl (Nat.le_of_ble_eq_true rfl) d_M_without_29 ⟨Nat.le_refl _, Nat.le_refl _⟩) (fun H locs hw => ?_)
      refine lv_istore_n (lv' := [(3, .int q3.1), (0, .ref (g.2.1 c0)), (1, .int p1), (2, .int p2)]) hx hb d_M_without_32 rfl hl (by decide) rfl (fun ls hl => ?_)
      refine lv_aload_n hx hb d_M_without_33 rfl (lv_at hl 1 rfl) ?_
      refine lv_iload_n hx hb d_M_without_34 rfl (lv_at hl 2 rfl) ?_
      refine ste h (fun s6 e12 h => ?_)
      refine fp_M_105 C hw hc0 d_M_without_35 (fun H locs hw => ?_)
      replace hw := HWe hw e12
      refine lv_aload_n hx hb d_M_without_38 rfl (lv_at hl 1 rfl) ?_
      refine lv_iload_n hx hb d_M_without_39 rfl (lv_at hl 3 rfl) ?_
      refine bnd h (fun q7 k8 h => ?_)
      refine clI C hw (invV (As := [.int p2]) C hw (c_M_fetchesIn g c0 hc0 p2 s6 q7 k8 l) rfl wc_M_337 nd_M_fetchesIn ⟨by decide, by decide⟩ (rc_M C hw hc0) rfl hl.1 rfl (Nat.le_of_ble_eq_true rfl) d_M_without_40 ⟨Nat.le_refl _, Nat.le_refl _⟩) (fun H locs hw => ?_)
      refine lv_istore (lv' := [(4, .int q7.1), (3, .int q3.1), (0, .ref (g.2.1 c0)), (1, .int p1), (2, .int p2)]) hx hb d_M_without_43 hl (by decide) rfl (fun ls hl => ?_)
      refine lv_aload_n hx hb d_M_without_45 rfl (lv_at hl 2 rfl) ?_
      refine lv_iconst (v := (-1)) hx hb d_M_without_46 (by decide) ?_
      refine ste h (fun s10 e11 h => ?_)
      refine fp_M_105 C hw hc0 d_M_without_47 (fun H locs hw => ?_)
      replace hw := HWe hw e11
      refine lv_iload_n hx hb d_M_without_50 rfl (lv_at hl 1 rfl) ?_
      refine lv_iload hx hb d_M_without_51 (lv_at hl 0 rfl) ?_
      refine lv_isub hx hb d_M_without_53 ?_
      exact retI C hw rfl (Option.some.inj h) d_M_without_54
    · replace h := ifp b2 h
      refine lv_sipush (v := (-10002)) hx hb d_M_without_23 (by decide) ?_
      exact retI C hw rfl (Option.some.inj h) d_M_without_26
  · replace h := ifp b1 h
    refine lv_sipush (v := (-10001)) hx hb d_M_without_8 (by decide) ?_
    exact retI C hw rfl (Option.some.inj h) d_M_without_11
def f_M_few_l36 : Nat → Nat → Int32 → Int32 → Int32 → Int32 → St → Option (Int32 × St)
  | 0, _, _, _, _, _, _ => none
  | n + 1, c0, x1, x2, x3, x4, σ => (if 300 ≤ x4 then some (x3, σ) else (if (vI σ c0 0) ≤ 0 then some (x3, σ) else (if 0 ≤ x3 then some (x3, σ) else (if (vI σ c0 0) = 0 then none else ((f_M_goes c0 (x4 % (vI σ c0 0)) σ).bind fun q10 => (((if (f_M_in c0 (vI q10.2 c0 30) 1 x1) = false then some (-5) else some x4) : Option (Int32)).bind fun q12 => (if (vI q10.2 c0 0) = 0 then none else (if (x4 % (vI q10.2 c0 0)) = ((vI q10.2 c0 0) - 1) then (st (sI q10.2 c0 2 ((vI q10.2 c0 2) + 1)) fun s24 => (f_M_few_l36 n c0 x1 x2 q12 (x4 + 1) s24)) else (st (sI q10.2 c0 2 ((vI q10.2 c0 2) + 0)) fun s21 => (f_M_few_l36 n c0 x1 x2 q12 (x4 + 1) s21))))))))))
def f_M_few (c0 : Nat) (p1 : Int32) (p2 : Int32) (σ : St) : Option (Int32 × St) := (if (f_M_in c0 p2 0 1) = false then some ((-1), σ) else (if (f_M_in c0 p1 0 99) = false then some ((-2), σ) else ((f_M_keep c0 σ).bind fun q3 => ((f_M_few_l36 FU c0 p1 p2 (-5) 0 q3).bind fun x_26 => ((f_M_putBack c0 x_26.2).bind fun q29 => (if x_26.1 < 0 then some (x_26.1, q29) else (if p2 = 0 then some (x_26.1, q29) else (if (vI q29 c0 0) = 0 then none else some ((x_26.1 % (vI q29 c0 0)), q29)))))))))
set_option maxHeartbeats 400000 in
set_option maxRecDepth 20000 in
theorem c_M_few (g : GX) (c0 : Nat) (hc0 : tg BM c0 20) (p1 : Int32) (p2 : Int32) (σ : St) (q : Int32 × St) (h : f_M_few c0 p1 p2 σ = some q) (l : Launch) : CT BM l y_M_few (v_M_few :: lwG) 7 [.ref (g.2.1 c0), .int p1, .int p2] g σ (QI BM g q) := by
  refine mkC (cc := b_M_few) (maxL := 6) (ret := (some .int)) rfl (by decide) rfl (Nat.le_of_ble_eq_true rfl) ?_
  intro p e s m args below meth c A ls C hl hw
  obtain ⟨hx, hb, hr, hml, hown, hts, hK, hE, hA, hlk⟩ := id C
  replace hl : lv_has ls 6 [(0, .ref (g.2.1 c0)), (1, .int p1), (2, .int p2)] := hl
  obtain ⟨H, hH⟩ : ∃ z, z = s.heap := ⟨_, rfl⟩
  rw [← hH] at hw ⊢
  obtain ⟨locs, hlo⟩ : ∃ z : List Loc, z = [] := ⟨_, rfl⟩
  rw [← hlo] at hw ⊢
  unfold f_M_few at h
  refine lv_aload_n hx hb d_M_few_0 rfl (lv_at hl 0 rfl) ?_
  refine lv_iload_n hx hb d_M_few_1 rfl (lv_at hl 2 rfl) ?_
  refine lv_iconst (v := 0) hx hb d_M_few_2 (by decide) ?_
  refine lv_iconst (v := 1) hx hb d_M_few_3 (by decide) ?_
  refine clZ0 (v := (f_M_in c0 p2 0 1)) C hw (invV (As := [.int p2, .int 0, .int 1]) C hw (c_M_in g c0 hc0 p2 0 1 σ l) rfl wc_M_218 nd_M_in ⟨by decide, by decide⟩ (rc_M C hw hc0) rfl hl.1 rfl (Nat.le_of_ble_eq_true rfl) d_M_few_4 ⟨Nat.le_refl _, Nat.le_refl _⟩) (fun H locs hw => ?_)
  refine ifnB (tgt := 12) C d_M_few_7 (by decide) (fun b1 => ?_) (fun b1 => ?_)
  · replace h := ifn b1 h
    refine lv_aload_n hx hb d_M_few_12 rfl (lv_at hl 0 rfl) ?_
    refine lv_iload_n hx hb d_M_few_13 rfl (lv_at hl 1 rfl) ?_
    refine lv_iconst (v := 0) hx hb d_M_few_14 (by decide) ?_
    refine lv_bipush (v := 99) hx hb d_M_few_15 (by decide) ?_
    refine clZ0 (v := (f_M_in c0 p1 0 99)) C hw (invV (As := [.int p1, .int 0, .int 99]) C hw (c_M_in g c0 hc0 p1 0 99 σ l) rfl wc_M_218 nd_M_in ⟨by decide, by decide⟩ (rc_M C hw hc0) rfl hl.1 rfl (Nat.le_of_ble_eq_true rfl) d_M_few_17 ⟨Nat.le_refl _, Nat.le_refl _⟩) (fun H locs hw => ?_)
    refine ifnB (tgt := 26) C d_M_few_20 (by decide) (fun b2 => ?_) (fun b2 => ?_)
    · replace h := ifn b2 h
      refine lv_aload_n hx hb d_M_few_26 rfl (lv_at hl 0 rfl) ?_
      refine bnd h (fun q3 k4 h => ?_)
      refine clV C hw (invV (As := []) C hw (c_M_keep g c0 hc0 σ q3 k4 l) rfl wc_M_325 nd_M_keep ⟨by decide, by decide⟩ (rc_M C hw hc0) rfl hl.1 rfl (Nat.le_of_ble_eq_true rfl) d_M_few_27 ⟨Nat.le_refl _, Nat.le_refl _⟩) (fun H locs hw => ?_)
      refine lv_bipush (v := (-5)) hx hb d_M_few_30 (by decide) ?_
      refine lv_istore_n (lv' := [(3, .int (-5)), (0, .ref (g.2.1 c0)), (1, .int p1), (2, .int p2)]) hx hb d_M_few_32 rfl hl (by decide) rfl (fun ls hl => ?_)
      refine lv_iconst (v := 0) hx hb d_M_few_33 (by decide) ?_
      refine lv_istore (lv' := [(4, .int 0), (3, .int (-5)), (0, .ref (g.2.1 c0)), (1, .int p1), (2, .int p2)]) hx hb d_M_few_34 hl (by decide) rfl (fun ls hl => ?_)
      have L5 : ∀ (c0 : Nat) (hc0 : tg BM c0 20) (x1 : Int32) (x2 : Int32) (n : Nat) (x3 : Int32) (x4 : Int32) (σ : St) (H : Heap) (locs : List Loc) (ls : Array Slot), HW BM g A s σ H locs → lv_has ls 6 [(0, .ref (g.2.1 c0)), (1, .int x1), (2, .int x2), (3, .int x3), (4, .int x4)] → ∀ (ex : Int32 × St), f_M_few_l36 n c0 x1 x2 x3 x4 σ = some ex → (∀ (y : Int32 × St), ex = y → ∀ (H : Heap) (locs : List Loc) (ls : Array Slot), HW BM g A s y.2 H locs → lv_has ls 6 [(0, .ref (g.2.1 c0)), (2, .int x2), (3, .int y.1)] → W p l e (rmL 7) s m args below meth c H locs 0 0 (MQ below (QI BM g q A) args s 0 0 A) (F0 m 125 ls [])) → (True) → W p l e (rmL 7) s m args below meth c H locs 0 0 (MQ below (QI BM g q A) args s 0 0 A) (F0 m 36 ls []) := by
        intro c0 hc0 x1 x2 n
        induction n with
        | zero =>
          intro x3 x4 σ H locs ls hw hl ex h kx5 kr5
          cases h
        | succ n ih =>
          intro x3 x4 σ H locs ls hw hl ex h kx5 kr5
          rw [f_M_few_l36] at h
          refine lv_iload hx hb d_M_few_36 (lv_at hl 4 rfl) ?_
          refine lv_sipush (v := 300) hx hb d_M_few_38 (by decide) ?_
          refine lv_icmp_ge (tgt := 125) hx hb d_M_few_41 (by decide) (fun b6 => ?_) (fun b6 => ?_)
          · replace h := ifp b6 h
            exact kx5 _ (Option.some.inj h).symm H locs ls hw (lv_sub hl [0, 2, 3] rfl)
          · replace h := ifn b6 h
            refine lv_aload_n hx hb d_M_few_44 rfl (lv_at hl 0 rfl) ?_
            refine fg_M_7 C hw hc0 d_M_few_45 ?_
            refine lv_if_le (tgt := 125) hx hb d_M_few_48 (by decide) (fun b7 => ?_) (fun b7 => ?_)
            · replace h := ifp b7 h
              exact kx5 _ (Option.some.inj h).symm H locs ls hw (lv_sub hl [0, 2, 3] rfl)
            · replace h := ifn b7 h
              refine lv_iload_n hx hb d_M_few_51 rfl (lv_at hl 3 rfl) ?_
              refine lv_if_ge (tgt := 125) hx hb d_M_few_52 (by decide) (fun b8 => ?_) (fun b8 => ?_)
              · replace h := ifp b8 h
                exact kx5 _ (Option.some.inj h).symm H locs ls hw (lv_sub hl [0, 2, 3] rfl)
              · replace h := ifn b8 h
                refine lv_aload_n hx hb d_M_few_55 rfl (lv_at hl 0 rfl) ?_
                refine lv_iload hx hb d_M_few_56 (lv_at hl 4 rfl) ?_
                refine lv_aload_n hx hb d_M_few_58 rfl (lv_at hl 0 rfl) ?_
                refine fg_M_7 C hw hc0 d_M_few_59 ?_
                refine gdz h (fun g9 h => ?_)
                refine remR C g9 d_M_few_62 ?_
                refine bnd h (fun q10 k11 h => ?_)
                refine clI C hw (invV (As := [.int (x4 % (vI σ c0 0))]) C hw (c_M_goes g c0 hc0 (x4 % (vI σ c0 0)) σ q10 k11 l) rfl wc_M_319 nd_M_goes ⟨by decide, by decide⟩ (rc_M C hw hc0) rfl hl.1 rfl (Nat.le_of_ble_eq_true rfl) d_M_few_63 ⟨Nat.le_refl _, Nat.le_refl _⟩) (fun H locs hw => ?_)
                refine lv_istore (lv' := [(5, .int q10.1), (0, .ref (g.2.1 c0)), (1, .int x1), (2, .int x2), (3, .int x3), (4, .int x4)]) hx hb d_M_few_66 hl (by decide) rfl (fun ls hl => ?_)
                refine lv_aload_n hx hb d_M_few_68 rfl (lv_at hl 1 rfl) ?_
                refine lv_aload_n hx hb d_M_few_69 rfl (lv_at hl 1 rfl) ?_
                refine fg_M_102 C hw hc0 d_M_few_70 ?_
                refine lv_iconst (v := 1) hx hb d_M_few_73 (by decide) ?_
                refine lv_iload_n hx hb d_M_few_74 rfl (lv_at hl 2 rfl) ?_
                refine clZ0 (v := (f_M_in c0 (vI q10.2 c0 30) 1 x1)) C hw (invV (As := [.int (vI q10.2 c0 30), .int 1, .int x1]) C hw (c_M_in g c0 hc0 (vI q10.2 c0 30) 1 x1 q10.2 l) rfl wc_M_218 nd_M_in ⟨by decide, by decide⟩ (rc_M C hw hc0) rfl hl.1 rfl (Nat.le_of_ble_eq_true rfl) d_M_few_75 ⟨Nat.le_refl _, Nat.le_refl _⟩) (fun H locs hw => ?_)
                refine bnd h (fun q12 h13 h => ?_)
                have J14 : ∀ (H : Heap) (locs : List Loc) (ls : Array Slot), HW BM g A s q10.2 H locs → lv_has ls 6 [(0, .ref (g.2.1 c0)), (1, .int x1), (2, .int x2), (4, .int x4)] → W p l e (rmL 7) s m args below meth c H locs 0 0 (MQ below (QI BM g q A) args s 0 0 A) (F0 m 88 ls [.int q12]) := by
                  intro H locs ls hw hl
                  refine lv_istore_n (lv' := [(3, .int q12), (0, .ref (g.2.1 c0)), (1, .int x1), (2, .int x2), (4, .int x4)]) hx hb d_M_few_88 rfl hl (by decide) rfl (fun ls hl => ?_)
                  refine lv_aload_n hx hb d_M_few_89 rfl (lv_at hl 1 rfl) ?_
                  refine lv_dup hx hb d_M_few_90 rfl ?_
                  refine fg_M_16 C hw hc0 d_M_few_91 ?_
                  refine lv_iload hx hb d_M_few_94 (lv_at hl 4 rfl) ?_
                  refine lv_aload_n hx hb d_M_few_96 rfl (lv_at hl 1 rfl) ?_
                  refine fg_M_7 C hw hc0 d_M_few_97 ?_
                  refine gdz h (fun g18 h => ?_)
                  refine remR C g18 d_M_few_100 ?_
                  refine lv_aload_n hx hb d_M_few_101 rfl (lv_at hl 1 rfl) ?_
                  refine fg_M_7 C hw hc0 d_M_few_102 ?_
                  refine lv_iconst (v := 1) hx hb d_M_few_105 (by decide) ?_
                  refine lv_isub hx hb d_M_few_106 ?_
                  refine lv_icmp_ne (tgt := 114) hx hb d_M_few_107 (by decide) (fun b19 => ?_) (fun b19 => ?_)
                  · replace h := ifn b19 h
                    refine lv_iconst (v := 0) hx hb d_M_few_114 (by decide) ?_
                    refine lv_iadd hx hb d_M_few_115 ?_
                    refine ste h (fun s21 e22 h => ?_)
                    refine fp_M_16 C hw hc0 d_M_few_116 (fun H locs hw => ?_)
                    replace hw := HWe hw e22
                    refine lv_iinc (v := (x4 + 1)) (lv' := [(4, .int (x4 + 1)), (3, .int q12), (0, .ref (g.2.1 c0)), (1, .int x1), (2, .int x2)]) hx hb d_M_few_119 hl (k := 4) rfl rfl (by decide) rfl (fun ls hl => ?_)
                    refine lv_goto (tgt := 36) hx hb d_M_few_122 (by decide) ?_
                    exact ih q12 (x4 + 1) s21 H locs ls hw (lv_sub hl [2, 3, 4, 1, 0] rfl) ex h kx5 kr5
                  · replace h := ifp b19 h
                    refine lv_iconst (v := 1) hx hb d_M_few_110 (by decide) ?_
                    refine lv_goto (tgt := 115) hx hb d_M_few_111 (by decide) ?_
                    refine lv_iadd hx hb d_M_few_115 ?_
                    refine ste h (fun s24 e25 h => ?_)
                    refine fp_M_16 C hw hc0 d_M_few_116 (fun H locs hw => ?_)
                    replace hw := HWe hw e25
                    refine lv_iinc (v := (x4 + 1)) (lv' := [(4, .int (x4 + 1)), (3, .int q12), (0, .ref (g.2.1 c0)), (1, .int x1), (2, .int x2)]) hx hb d_M_few_119 hl (k := 4) rfl rfl (by decide) rfl (fun ls hl => ?_)
                    refine lv_goto (tgt := 36) hx hb d_M_few_122 (by decide) ?_
                    exact ih q12 (x4 + 1) s24 H locs ls hw (lv_sub hl [2, 3, 4, 1, 0] rfl) ex h kx5 kr5
                refine ifB (tgt := 86) C d_M_few_78 (by decide) (fun b15 => ?_) (fun b15 => ?_)
                · replace h13 := ifp b15 h13
                  refine lv_bipush (v := (-5)) hx hb d_M_few_86 (by decide) ?_
                  have e16 := Option.some.inj h13
                  subst e16
                  exact J14 H locs ls hw (lv_sub hl [1, 2, 3, 5] rfl)
                · replace h13 := ifn b15 h13
                  refine lv_iload hx hb d_M_few_81 (lv_at hl 5 rfl) ?_
                  refine lv_goto (tgt := 88) hx hb d_M_few_83 (by decide) ?_
                  have e17 := Option.some.inj h13
                  subst e17
                  exact J14 H locs ls hw (lv_sub hl [1, 2, 3, 5] rfl)
      refine bnd h (fun x_26 k27 h => ?_)
      refine L5 c0 hc0 p1 p2 FU (-5) 0 q3 H locs ls hw (lv_sub hl [2, 3, 4, 1, 0] rfl) x_26 k27 (fun y34 e35 H locs ls hw hl => ?_) trivial
      subst e35
      refine lv_aload_n hx hb d_M_few_125 rfl (lv_at hl 0 rfl) ?_
      refine bnd h (fun q29 k30 h => ?_)
      refine clV C hw (invV (As := []) C hw (c_M_putBack g c0 hc0 x_26.2 q29 k30 l) rfl wc_M_334 nd_M_putBack ⟨by decide, by decide⟩ (rc_M C hw hc0) rfl hl.1 rfl (Nat.le_of_ble_eq_true rfl) d_M_few_126 ⟨Nat.le_refl _, Nat.le_refl _⟩) (fun H locs hw => ?_)
      refine lv_iload_n hx hb d_M_few_129 rfl (lv_at hl 2 rfl) ?_
      refine lv_if_lt (tgt := 137) hx hb d_M_few_130 (by decide) (fun b31 => ?_) (fun b31 => ?_)
      · replace h := ifp b31 h
        refine lv_iload_n hx hb d_M_few_137 rfl (lv_at hl 2 rfl) ?_
        refine lv_goto (tgt := 147) hx hb d_M_few_138 (by decide) ?_
        exact retI C hw rfl (Option.some.inj h) d_M_few_147
      · replace h := ifn b31 h
        refine lv_iload_n hx hb d_M_few_133 rfl (lv_at hl 1 rfl) ?_
        refine lv_if_ne (tgt := 141) hx hb d_M_few_134 (by decide) (fun b32 => ?_) (fun b32 => ?_)
        · replace h := ifn b32 h
          refine lv_iload_n hx hb d_M_few_141 rfl (lv_at hl 2 rfl) ?_
          refine lv_aload_n hx hb d_M_few_142 rfl (lv_at hl 0 rfl) ?_
          refine fg_M_7 C hw hc0 d_M_few_143 ?_
          refine gdz h (fun g33 h => ?_)
          refine remR C g33 d_M_few_146 ?_
          exact retI C hw rfl (Option.some.inj h) d_M_few_147
        · replace h := ifp b32 h
          refine lv_iload_n hx hb d_M_few_137 rfl (lv_at hl 2 rfl) ?_
          refine lv_goto (tgt := 147) hx hb d_M_few_138 (by decide) ?_
          exact retI C hw rfl (Option.some.inj h) d_M_few_147
    · replace h := ifp b2 h
      refine lv_bipush (v := (-2)) hx hb d_M_few_23 (by decide) ?_
      exact retI C hw rfl (Option.some.inj h) d_M_few_25
  · replace h := ifp b1 h
    refine lv_iconst (v := (-1)) hx hb d_M_few_10 (by decide) ?_
    exact retI C hw rfl (Option.some.inj h) d_M_few_11
def f_M_pitied_l34 : Nat → Nat → Int32 → Int32 → Int32 → Int32 → St → Option (Int32)
  | 0, _, _, _, _, _, _ => none
  | n + 1, c0, x2, x3, x4, x5, σ => (if (vI σ c0 0) ≤ x5 then some x2 else (if ok x5 6 = true then (if ok x5 6 = true then (if ok x5 6 = true then (if ok x5 6 = true then (if x2 < 0 then (f_M_pitied_l34 n c0 x5 ((vJ σ 5 (nx x5)) - (vJ σ 19 (nx x5))) (((vJ σ 4 (nx x5)) - (vJ σ 18 (nx x5))) + 1) (x5 + 1) σ) else (if (x3 * (((vJ σ 4 (nx x5)) - (vJ σ 18 (nx x5))) + 1)) < (((vJ σ 5 (nx x5)) - (vJ σ 19 (nx x5))) * x4) then (f_M_pitied_l34 n c0 x5 ((vJ σ 5 (nx x5)) - (vJ σ 19 (nx x5))) (((vJ σ 4 (nx x5)) - (vJ σ 18 (nx x5))) + 1) (x5 + 1) σ) else (f_M_pitied_l34 n c0 x2 x3 x4 (x5 + 1) σ))) else none) else none) else none) else none))
def f_M_pitied (c0 : Nat) (p1 : Int32) (σ : St) : Option (Int32 × St) := (if (f_M_in c0 p1 1 60) = false then some ((-2), σ) else ((f_M_keep c0 σ).bind fun q2 => ((f_M_goDays c0 p1 q2).bind fun q4 => ((f_M_pitied_l34 FU c0 (-5) 0 1 0 q4).bind fun x_14 => ((f_M_putBack c0 q4).bind fun q17 => some (x_14, q17))))))
set_option maxHeartbeats 400000 in
set_option maxRecDepth 20000 in
theorem c_M_pitied (g : GX) (c0 : Nat) (hc0 : tg BM c0 20) (p1 : Int32) (σ : St) (q : Int32 × St) (h : f_M_pitied c0 p1 σ = some q) (l : Launch) : CT BM l y_M_pitied (v_M_pitied :: lwG) 9 [.ref (g.2.1 c0), .int p1] g σ (QI BM g q) := by
  refine mkC (cc := b_M_pitied) (maxL := 8) (ret := (some .int)) rfl (by decide) rfl (Nat.le_of_ble_eq_true rfl) ?_
  intro p e s m args below meth c A ls C hl hw
  obtain ⟨hx, hb, hr, hml, hown, hts, hK, hE, hA, hlk⟩ := id C
  replace hl : lv_has ls 8 [(0, .ref (g.2.1 c0)), (1, .int p1)] := hl
  obtain ⟨H, hH⟩ : ∃ z, z = s.heap := ⟨_, rfl⟩
  rw [← hH] at hw ⊢
  obtain ⟨locs, hlo⟩ : ∃ z : List Loc, z = [] := ⟨_, rfl⟩
  rw [← hlo] at hw ⊢
  unfold f_M_pitied at h
  refine lv_aload_n hx hb d_M_pitied_0 rfl (lv_at hl 0 rfl) ?_
  refine lv_iload_n hx hb d_M_pitied_1 rfl (lv_at hl 1 rfl) ?_
  refine lv_iconst (v := 1) hx hb d_M_pitied_2 (by decide) ?_
  refine lv_bipush (v := 60) hx hb d_M_pitied_3 (by decide) ?_
  refine clZ0 (v := (f_M_in c0 p1 1 60)) C hw (invV (As := [.int p1, .int 1, .int 60]) C hw (c_M_in g c0 hc0 p1 1 60 σ l) rfl wc_M_218 nd_M_in ⟨by decide, by decide⟩ (rc_M C hw hc0) rfl hl.1 rfl (Nat.le_of_ble_eq_true rfl) d_M_pitied_5 ⟨Nat.le_refl _, Nat.le_refl _⟩) (fun H locs hw => ?_)
  refine ifnB (tgt := 14) C d_M_pitied_8 (by decide) (fun b1 => ?_) (fun b1 => ?_)
  · replace h := ifn b1 h
    refine lv_aload_n hx hb d_M_pitied_14 rfl (lv_at hl 0 rfl) ?_
    refine bnd h (fun q2 k3 h => ?_)
    refine clV C hw (invV (As := []) C hw (c_M_keep g c0 hc0 σ q2 k3 l) rfl wc_M_325 nd_M_keep ⟨by decide, by decide⟩ (rc_M C hw hc0) rfl hl.1 rfl (Nat.le_of_ble_eq_true rfl) d_M_pitied_15 ⟨Nat.le_refl _, Nat.le_refl _⟩) (fun H locs hw => ?_)
    refine lv_aload_n hx hb d_M_pitied_18 rfl (lv_at hl 0 rfl) ?_
    refine lv_iload_n hx hb d_M_pitied_19 rfl (lv_at hl 1 rfl) ?_
    refine bnd h (fun q4 k5 h => ?_)
    refine clV C hw (invV (As := [.int p1]) C hw (c_M_goDays g c0 hc0 p1 q2 q4 k5 l) rfl wc_M_328 nd_M_goDays ⟨by decide, by decide⟩ (rc_M C hw hc0) rfl hl.1 rfl (Nat.le_of_ble_eq_true rfl) d_M_pitied_20 ⟨Nat.le_refl _, Nat.le_refl _⟩) (fun H locs hw => ?_)
    refine lv_bipush (v := (-5)) hx hb d_M_pitied_23 (by decide) ?_
    refine lv_istore_n (lv' := [(2, .int (-5)), (0, .ref (g.2.1 c0)), (1, .int p1)]) hx hb d_M_pitied_25 rfl hl (by decide) rfl (fun ls hl => ?_)
    refine lv_iconst (v := 0) hx hb d_M_pitied_26 (by decide) ?_
    refine lv_istore_n (lv' := [(3, .int 0), (2, .int (-5)), (0, .ref (g.2.1 c0)), (1, .int p1)]) hx hb d_M_pitied_27 rfl hl (by decide) rfl (fun ls hl => ?_)
    refine lv_iconst (v := 1) hx hb d_M_pitied_28 (by decide) ?_
    refine lv_istore (lv' := [(4, .int 1), (3, .int 0), (2, .int (-5)), (0, .ref (g.2.1 c0)), (1, .int p1)]) hx hb d_M_pitied_29 hl (by decide) rfl (fun ls hl => ?_)
    refine lv_iconst (v := 0) hx hb d_M_pitied_31 (by decide) ?_
    refine lv_istore (lv' := [(5, .int 0), (4, .int 1), (3, .int 0), (2, .int (-5)), (0, .ref (g.2.1 c0)), (1, .int p1)]) hx hb d_M_pitied_32 hl (by decide) rfl (fun ls hl => ?_)
    have L6 : ∀ (c0 : Nat) (hc0 : tg BM c0 20) (n : Nat) (x2 : Int32) (x3 : Int32) (x4 : Int32) (x5 : Int32) (σ : St) (H : Heap) (locs : List Loc) (ls : Array Slot), HW BM g A s σ H locs → lv_has ls 8 [(0, .ref (g.2.1 c0)), (2, .int x2), (3, .int x3), (4, .int x4), (5, .int x5)] → ∀ (ex : Int32), f_M_pitied_l34 n c0 x2 x3 x4 x5 σ = some ex → (∀ (y : Int32), ex = y → ∀ (H : Heap) (locs : List Loc) (ls : Array Slot), HW BM g A s σ H locs → lv_has ls 8 [(0, .ref (g.2.1 c0)), (2, .int y)] → W p l e (rmL 9) s m args below meth c H locs 0 0 (MQ below (QI BM g q A) args s 0 0 A) (F0 m 114 ls [])) → (True) → W p l e (rmL 9) s m args below meth c H locs 0 0 (MQ below (QI BM g q A) args s 0 0 A) (F0 m 34 ls []) := by
      intro c0 hc0 n
      induction n with
      | zero =>
        intro x2 x3 x4 x5 σ H locs ls hw hl ex h kx6 kr6
        cases h
      | succ n ih =>
        intro x2 x3 x4 x5 σ H locs ls hw hl ex h kx6 kr6
        rw [f_M_pitied_l34] at h
        refine lv_iload hx hb d_M_pitied_34 (lv_at hl 4 rfl) ?_
        refine lv_aload_n hx hb d_M_pitied_36 rfl (lv_at hl 0 rfl) ?_
        refine fg_M_7 C hw hc0 d_M_pitied_37 ?_
        refine lv_icmp_ge (tgt := 114) hx hb d_M_pitied_40 (by decide) (fun b7 => ?_) (fun b7 => ?_)
        · replace h := ifp b7 h
          exact kx6 _ (Option.some.inj h).symm H locs ls hw (lv_sub hl [0, 1] rfl)
        · replace h := ifn b7 h
          refine lv_aload_n hx hb d_M_pitied_43 rfl (lv_at hl 0 rfl) ?_
          refine fg_M_32 C hw hc0 d_M_pitied_44 ?_
          refine lv_iload hx hb d_M_pitied_47 (lv_at hl 4 rfl) ?_
          refine gde h (fun g8 h => ?_)
          refine ldI (n := 6) C hw tM_5 (by decide) g8 d_M_pitied_49 ?_
          refine lv_aload_n hx hb d_M_pitied_50 rfl (lv_at hl 0 rfl) ?_
          refine fg_M_120 C hw hc0 d_M_pitied_51 ?_
          refine lv_iload hx hb d_M_pitied_54 (lv_at hl 4 rfl) ?_
          refine gde h (fun g9 h => ?_)
          refine ldI (n := 6) C hw tM_19 (by decide) g9 d_M_pitied_56 ?_
          refine lv_isub hx hb d_M_pitied_57 ?_
          refine lv_istore (lv' := [(6, .int ((vJ σ 5 (nx x5)) - (vJ σ 19 (nx x5)))), (0, .ref (g.2.1 c0)), (2, .int x2), (3, .int x3), (4, .int x4), (5, .int x5)]) hx hb d_M_pitied_58 hl (by decide) rfl (fun ls hl => ?_)
          refine lv_aload_n hx hb d_M_pitied_60 rfl (lv_at hl 1 rfl) ?_
          refine fg_M_29 C hw hc0 d_M_pitied_61 ?_
          refine lv_iload hx hb d_M_pitied_64 (lv_at hl 5 rfl) ?_
          refine gde h (fun g10 h => ?_)
          refine ldI (n := 6) C hw tM_4 (by decide) g10 d_M_pitied_66 ?_
          refine lv_aload_n hx hb d_M_pitied_67 rfl (lv_at hl 1 rfl) ?_
          refine fg_M_117 C hw hc0 d_M_pitied_68 ?_
          refine lv_iload hx hb d_M_pitied_71 (lv_at hl 5 rfl) ?_
          refine gde h (fun g11 h => ?_)
          refine ldI (n := 6) C hw tM_18 (by decide) g11 d_M_pitied_73 ?_
          refine lv_isub hx hb d_M_pitied_74 ?_
          refine lv_iconst (v := 1) hx hb d_M_pitied_75 (by decide) ?_
          refine lv_iadd hx hb d_M_pitied_76 ?_
          refine lv_istore (lv' := [(7, .int (((vJ σ 4 (nx x5)) - (vJ σ 18 (nx x5))) + 1)), (6, .int ((vJ σ 5 (nx x5)) - (vJ σ 19 (nx x5)))), (0, .ref (g.2.1 c0)), (2, .int x2), (3, .int x3), (4, .int x4), (5, .int x5)]) hx hb d_M_pitied_77 hl (by decide) rfl (fun ls hl => ?_)
          refine lv_iload_n hx hb d_M_pitied_79 rfl (lv_at hl 3 rfl) ?_
          refine lv_if_lt (tgt := 98) hx hb d_M_pitied_80 (by decide) (fun b12 => ?_) (fun b12 => ?_)
          · replace h := ifp b12 h
            refine lv_iload hx hb d_M_pitied_98 (lv_at hl 6 rfl) ?_
            refine lv_istore_n (lv' := [(2, .int x5), (7, .int (((vJ σ 4 (nx x5)) - (vJ σ 18 (nx x5))) + 1)), (6, .int ((vJ σ 5 (nx x5)) - (vJ σ 19 (nx x5)))), (0, .ref (g.2.1 c0)), (3, .int x3), (4, .int x4), (5, .int x5)]) hx hb d_M_pitied_100 rfl hl (by decide) rfl (fun ls hl => ?_)
            refine lv_iload hx hb d_M_pitied_101 (lv_at hl 2 rfl) ?_
            refine lv_istore_n (lv' := [(3, .int ((vJ σ 5 (nx x5)) - (vJ σ 19 (nx x5)))), (2, .int x5), (7, .int (((vJ σ 4 (nx x5)) - (vJ σ 18 (nx x5))) + 1)), (6, .int ((vJ σ 5 (nx x5)) - (vJ σ 19 (nx x5)))), (0, .ref (g.2.1 c0)), (4, .int x4), (5, .int x5)]) hx hb d_M_pitied_103 rfl hl (by decide) rfl (fun ls hl => ?_)
            refine lv_iload hx hb d_M_pitied_104 (lv_at hl 2 rfl) ?_
            refine lv_istore (lv' := [(4, .int (((vJ σ 4 (nx x5)) - (vJ σ 18 (nx x5))) + 1)), (3, .int ((vJ σ 5 (nx x5)) - (vJ σ 19 (nx x5)))), (2, .int x5), (7, .int (((vJ σ 4 (nx x5)) - (vJ σ 18 (nx x5))) + 1)), (6, .int ((vJ σ 5 (nx x5)) - (vJ σ 19 (nx x5)))), (0, .ref (g.2.1 c0)), (5, .int x5)]) hx hb d_M_pitied_106 hl (by decide) rfl (fun ls hl => ?_)
            refine lv_iinc (v := (x5 + 1)) (lv' := [(5, .int (x5 + 1)), (4, .int (((vJ σ 4 (nx x5)) - (vJ σ 18 (nx x5))) + 1)), (3, .int ((vJ σ 5 (nx x5)) - (vJ σ 19 (nx x5)))), (2, .int x5), (7, .int (((vJ σ 4 (nx x5)) - (vJ σ 18 (nx x5))) + 1)), (6, .int ((vJ σ 5 (nx x5)) - (vJ σ 19 (nx x5)))), (0, .ref (g.2.1 c0))]) hx hb d_M_pitied_108 hl (k := 6) rfl rfl (by decide) rfl (fun ls hl => ?_)
            refine lv_goto (tgt := 34) hx hb d_M_pitied_111 (by decide) ?_
            exact ih x5 ((vJ σ 5 (nx x5)) - (vJ σ 19 (nx x5))) (((vJ σ 4 (nx x5)) - (vJ σ 18 (nx x5))) + 1) (x5 + 1) σ H locs ls hw (lv_sub hl [6, 3, 2, 1, 0] rfl) ex h kx6 kr6
          · replace h := ifn b12 h
            refine lv_iload hx hb d_M_pitied_83 (lv_at hl 1 rfl) ?_
            refine lv_iload hx hb d_M_pitied_85 (lv_at hl 5 rfl) ?_
            refine lv_imul hx hb d_M_pitied_87 ?_
            refine lv_iload_n hx hb d_M_pitied_88 rfl (lv_at hl 4 rfl) ?_
            refine lv_iload hx hb d_M_pitied_89 (lv_at hl 0 rfl) ?_
            refine lv_imul hx hb d_M_pitied_91 ?_
            refine lv_icmp_gt (tgt := 98) hx hb d_M_pitied_92 (by decide) (fun b13 => ?_) (fun b13 => ?_)
            · replace h := ifp b13 h
              refine lv_iload hx hb d_M_pitied_98 (lv_at hl 6 rfl) ?_
              refine lv_istore_n (lv' := [(2, .int x5), (7, .int (((vJ σ 4 (nx x5)) - (vJ σ 18 (nx x5))) + 1)), (6, .int ((vJ σ 5 (nx x5)) - (vJ σ 19 (nx x5)))), (0, .ref (g.2.1 c0)), (3, .int x3), (4, .int x4), (5, .int x5)]) hx hb d_M_pitied_100 rfl hl (by decide) rfl (fun ls hl => ?_)
              refine lv_iload hx hb d_M_pitied_101 (lv_at hl 2 rfl) ?_
              refine lv_istore_n (lv' := [(3, .int ((vJ σ 5 (nx x5)) - (vJ σ 19 (nx x5)))), (2, .int x5), (7, .int (((vJ σ 4 (nx x5)) - (vJ σ 18 (nx x5))) + 1)), (6, .int ((vJ σ 5 (nx x5)) - (vJ σ 19 (nx x5)))), (0, .ref (g.2.1 c0)), (4, .int x4), (5, .int x5)]) hx hb d_M_pitied_103 rfl hl (by decide) rfl (fun ls hl => ?_)
              refine lv_iload hx hb d_M_pitied_104 (lv_at hl 2 rfl) ?_
              refine lv_istore (lv' := [(4, .int (((vJ σ 4 (nx x5)) - (vJ σ 18 (nx x5))) + 1)), (3, .int ((vJ σ 5 (nx x5)) - (vJ σ 19 (nx x5)))), (2, .int x5), (7, .int (((vJ σ 4 (nx x5)) - (vJ σ 18 (nx x5))) + 1)), (6, .int ((vJ σ 5 (nx x5)) - (vJ σ 19 (nx x5)))), (0, .ref (g.2.1 c0)), (5, .int x5)]) hx hb d_M_pitied_106 hl (by decide) rfl (fun ls hl => ?_)
              refine lv_iinc (v := (x5 + 1)) (lv' := [(5, .int (x5 + 1)), (4, .int (((vJ σ 4 (nx x5)) - (vJ σ 18 (nx x5))) + 1)), (3, .int ((vJ σ 5 (nx x5)) - (vJ σ 19 (nx x5)))), (2, .int x5), (7, .int (((vJ σ 4 (nx x5)) - (vJ σ 18 (nx x5))) + 1)), (6, .int ((vJ σ 5 (nx x5)) - (vJ σ 19 (nx x5)))), (0, .ref (g.2.1 c0))]) hx hb d_M_pitied_108 hl (k := 6) rfl rfl (by decide) rfl (fun ls hl => ?_)
              refine lv_goto (tgt := 34) hx hb d_M_pitied_111 (by decide) ?_
              exact ih x5 ((vJ σ 5 (nx x5)) - (vJ σ 19 (nx x5))) (((vJ σ 4 (nx x5)) - (vJ σ 18 (nx x5))) + 1) (x5 + 1) σ H locs ls hw (lv_sub hl [6, 3, 2, 1, 0] rfl) ex h kx6 kr6
            · replace h := ifn b13 h
              refine lv_goto (tgt := 108) hx hb d_M_pitied_95 (by decide) ?_
              refine lv_iinc (v := (x5 + 1)) (lv' := [(5, .int (x5 + 1)), (7, .int (((vJ σ 4 (nx x5)) - (vJ σ 18 (nx x5))) + 1)), (6, .int ((vJ σ 5 (nx x5)) - (vJ σ 19 (nx x5)))), (0, .ref (g.2.1 c0)), (2, .int x2), (3, .int x3), (4, .int x4)]) hx hb d_M_pitied_108 hl (k := 6) rfl rfl (by decide) rfl (fun ls hl => ?_)
              refine lv_goto (tgt := 34) hx hb d_M_pitied_111 (by decide) ?_
              exact ih x2 x3 x4 (x5 + 1) σ H locs ls hw (lv_sub hl [3, 4, 5, 6, 0] rfl) ex h kx6 kr6
    refine bnd h (fun x_14 k15 h => ?_)
    refine L6 c0 hc0 FU (-5) 0 1 0 q4 H locs ls hw (lv_sub hl [4, 3, 2, 1, 0] rfl) x_14 k15 (fun y19 e20 H locs ls hw hl => ?_) trivial
    subst e20
    refine lv_aload_n hx hb d_M_pitied_114 rfl (lv_at hl 0 rfl) ?_
    refine bnd h (fun q17 k18 h => ?_)
    refine clV C hw (invV (As := []) C hw (c_M_putBack g c0 hc0 q4 q17 k18 l) rfl wc_M_334 nd_M_putBack ⟨by decide, by decide⟩ (rc_M C hw hc0) rfl hl.1 rfl (Nat.le_of_ble_eq_true rfl) d_M_pitied_115 ⟨Nat.le_refl _, Nat.le_refl _⟩) (fun H locs hw => ?_)
    refine lv_iload_n hx hb d_M_pitied_118 rfl (lv_at hl 1 rfl) ?_
    exact retI C hw rfl (Option.some.inj h) d_M_pitied_119
  · replace h := ifp b1 h
    refine lv_bipush (v := (-2)) hx hb d_M_pitied_11 (by decide) ?_
    exact retI C hw rfl (Option.some.inj h) d_M_pitied_13
def f_M_see (c0 : Nat) (p1 : Int32) (p2 : Int32) (σ : St) : Option (Int32 × St) := (if p1 = (-1) then (st (sI σ c0 40 0) fun s15 => some (0, s15)) else (if (f_M_in c0 p1 0 990) = false then some ((-2), σ) else (if (f_M_in c0 p2 0 990) = false then some ((-2), σ) else (if (vI σ c0 40) = 6 then some ((-4), σ) else (if ok (vI σ c0 40) 6 = true then (st (sJ σ 23 (upd (vJ σ 23) (nx (vI σ c0 40)) p1)) fun s6 => (if ok (vI s6 c0 40) 6 = true then (st (sJ s6 24 (upd (vJ s6 24) (nx (vI s6 c0 40)) p2)) fun s8 => (st (sI s8 c0 40 ((vI s8 c0 40) + 1)) fun s10 => some ((vI s10 c0 40), s10))) else none)) else none)))))
set_option maxHeartbeats 400000 in
set_option maxRecDepth 20000 in
theorem c_M_see (g : GX) (c0 : Nat) (hc0 : tg BM c0 20) (p1 : Int32) (p2 : Int32) (σ : St) (q : Int32 × St) (h : f_M_see c0 p1 p2 σ = some q) (l : Launch) : CT BM l y_M_see (v_M_see :: lwG) 2 [.ref (g.2.1 c0), .int p1, .int p2] g σ (QI BM g q) := by
  refine mkC (cc := b_M_see) (maxL := 3) (ret := (some .int)) rfl (by decide) rfl (Nat.le_of_ble_eq_true rfl) ?_
  intro p e s m args below meth c A ls C hl hw
  obtain ⟨hx, hb, hr, hml, hown, hts, hK, hE, hA, hlk⟩ := id C
  replace hl : lv_has ls 3 [(0, .ref (g.2.1 c0)), (1, .int p1), (2, .int p2)] := hl
  obtain ⟨H, hH⟩ : ∃ z, z = s.heap := ⟨_, rfl⟩
  rw [← hH] at hw ⊢
  obtain ⟨locs, hlo⟩ : ∃ z : List Loc, z = [] := ⟨_, rfl⟩
  rw [← hlo] at hw ⊢
  unfold f_M_see at h
  refine lv_iload_n hx hb d_M_see_0 rfl (lv_at hl 1 rfl) ?_
  refine lv_iconst (v := (-1)) hx hb d_M_see_1 (by decide) ?_
  refine lv_icmp_ne (tgt := 12) hx hb d_M_see_2 (by decide) (fun b1 => ?_) (fun b1 => ?_)
  · replace h := ifn b1 h
    refine lv_aload_n hx hb d_M_see_12 rfl (lv_at hl 0 rfl) ?_
    refine lv_iload_n hx hb d_M_see_13 rfl (lv_at hl 1 rfl) ?_
    refine lv_iconst (v := 0) hx hb d_M_see_14 (by decide) ?_
    refine lv_sipush (v := 990) hx hb d_M_see_15 (by decide) ?_
    refine clZ0 (v := (f_M_in c0 p1 0 990)) C hw (invV (As := [.int p1, .int 0, .int 990]) C hw (c_M_in g c0 hc0 p1 0 990 σ l) rfl wc_M_218 nd_M_in ⟨by decide, by decide⟩ (rc_M C hw hc0) rfl hl.1 rfl (Nat.le_of_ble_eq_true rfl) d_M_see_18 ⟨Nat.le_refl _, Nat.le_refl _⟩) (fun H locs hw => ?_)
    refine ifB (tgt := 36) C d_M_see_21 (by decide) (fun b2 => ?_) (fun b2 => ?_)
    · replace h := ifp b2 h
      refine lv_bipush (v := (-2)) hx hb d_M_see_36 (by decide) ?_
      exact retI C hw rfl (Option.some.inj h) d_M_see_38
    · replace h := ifn b2 h
      refine lv_aload_n hx hb d_M_see_24 rfl (lv_at hl 0 rfl) ?_
      refine lv_iload_n hx hb d_M_see_25 rfl (lv_at hl 2 rfl) ?_
      refine lv_iconst (v := 0) hx hb d_M_see_26 (by decide) ?_
      refine lv_sipush (v := 990) hx hb d_M_see_27 (by decide) ?_
      refine clZ0 (v := (f_M_in c0 p2 0 990)) C hw (invV (As := [.int p2, .int 0, .int 990]) C hw (c_M_in g c0 hc0 p2 0 990 σ l) rfl wc_M_218 nd_M_in ⟨by decide, by decide⟩ (rc_M C hw hc0) rfl hl.1 rfl (Nat.le_of_ble_eq_true rfl) d_M_see_30 ⟨Nat.le_refl _, Nat.le_refl _⟩) (fun H locs hw => ?_)
      refine ifnB (tgt := 39) C d_M_see_33 (by decide) (fun b3 => ?_) (fun b3 => ?_)
      · replace h := ifn b3 h
        refine lv_aload_n hx hb d_M_see_39 rfl (lv_at hl 0 rfl) ?_
        refine fg_M_132 C hw hc0 d_M_see_40 ?_
        refine lv_bipush (v := 6) hx hb d_M_see_43 (by decide) ?_
        refine lv_icmp_ne (tgt := 51) hx hb d_M_see_45 (by decide) (fun b4 => ?_) (fun b4 => ?_)
        · replace h := ifn b4 h
          refine lv_aload_n hx hb d_M_see_51 rfl (lv_at hl 0 rfl) ?_
          refine fg_M_135 C hw hc0 d_M_see_52 ?_
          refine lv_aload_n hx hb d_M_see_55 rfl (lv_at hl 0 rfl) ?_
          refine fg_M_132 C hw hc0 d_M_see_56 ?_
          refine lv_iload_n hx hb d_M_see_59 rfl (lv_at hl 1 rfl) ?_
          refine gde h (fun g5 h => ?_)
          refine ste h (fun s6 e13 h => ?_)
          refine stI (n := 6) C hw tM_23 (by decide) g5 d_M_see_60 (fun H locs hw => ?_)
          replace hw := HWe hw e13
          refine lv_aload_n hx hb d_M_see_61 rfl (lv_at hl 0 rfl) ?_
          refine fg_M_138 C hw hc0 d_M_see_62 ?_
          refine lv_aload_n hx hb d_M_see_65 rfl (lv_at hl 0 rfl) ?_
          refine fg_M_132 C hw hc0 d_M_see_66 ?_
          refine lv_iload_n hx hb d_M_see_69 rfl (lv_at hl 2 rfl) ?_
          refine gde h (fun g7 h => ?_)
          refine ste h (fun s8 e12 h => ?_)
          refine stI (n := 6) C hw tM_24 (by decide) g7 d_M_see_70 (fun H locs hw => ?_)
          replace hw := HWe hw e12
          refine lv_aload_n hx hb d_M_see_71 rfl (lv_at hl 0 rfl) ?_
          refine lv_dup hx hb d_M_see_72 rfl ?_
          refine fg_M_132 C hw hc0 d_M_see_73 ?_
          refine lv_iconst (v := 1) hx hb d_M_see_76 (by decide) ?_
          refine lv_iadd hx hb d_M_see_77 ?_
          refine ste h (fun s10 e11 h => ?_)
          refine fp_M_132 C hw hc0 d_M_see_78 (fun H locs hw => ?_)
          replace hw := HWe hw e11
          refine lv_aload_n hx hb d_M_see_81 rfl (lv_at hl 0 rfl) ?_
          refine fg_M_132 C hw hc0 d_M_see_82 ?_
          exact retI C hw rfl (Option.some.inj h) d_M_see_85
        · replace h := ifp b4 h
          refine lv_bipush (v := (-4)) hx hb d_M_see_48 (by decide) ?_
          exact retI C hw rfl (Option.some.inj h) d_M_see_50
      · replace h := ifp b3 h
        refine lv_bipush (v := (-2)) hx hb d_M_see_36 (by decide) ?_
        exact retI C hw rfl (Option.some.inj h) d_M_see_38
  · replace h := ifp b1 h
    refine lv_aload_n hx hb d_M_see_5 rfl (lv_at hl 0 rfl) ?_
    refine lv_iconst (v := 0) hx hb d_M_see_6 (by decide) ?_
    refine ste h (fun s15 e16 h => ?_)
    refine fp_M_132 C hw hc0 d_M_see_7 (fun H locs hw => ?_)
    replace hw := HWe hw e16
    refine lv_iconst (v := 0) hx hb d_M_see_10 (by decide) ?_
    exact retI C hw rfl (Option.some.inj h) d_M_see_11
def f_M_isSeen (c0 : Nat) (p1 : Int32) (p2 : Int32) (σ : St) : Option (Bool × St) := ((f_M_keep c0 σ).bind fun q1 => (if ok p2 6 = true then (st (sI q1 c0 1 (vJ q1 23 (nx p2))) fun s5 => ((f_M_goes c0 p1 s5).bind fun q6 => (if ok p2 6 = true then (((if (vI q6.2 c0 1) = (vJ q6.2 24 (nx p2)) then some true else some false) : Option (Bool)).bind fun q9 => ((f_M_putBack c0 q6.2).bind fun q15 => some (q9, q15))) else none))) else none))
set_option maxHeartbeats 400000 in
set_option maxRecDepth 20000 in
theorem c_M_isSeen (g : GX) (c0 : Nat) (hc0 : tg BM c0 20) (p1 : Int32) (p2 : Int32) (σ : St) (q : Bool × St) (h : f_M_isSeen c0 p1 p2 σ = some q) (l : Launch) : CT BM l y_M_isSeen (v_M_isSeen :: lwG) 7 [.ref (g.2.1 c0), .int p1, .int p2] g σ (QZ BM g q) := by
  refine mkC (cc := b_M_isSeen) (maxL := 5) (ret := (some .boolean)) rfl (by decide) rfl (Nat.le_of_ble_eq_true rfl) ?_
  intro p e s m args below meth c A ls C hl hw
  obtain ⟨hx, hb, hr, hml, hown, hts, hK, hE, hA, hlk⟩ := id C
  replace hl : lv_has ls 5 [(0, .ref (g.2.1 c0)), (1, .int p1), (2, .int p2)] := hl
  obtain ⟨H, hH⟩ : ∃ z, z = s.heap := ⟨_, rfl⟩
  rw [← hH] at hw ⊢
  obtain ⟨locs, hlo⟩ : ∃ z : List Loc, z = [] := ⟨_, rfl⟩
  rw [← hlo] at hw ⊢
  unfold f_M_isSeen at h
  refine lv_aload_n hx hb d_M_isSeen_0 rfl (lv_at hl 0 rfl) ?_
  refine bnd h (fun q1 k2 h => ?_)
  refine clV C hw (invV (As := []) C hw (c_M_keep g c0 hc0 σ q1 k2 l) rfl wc_M_325 nd_M_keep ⟨by decide, by decide⟩ (rc_M C hw hc0) rfl hl.1 rfl (Nat.le_of_ble_eq_true rfl) d_M_isSeen_1 ⟨Nat.le_refl _, Nat.le_refl _⟩) (fun H locs hw => ?_)
  refine lv_aload_n hx hb d_M_isSeen_4 rfl (lv_at hl 0 rfl) ?_
  refine lv_aload_n hx hb d_M_isSeen_5 rfl (lv_at hl 0 rfl) ?_
  refine fg_M_135 C hw hc0 d_M_isSeen_6 ?_
  refine lv_iload_n hx hb d_M_isSeen_9 rfl (lv_at hl 2 rfl) ?_
  refine gde h (fun g3 h => ?_)
  refine ldI (n := 6) C hw tM_23 (by decide) g3 d_M_isSeen_10 ?_
  refine ste h (fun s5 e17 h => ?_)
  refine fp_M_13 C hw hc0 d_M_isSeen_11 (fun H locs hw => ?_)
  replace hw := HWe hw e17
  refine lv_aload_n hx hb d_M_isSeen_14 rfl (lv_at hl 0 rfl) ?_
  refine lv_iload_n hx hb d_M_isSeen_15 rfl (lv_at hl 1 rfl) ?_
  refine bnd h (fun q6 k7 h => ?_)
  refine clI C hw (invV (As := [.int p1]) C hw (c_M_goes g c0 hc0 p1 s5 q6 k7 l) rfl wc_M_319 nd_M_goes ⟨by decide, by decide⟩ (rc_M C hw hc0) rfl hl.1 rfl (Nat.le_of_ble_eq_true rfl) d_M_isSeen_16 ⟨Nat.le_refl _, Nat.le_refl _⟩) (fun H locs hw => ?_)
  refine lv_istore_n (lv' := [(3, .int q6.1), (0, .ref (g.2.1 c0)), (1, .int p1), (2, .int p2)]) hx hb d_M_isSeen_19 rfl hl (by decide) rfl (fun ls hl => ?_)
  refine lv_aload_n hx hb d_M_isSeen_20 rfl (lv_at hl 1 rfl) ?_
  refine fg_M_13 C hw hc0 d_M_isSeen_21 ?_
  refine lv_aload_n hx hb d_M_isSeen_24 rfl (lv_at hl 1 rfl) ?_
  refine fg_M_138 C hw hc0 d_M_isSeen_25 ?_
  refine lv_iload_n hx hb d_M_isSeen_28 rfl (lv_at hl 3 rfl) ?_
  refine gde h (fun g8 h => ?_)
  refine ldI (n := 6) C hw tM_24 (by decide) g8 d_M_isSeen_29 ?_
  refine bnd h (fun q9 h10 h => ?_)
  have J11 : ∀ (H : Heap) (locs : List Loc) (ls : Array Slot), HW BM g A s q6.2 H locs → lv_has ls 5 [(0, .ref (g.2.1 c0))] → W p l e (rmL 7) s m args below meth c H locs 0 0 (MQ below (QZ BM g q A) args s 0 0 A) (F0 m 38 ls [.int (b2i q9)]) := by
    intro H locs ls hw hl
    refine lv_istore (lv' := [(4, .int (b2i q9)), (0, .ref (g.2.1 c0))]) hx hb d_M_isSeen_38 hl (by decide) rfl (fun ls hl => ?_)
    refine lv_aload_n hx hb d_M_isSeen_40 rfl (lv_at hl 1 rfl) ?_
    refine bnd h (fun q15 k16 h => ?_)
    refine clV C hw (invV (As := []) C hw (c_M_putBack g c0 hc0 q6.2 q15 k16 l) rfl wc_M_334 nd_M_putBack ⟨by decide, by decide⟩ (rc_M C hw hc0) rfl hl.1 rfl (Nat.le_of_ble_eq_true rfl) d_M_isSeen_41 ⟨Nat.le_refl _, Nat.le_refl _⟩) (fun H locs hw => ?_)
    refine lv_iload hx hb d_M_isSeen_44 (lv_at hl 0 rfl) ?_
    exact retZ (b := q9) C hw rfl rfl (Option.some.inj h) d_M_isSeen_46
  refine lv_icmp_ne (tgt := 37) hx hb d_M_isSeen_30 (by decide) (fun b12 => ?_) (fun b12 => ?_)
  · replace h10 := ifn b12 h10
    refine lv_iconst (v := 0) hx hb d_M_isSeen_37 (by decide) ?_
    have e13 := Option.some.inj h10
    subst e13
    exact J11 H locs ls hw (lv_sub hl [1] rfl)
  · replace h10 := ifp b12 h10
    refine lv_iconst (v := 1) hx hb d_M_isSeen_33 (by decide) ?_
    refine lv_goto (tgt := 38) hx hb d_M_isSeen_34 (by decide) ?_
    have e14 := Option.some.inj h10
    subst e14
    exact J11 H locs ls hw (lv_sub hl [1] rfl)
def f_M_who_l17 : Nat → Nat → Int32 → Int32 → Int32 → Int32 → St → Option (Int32 × St)
  | 0, _, _, _, _, _, _ => none
  | n + 1, c0, x1, x2, x3, x4, σ => (if (vI σ c0 40) ≤ x4 then some (x3, σ) else (if x3 = 0 then some (x3, σ) else ((f_M_isSeen c0 x2 x4 σ).bind fun q6 => (f_M_who_l17 n c0 x1 x2 (b2i q6.1) (x4 + 1) q6.2))))
def f_M_who_l4 : Nat → Nat → Int32 → Int32 → St → Option (Int32 × St)
  | 0, _, _, _, _ => none
  | n + 1, c0, x1, x2, σ => (if (vI σ c0 0) ≤ x2 then some (x1, σ) else ((f_M_who_l17 FU c0 x1 x2 1 0 σ).bind fun x_8 => (if x_8.1 = 0 then (f_M_who_l4 n c0 (x1 ||| 0) (x2 + 1) x_8.2) else (f_M_who_l4 n c0 (x1 ||| (1 <<< (x2 &&& (31 : Int32)))) (x2 + 1) x_8.2))))
def f_M_who (c0 : Nat) (σ : St) : Option (Int32 × St) := ((f_M_who_l4 FU c0 0 0 σ).bind fun x_14 => some (x_14.1, x_14.2))
set_option maxHeartbeats 400000 in
set_option maxRecDepth 20000 in
theorem c_M_who (g : GX) (c0 : Nat) (hc0 : tg BM c0 20) (σ : St) (q : Int32 × St) (h : f_M_who c0 σ = some q) (l : Launch) : CT BM l y_M_who (v_M_who :: lwG) 8 [.ref (g.2.1 c0)] g σ (QI BM g q) := by
  refine mkC (cc := b_M_who) (maxL := 5) (ret := (some .int)) rfl (by decide) rfl (Nat.le_of_ble_eq_true rfl) ?_
  intro p e s m args below meth c A ls C hl hw
  obtain ⟨hx, hb, hr, hml, hown, hts, hK, hE, hA, hlk⟩ := id C
  replace hl : lv_has ls 5 [(0, .ref (g.2.1 c0))] := hl
  obtain ⟨H, hH⟩ : ∃ z, z = s.heap := ⟨_, rfl⟩
  rw [← hH] at hw ⊢
  obtain ⟨locs, hlo⟩ : ∃ z : List Loc, z = [] := ⟨_, rfl⟩
  rw [← hlo] at hw ⊢
  unfold f_M_who at h
  refine lv_iconst (v := 0) hx hb d_M_who_0 (by decide) ?_
  refine lv_istore_n (lv' := [(1, .int 0), (0, .ref (g.2.1 c0))]) hx hb d_M_who_1 rfl hl (by decide) rfl (fun ls hl => ?_)
  refine lv_iconst (v := 0) hx hb d_M_who_2 (by decide) ?_
  refine lv_istore_n (lv' := [(2, .int 0), (1, .int 0), (0, .ref (g.2.1 c0))]) hx hb d_M_who_3 rfl hl (by decide) rfl (fun ls hl => ?_)
  have L1 : ∀ (c0 : Nat) (hc0 : tg BM c0 20) (n : Nat) (x1 : Int32) (x2 : Int32) (σ : St) (H : Heap) (locs : List Loc) (ls : Array Slot), HW BM g A s σ H locs → lv_has ls 5 [(0, .ref (g.2.1 c0)), (1, .int x1), (2, .int x2)] → ∀ (ex : Int32 × St), f_M_who_l4 n c0 x1 x2 σ = some ex → (∀ (y : Int32 × St), ex = y → ∀ (H : Heap) (locs : List Loc) (ls : Array Slot), HW BM g A s y.2 H locs → lv_has ls 5 [(1, .int y.1)] → W p l e (rmL 8) s m args below meth c H locs 0 0 (MQ below (QI BM g q A) args s 0 0 A) (F0 m 64 ls [])) → (True) → W p l e (rmL 8) s m args below meth c H locs 0 0 (MQ below (QI BM g q A) args s 0 0 A) (F0 m 4 ls []) := by
    intro c0 hc0 n
    induction n with
    | zero =>
      intro x1 x2 σ H locs ls hw hl ex h kx1 kr1
      cases h
    | succ n ih =>
      intro x1 x2 σ H locs ls hw hl ex h kx1 kr1
      rw [f_M_who_l4] at h
      refine lv_iload_n hx hb d_M_who_4 rfl (lv_at hl 2 rfl) ?_
      refine lv_aload_n hx hb d_M_who_5 rfl (lv_at hl 0 rfl) ?_
      refine fg_M_7 C hw hc0 d_M_who_6 ?_
      refine lv_icmp_ge (tgt := 64) hx hb d_M_who_9 (by decide) (fun b2 => ?_) (fun b2 => ?_)
      · replace h := ifp b2 h
        exact kx1 _ (Option.some.inj h).symm H locs ls hw (lv_sub hl [1] rfl)
      · replace h := ifn b2 h
        refine lv_iconst (v := 1) hx hb d_M_who_12 (by decide) ?_
        refine lv_istore_n (lv' := [(3, .int 1), (0, .ref (g.2.1 c0)), (1, .int x1), (2, .int x2)]) hx hb d_M_who_13 rfl hl (by decide) rfl (fun ls hl => ?_)
        refine lv_iconst (v := 0) hx hb d_M_who_14 (by decide) ?_
        refine lv_istore (lv' := [(4, .int 0), (3, .int 1), (0, .ref (g.2.1 c0)), (1, .int x1), (2, .int x2)]) hx hb d_M_who_15 hl (by decide) rfl (fun ls hl => ?_)
        have L3 : ∀ (c0 : Nat) (hc0 : tg BM c0 20) (x1 : Int32) (x2 : Int32) (n : Nat) (x3 : Int32) (x4 : Int32) (σ : St) (H : Heap) (locs : List Loc) (ls : Array Slot), HW BM g A s σ H locs → lv_has ls 5 [(0, .ref (g.2.1 c0)), (1, .int x1), (2, .int x2), (3, .int x3), (4, .int x4)] → ∀ (ex : Int32 × St), f_M_who_l17 n c0 x1 x2 x3 x4 σ = some ex → (∀ (y : Int32 × St), ex = y → ∀ (H : Heap) (locs : List Loc) (ls : Array Slot), HW BM g A s y.2 H locs → lv_has ls 5 [(0, .ref (g.2.1 c0)), (1, .int x1), (2, .int x2), (3, .int y.1)] → W p l e (rmL 8) s m args below meth c H locs 0 0 (MQ below (QI BM g q A) args s 0 0 A) (F0 m 44 ls [])) → (True) → W p l e (rmL 8) s m args below meth c H locs 0 0 (MQ below (QI BM g q A) args s 0 0 A) (F0 m 17 ls []) := by
          intro c0 hc0 x1 x2 n
          induction n with
          | zero =>
            intro x3 x4 σ H locs ls hw hl ex h kx3 kr3
            cases h
          | succ n ih =>
            intro x3 x4 σ H locs ls hw hl ex h kx3 kr3
            rw [f_M_who_l17] at h
            refine lv_iload hx hb d_M_who_17 (lv_at hl 4 rfl) ?_
            refine lv_aload_n hx hb d_M_who_19 rfl (lv_at hl 0 rfl) ?_
            refine fg_M_132 C hw hc0 d_M_who_20 ?_
            refine lv_icmp_ge (tgt := 44) hx hb d_M_who_23 (by decide) (fun b4 => ?_) (fun b4 => ?_)
            · replace h := ifp b4 h
              exact kx3 _ (Option.some.inj h).symm H locs ls hw (lv_sub hl [0, 1, 2, 3] rfl)
            · replace h := ifn b4 h
              refine lv_iload_n hx hb d_M_who_26 rfl (lv_at hl 3 rfl) ?_
              refine lv_if_eq (tgt := 44) hx hb d_M_who_27 (by decide) (fun b5 => ?_) (fun b5 => ?_)
              · replace h := ifp b5 h
                exact kx3 _ (Option.some.inj h).symm H locs ls hw (lv_sub hl [0, 1, 2, 3] rfl)
              · replace h := ifn b5 h
                refine lv_aload_n hx hb d_M_who_30 rfl (lv_at hl 0 rfl) ?_
                refine lv_iload_n hx hb d_M_who_31 rfl (lv_at hl 2 rfl) ?_
                refine lv_iload hx hb d_M_who_32 (lv_at hl 4 rfl) ?_
                refine bnd h (fun q6 k7 h => ?_)
                refine clZ C hw (invV (As := [.int x2, .int x4]) C hw (c_M_isSeen g c0 hc0 x2 x4 σ q6 k7 l) rfl wc_M_346 nd_M_isSeen ⟨by decide, by decide⟩ (rc_M C hw hc0) rfl hl.1 rfl (Nat.le_of_ble_eq_true rfl) d_M_who_34 ⟨Nat.le_refl _, Nat.le_refl _⟩) (fun H locs hw => ?_)
                refine lv_istore_n (lv' := [(3, .int (b2i q6.1)), (0, .ref (g.2.1 c0)), (1, .int x1), (2, .int x2), (4, .int x4)]) hx hb d_M_who_37 rfl hl (by decide) rfl (fun ls hl => ?_)
                refine lv_iinc (v := (x4 + 1)) (lv' := [(4, .int (x4 + 1)), (3, .int (b2i q6.1)), (0, .ref (g.2.1 c0)), (1, .int x1), (2, .int x2)]) hx hb d_M_who_38 hl (k := 4) rfl rfl (by decide) rfl (fun ls hl => ?_)
                refine lv_goto (tgt := 17) hx hb d_M_who_41 (by decide) ?_
                exact ih (b2i q6.1) (x4 + 1) q6.2 H locs ls hw (lv_sub hl [2, 3, 4, 1, 0] rfl) ex h kx3 kr3
        refine bnd h (fun x_8 k9 h => ?_)
        refine L3 c0 hc0 x1 x2 FU 1 0 σ H locs ls hw (lv_sub hl [2, 3, 4, 1, 0] rfl) x_8 k9 (fun y12 e13 H locs ls hw hl => ?_) trivial
        subst e13
        refine lv_iload_n hx hb d_M_who_44 rfl (lv_at hl 1 rfl) ?_
        refine lv_iload_n hx hb d_M_who_45 rfl (lv_at hl 3 rfl) ?_
        refine lv_if_eq (tgt := 55) hx hb d_M_who_46 (by decide) (fun b11 => ?_) (fun b11 => ?_)
        · replace h := ifp b11 h
          refine lv_iconst (v := 0) hx hb d_M_who_55 (by decide) ?_
          refine lv_ior hx hb d_M_who_56 ?_
          refine lv_istore_n (lv' := [(1, .int (x1 ||| 0)), (0, .ref (g.2.1 c0)), (2, .int x2), (3, .int x_8.1)]) hx hb d_M_who_57 rfl hl (by decide) rfl (fun ls hl => ?_)
          refine lv_iinc (v := (x2 + 1)) (lv' := [(2, .int (x2 + 1)), (1, .int (x1 ||| 0)), (0, .ref (g.2.1 c0)), (3, .int x_8.1)]) hx hb d_M_who_58 hl (k := 2) rfl rfl (by decide) rfl (fun ls hl => ?_)
          refine lv_goto (tgt := 4) hx hb d_M_who_61 (by decide) ?_
          exact ih (x1 ||| 0) (x2 + 1) x_8.2 H locs ls hw (lv_sub hl [2, 1, 0] rfl) ex h kx1 kr1
        · replace h := ifn b11 h
          refine lv_iconst (v := 1) hx hb d_M_who_49 (by decide) ?_
          refine lv_iload_n hx hb d_M_who_50 rfl (lv_at hl 2 rfl) ?_
          refine lv_ishl hx hb d_M_who_51 ?_
          refine lv_goto (tgt := 56) hx hb d_M_who_52 (by decide) ?_
          refine lv_ior hx hb d_M_who_56 ?_
          refine lv_istore_n (lv' := [(1, .int (x1 ||| (1 <<< (x2 &&& (31 : Int32))))), (0, .ref (g.2.1 c0)), (2, .int x2), (3, .int x_8.1)]) hx hb d_M_who_57 rfl hl (by decide) rfl (fun ls hl => ?_)
          refine lv_iinc (v := (x2 + 1)) (lv' := [(2, .int (x2 + 1)), (1, .int (x1 ||| (1 <<< (x2 &&& (31 : Int32))))), (0, .ref (g.2.1 c0)), (3, .int x_8.1)]) hx hb d_M_who_58 hl (k := 2) rfl rfl (by decide) rfl (fun ls hl => ?_)
          refine lv_goto (tgt := 4) hx hb d_M_who_61 (by decide) ?_
          exact ih (x1 ||| (1 <<< (x2 &&& (31 : Int32)))) (x2 + 1) x_8.2 H locs ls hw (lv_sub hl [2, 1, 0] rfl) ex h kx1 kr1
  refine bnd h (fun x_14 k15 h => ?_)
  refine L1 c0 hc0 FU 0 0 σ H locs ls hw (lv_sub hl [2, 1, 0] rfl) x_14 k15 (fun y17 e18 H locs ls hw hl => ?_) trivial
  subst e18
  refine lv_iload_n hx hb d_M_who_64 rfl (lv_at hl 0 rfl) ?_
  exact retI C hw rfl (Option.some.inj h) d_M_who_65
def f_M_divisor_l5 : Nat → Int32 → Int32 → Option (Int32)
  | 0, _, _ => none
  | n + 1, x3, x4 => (if x4 = 0 then some x3 else (if x4 = 0 then none else (f_M_divisor_l5 n x4 (x3 % x4))))
def f_M_divisor (c0 : Nat) (p1 : Int32) (p2 : Int32) : Option (Int32) := ((f_M_divisor_l5 FU p1 p2).bind fun x_4 => some x_4)
set_option maxHeartbeats 400000 in
set_option maxRecDepth 20000 in
theorem c_M_divisor (g : GX) (c0 : Nat) (hc0 : tg BM c0 20) (p1 : Int32) (p2 : Int32) (σ : St) (q : Int32) (h : f_M_divisor c0 p1 p2 = some q) (l : Launch) : CT BM l y_M_divisor (v_M_divisor :: lwG) 1 [.ref (g.2.1 c0), .int p1, .int p2] g σ (QI BM g (q, σ)) := by
  refine mkC (cc := b_M_divisor) (maxL := 6) (ret := (some .int)) rfl (by decide) rfl (Nat.le_of_ble_eq_true rfl) ?_
  intro p e s m args below meth c A ls C hl hw
  obtain ⟨hx, hb, hr, hml, hown, hts, hK, hE, hA, hlk⟩ := id C
  replace hl : lv_has ls 6 [(0, .ref (g.2.1 c0)), (1, .int p1), (2, .int p2)] := hl
  obtain ⟨H, hH⟩ : ∃ z, z = s.heap := ⟨_, rfl⟩
  rw [← hH] at hw ⊢
  obtain ⟨locs, hlo⟩ : ∃ z : List Loc, z = [] := ⟨_, rfl⟩
  rw [← hlo] at hw ⊢
  unfold f_M_divisor at h
  refine lv_iload_n hx hb d_M_divisor_0 rfl (lv_at hl 1 rfl) ?_
  refine lv_istore_n (lv' := [(3, .int p1), (0, .ref (g.2.1 c0)), (1, .int p1), (2, .int p2)]) hx hb d_M_divisor_1 rfl hl (by decide) rfl (fun ls hl => ?_)
  refine lv_iload_n hx hb d_M_divisor_2 rfl (lv_at hl 3 rfl) ?_
  refine lv_istore (lv' := [(4, .int p2), (3, .int p1), (0, .ref (g.2.1 c0)), (1, .int p1), (2, .int p2)]) hx hb d_M_divisor_3 hl (by decide) rfl (fun ls hl => ?_)
  have L1 : ∀ (n : Nat) (x3 : Int32) (x4 : Int32) (σ : St) (H : Heap) (locs : List Loc) (ls : Array Slot), HW BM g A s σ H locs → lv_has ls 6 [(3, .int x3), (4, .int x4)] → ∀ (ex : Int32), f_M_divisor_l5 n x3 x4 = some ex → (∀ (y : Int32), ex = y → ∀ (H : Heap) (locs : List Loc) (ls : Array Slot), HW BM g A s σ H locs → lv_has ls 6 [(3, .int y)] → W p l e (rmL 1) s m args below meth c H locs 0 0 (MQ below (QI BM g (q, σ) A) args s 0 0 A) (F0 m 26 ls [])) → (True) → W p l e (rmL 1) s m args below meth c H locs 0 0 (MQ below (QI BM g (q, σ) A) args s 0 0 A) (F0 m 5 ls []) := by
    intro n
    induction n with
    | zero =>
      intro x3 x4 σ H locs ls hw hl ex h kx1 kr1
      cases h
    | succ n ih =>
      intro x3 x4 σ H locs ls hw hl ex h kx1 kr1
      rw [f_M_divisor_l5] at h
      refine lv_iload hx hb d_M_divisor_5 (lv_at hl 1 rfl) ?_
      refine lv_if_eq (tgt := 26) hx hb d_M_divisor_7 (by decide) (fun b2 => ?_) (fun b2 => ?_)
      · replace h := ifp b2 h
        exact kx1 _ (Option.some.inj h).symm H locs ls hw (lv_sub hl [0] rfl)
      · replace h := ifn b2 h
        refine lv_iload_n hx hb d_M_divisor_10 rfl (lv_at hl 0 rfl) ?_
        refine lv_iload hx hb d_M_divisor_11 (lv_at hl 1 rfl) ?_
        refine gdz h (fun g3 h => ?_)
        refine remR C g3 d_M_divisor_13 ?_
        refine lv_istore (lv' := [(5, .int (x3 % x4)), (3, .int x3), (4, .int x4)]) hx hb d_M_divisor_14 hl (by decide) rfl (fun ls hl => ?_)
        refine lv_iload hx hb d_M_divisor_16 (lv_at hl 2 rfl) ?_
        refine lv_istore_n (lv' := [(3, .int x4), (5, .int (x3 % x4)), (4, .int x4)]) hx hb d_M_divisor_18 rfl hl (by decide) rfl (fun ls hl => ?_)
        refine lv_iload hx hb d_M_divisor_19 (lv_at hl 1 rfl) ?_
        refine lv_istore (lv' := [(4, .int (x3 % x4)), (3, .int x4), (5, .int (x3 % x4))]) hx hb d_M_divisor_21 hl (by decide) rfl (fun ls hl => ?_)
        refine lv_goto (tgt := 5) hx hb d_M_divisor_23 (by decide) ?_
        exact ih x4 (x3 % x4) σ H locs ls hw (lv_sub hl [1, 0] rfl) ex h kx1 kr1
  refine bnd h (fun x_4 k5 h => ?_)
  refine L1 FU p1 p2 σ H locs ls hw (lv_sub hl [1, 0] rfl) x_4 k5 (fun y7 e8 H locs ls hw hl => ?_) trivial
  subst e8
  refine lv_iload_n hx hb d_M_divisor_26 rfl (lv_at hl 0 rfl) ?_
  exact retI C hw rfl (congrArg (fun z => (z, σ)) (Option.some.inj h)) d_M_divisor_27
def f_M_lowest (c0 : Nat) (p1 : Int32) (p2 : Int32) (p3 : Int32) : Option (Int64) := ((f_M_divisor c0 p1 p2).bind fun q1 => (if p3 = 0 then (if q1 = 0 then none else some ((p1 / q1)).toInt64) else (if q1 = 0 then none else some ((p2 / q1)).toInt64)))
set_option maxHeartbeats 400000 in
set_option maxRecDepth 20000 in
theorem c_M_lowest (g : GX) (c0 : Nat) (hc0 : tg BM c0 20) (p1 : Int32) (p2 : Int32) (p3 : Int32) (σ : St) (q : Int64) (h : f_M_lowest c0 p1 p2 p3 = some q) (l : Launch) : CT BM l y_M_lowest (v_M_lowest :: lwG) 2 [.ref (g.2.1 c0), .int p1, .int p2, .int p3] g σ (QL BM g (q, σ)) := by
  refine mkC (cc := b_M_lowest) (maxL := 5) (ret := (some .long)) rfl (by decide) rfl (Nat.le_of_ble_eq_true rfl) ?_
  intro p e s m args below meth c A ls C hl hw
  obtain ⟨hx, hb, hr, hml, hown, hts, hK, hE, hA, hlk⟩ := id C
  replace hl : lv_has ls 5 [(0, .ref (g.2.1 c0)), (1, .int p1), (2, .int p2), (3, .int p3)] := hl
  obtain ⟨H, hH⟩ : ∃ z, z = s.heap := ⟨_, rfl⟩
  rw [← hH] at hw ⊢
  obtain ⟨locs, hlo⟩ : ∃ z : List Loc, z = [] := ⟨_, rfl⟩
  rw [← hlo] at hw ⊢
  unfold f_M_lowest at h
  refine lv_aload_n hx hb d_M_lowest_0 rfl (lv_at hl 0 rfl) ?_
  refine lv_iload_n hx hb d_M_lowest_1 rfl (lv_at hl 1 rfl) ?_
  refine lv_iload_n hx hb d_M_lowest_2 rfl (lv_at hl 2 rfl) ?_
  refine bnd h (fun q1 k2 h => ?_)
  refine clI0 (v := q1) C hw (invV (As := [.int p1, .int p2]) C hw (c_M_divisor g c0 hc0 p1 p2 σ q1 k2 l) rfl wc_M_349 nd_M_divisor ⟨by decide, by decide⟩ (rc_M C hw hc0) rfl hl.1 rfl (Nat.le_of_ble_eq_true rfl) d_M_lowest_3 ⟨Nat.le_refl _, Nat.le_refl _⟩) (fun H locs hw => ?_)
  refine lv_istore (lv' := [(4, .int q1), (0, .ref (g.2.1 c0)), (1, .int p1), (2, .int p2), (3, .int p3)]) hx hb d_M_lowest_6 hl (by decide) rfl (fun ls hl => ?_)
  refine lv_iload_n hx hb d_M_lowest_8 rfl (lv_at hl 4 rfl) ?_
  refine lv_if_ne (tgt := 20) hx hb d_M_lowest_9 (by decide) (fun b3 => ?_) (fun b3 => ?_)
  · replace h := ifn b3 h
    refine lv_iload_n hx hb d_M_lowest_20 rfl (lv_at hl 3 rfl) ?_
    refine lv_iload hx hb d_M_lowest_21 (lv_at hl 0 rfl) ?_
    refine gdz h (fun g4 h => ?_)
    refine lv_idiv hx hb d_M_lowest_23 g4 ?_
    refine lv_i2l hx hb d_M_lowest_24 rfl ?_
    exact retL C hw rfl (congrArg (fun z => (z, σ)) (Option.some.inj h)) d_M_lowest_25
  · replace h := ifp b3 h
    refine lv_iload_n hx hb d_M_lowest_12 rfl (lv_at hl 2 rfl) ?_
    refine lv_iload hx hb d_M_lowest_13 (lv_at hl 0 rfl) ?_
    refine gdz h (fun g5 h => ?_)
    refine lv_idiv hx hb d_M_lowest_15 g5 ?_
    refine lv_i2l hx hb d_M_lowest_16 rfl ?_
    refine lv_goto (tgt := 25) hx hb d_M_lowest_17 (by decide) ?_
    exact retL C hw rfl (congrArg (fun z => (z, σ)) (Option.some.inj h)) d_M_lowest_25
def f_M_odds_l39 : Nat → Nat → Int32 → Int32 → Int32 → Int32 → Int32 → St → Option (Int32 × St)
  | 0, _, _, _, _, _, _, _ => none
  | n + 1, c0, x1, x2, x3, x4, x5, σ => (if (vI σ c0 0) ≤ x5 then some (x4, σ) else ((f_M_keep c0 σ).bind fun q6 => (st (sI q6 c0 32 x5) fun s9 => ((f_M_goDays c0 x2 s9).bind fun q10 => (st (sI q10 c0 32 (-1)) fun s13 => (if ok x1 6 = true then (if ok x1 6 = true then (((if (vJ s13 5 (nx x1)) ≤ (vJ s13 19 (nx x1)) then some false else some true) : Option (Bool)).bind fun q16 => ((f_M_putBack c0 s13).bind fun q22 => (f_M_odds_l39 n c0 x1 x2 x3 (x4 + (b2i q16)) (x5 + 1) q22))) else none) else none))))))
def f_M_odds (c0 : Nat) (p1 : Int32) (p2 : Int32) (p3 : Int32) (σ : St) : Option (Int64 × St) := (if (f_M_isTaker c0 p1 σ) = false then some ((-9223372036854775808), σ) else (if (f_M_in c0 p2 0 30) = false then some ((-9223372036854775808), σ) else (if (f_M_in c0 p3 0 1) = false then some ((-9223372036854775808), σ) else ((f_M_odds_l39 FU c0 p1 p2 p3 0 0 σ).bind fun x_26 => ((f_M_lowest c0 x_26.1 (vI x_26.2 c0 0) p3).bind fun q29 => some (q29, x_26.2))))))
set_option maxHeartbeats 400000 in
set_option maxRecDepth 20000 in
theorem c_M_odds (g : GX) (c0 : Nat) (hc0 : tg BM c0 20) (p1 : Int32) (p2 : Int32) (p3 : Int32) (σ : St) (q : Int64 × St) (h : f_M_odds c0 p1 p2 p3 σ = some q) (l : Launch) : CT BM l y_M_odds (v_M_odds :: lwG) 9 [.ref (g.2.1 c0), .int p1, .int p2, .int p3] g σ (QL BM g q) := by
  refine mkC (cc := b_M_odds) (maxL := 6) (ret := (some .long)) rfl (by decide) rfl (Nat.le_of_ble_eq_true rfl) ?_
  intro p e s m args below meth c A ls C hl hw
  obtain ⟨hx, hb, hr, hml, hown, hts, hK, hE, hA, hlk⟩ := id C
  replace hl : lv_has ls 6 [(0, .ref (g.2.1 c0)), (1, .int p1), (2, .int p2), (3, .int p3)] := hl
  obtain ⟨H, hH⟩ : ∃ z, z = s.heap := ⟨_, rfl⟩
  rw [← hH] at hw ⊢
  obtain ⟨locs, hlo⟩ : ∃ z : List Loc, z = [] := ⟨_, rfl⟩
  rw [← hlo] at hw ⊢
  unfold f_M_odds at h
  refine lv_aload_n hx hb d_M_odds_0 rfl (lv_at hl 0 rfl) ?_
  refine lv_iload_n hx hb d_M_odds_1 rfl (lv_at hl 1 rfl) ?_
  refine clZ0 (v := (f_M_isTaker c0 p1 σ)) C hw (invV (As := [.int p1]) C hw (c_M_isTaker g c0 hc0 p1 σ l) rfl wc_M_222 nd_M_isTaker ⟨by decide, by decide⟩ (rc_M C hw hc0) rfl hl.1 rfl (Nat.le_of_ble_eq_true rfl) d_M_odds_2 ⟨Nat.le_refl _, Nat.le_refl _⟩) (fun H locs hw => ?_)
  refine ifB (tgt := 29) C d_M_odds_5 (by decide) (fun b1 => ?_) (fun b1 => ?_)
  · replace h := ifp b1 h
    refine lv_ldc2 (v := (-9223372036854775808)) hx hb hown (hts _ (inG 1211 (by decide +kernel) (by decide +kernel))) d_M_odds_29 ?_
    exact retL C hw rfl (Option.some.inj h) d_M_odds_32
  · replace h := ifn b1 h
    refine lv_aload_n hx hb d_M_odds_8 rfl (lv_at hl 0 rfl) ?_
    refine lv_iload_n hx hb d_M_odds_9 rfl (lv_at hl 2 rfl) ?_
    refine lv_iconst (v := 0) hx hb d_M_odds_10 (by decide) ?_
    refine lv_bipush (v := 30) hx hb d_M_odds_11 (by decide) ?_
    refine clZ0 (v := (f_M_in c0 p2 0 30)) C hw (invV (As := [.int p2, .int 0, .int 30]) C hw (c_M_in g c0 hc0 p2 0 30 σ l) rfl wc_M_218 nd_M_in ⟨by decide, by decide⟩ (rc_M C hw hc0) rfl hl.1 rfl (Nat.le_of_ble_eq_true rfl) d_M_odds_13 ⟨Nat.le_refl _, Nat.le_refl _⟩) (fun H locs hw => ?_)
    refine ifB (tgt := 29) C d_M_odds_16 (by decide) (fun b2 => ?_) (fun b2 => ?_)
    · replace h := ifp b2 h
      refine lv_ldc2 (v := (-9223372036854775808)) hx hb hown (hts _ (inG 1211 (by decide +kernel) (by decide +kernel))) d_M_odds_29 ?_
      exact retL C hw rfl (Option.some.inj h) d_M_odds_32
    · replace h := ifn b2 h
      refine lv_aload_n hx hb d_M_odds_19 rfl (lv_at hl 0 rfl) ?_
      refine lv_iload_n hx hb d_M_odds_20 rfl (lv_at hl 3 rfl) ?_
      refine lv_iconst (v := 0) hx hb d_M_odds_21 (by decide) ?_
      refine lv_iconst (v := 1) hx hb d_M_odds_22 (by decide) ?_
      refine clZ0 (v := (f_M_in c0 p3 0 1)) C hw (invV (As := [.int p3, .int 0, .int 1]) C hw (c_M_in g c0 hc0 p3 0 1 σ l) rfl wc_M_218 nd_M_in ⟨by decide, by decide⟩ (rc_M C hw hc0) rfl hl.1 rfl (Nat.le_of_ble_eq_true rfl) d_M_odds_23 ⟨Nat.le_refl _, Nat.le_refl _⟩) (fun H locs hw => ?_)
      refine ifnB (tgt := 33) C d_M_odds_26 (by decide) (fun b3 => ?_) (fun b3 => ?_)
      · replace h := ifn b3 h
        refine lv_iconst (v := 0) hx hb d_M_odds_33 (by decide) ?_
        refine lv_istore (lv' := [(4, .int 0), (0, .ref (g.2.1 c0)), (1, .int p1), (2, .int p2), (3, .int p3)]) hx hb d_M_odds_34 hl (by decide) rfl (fun ls hl => ?_)
        refine lv_iconst (v := 0) hx hb d_M_odds_36 (by decide) ?_
        refine lv_istore (lv' := [(5, .int 0), (4, .int 0), (0, .ref (g.2.1 c0)), (1, .int p1), (2, .int p2), (3, .int p3)]) hx hb d_M_odds_37 hl (by decide) rfl (fun ls hl => ?_)
        have L4 : ∀ (c0 : Nat) (hc0 : tg BM c0 20) (x1 : Int32) (x2 : Int32) (x3 : Int32) (n : Nat) (x4 : Int32) (x5 : Int32) (σ : St) (H : Heap) (locs : List Loc) (ls : Array Slot), HW BM g A s σ H locs → lv_has ls 6 [(0, .ref (g.2.1 c0)), (1, .int x1), (2, .int x2), (3, .int x3), (4, .int x4), (5, .int x5)] → ∀ (ex : Int32 × St), f_M_odds_l39 n c0 x1 x2 x3 x4 x5 σ = some ex → (∀ (y : Int32 × St), ex = y → ∀ (H : Heap) (locs : List Loc) (ls : Array Slot), HW BM g A s y.2 H locs → lv_has ls 6 [(0, .ref (g.2.1 c0)), (3, .int x3), (4, .int y.1)] → W p l e (rmL 9) s m args below meth c H locs 0 0 (MQ below (QL BM g q A) args s 0 0 A) (F0 m 103 ls [])) → (True) → W p l e (rmL 9) s m args below meth c H locs 0 0 (MQ below (QL BM g q A) args s 0 0 A) (F0 m 39 ls []) := by
          intro c0 hc0 x1 x2 x3 n
          induction n with
          | zero =>
            intro x4 x5 σ H locs ls hw hl ex h kx4 kr4
            cases h
          | succ n ih =>
            intro x4 x5 σ H locs ls hw hl ex h kx4 kr4
            rw [f_M_odds_l39] at h
            refine lv_iload hx hb d_M_odds_39 (lv_at hl 5 rfl) ?_
            refine lv_aload_n hx hb d_M_odds_41 rfl (lv_at hl 0 rfl) ?_
            refine fg_M_7 C hw hc0 d_M_odds_42 ?_
            refine lv_icmp_ge (tgt := 103) hx hb d_M_odds_45 (by decide) (fun b5 => ?_) (fun b5 => ?_)
            · replace h := ifp b5 h
              exact kx4 _ (Option.some.inj h).symm H locs ls hw (lv_sub hl [0, 3, 4] rfl)
            · replace h := ifn b5 h
              refine lv_aload_n hx hb d_M_odds_48 rfl (lv_at hl 0 rfl) ?_
              refine bnd h (fun q6 k7 h => ?_)
              refine clV C hw (invV (As := []) C hw (c_M_keep g c0 hc0 σ q6 k7 l) rfl wc_M_325 nd_M_keep ⟨by decide, by decide⟩ (rc_M C hw hc0) rfl hl.1 rfl (Nat.le_of_ble_eq_true rfl) d_M_odds_49 ⟨Nat.le_refl _, Nat.le_refl _⟩) (fun H locs hw => ?_)
              refine lv_aload_n hx hb d_M_odds_52 rfl (lv_at hl 0 rfl) ?_
              refine lv_iload hx hb d_M_odds_53 (lv_at hl 5 rfl) ?_
              refine ste h (fun s9 e25 h => ?_)
              refine fp_M_108 C hw hc0 d_M_odds_55 (fun H locs hw => ?_)
              replace hw := HWe hw e25
              refine lv_aload_n hx hb d_M_odds_58 rfl (lv_at hl 0 rfl) ?_
              refine lv_iload_n hx hb d_M_odds_59 rfl (lv_at hl 2 rfl) ?_
              refine bnd h (fun q10 k11 h => ?_)
              refine clV C hw (invV (As := [.int x2]) C hw (c_M_goDays g c0 hc0 x2 s9 q10 k11 l) rfl wc_M_328 nd_M_goDays ⟨by decide, by decide⟩ (rc_M C hw hc0) rfl hl.1 rfl (Nat.le_of_ble_eq_true rfl) d_M_odds_60 ⟨Nat.le_refl _, Nat.le_refl _⟩) (fun H locs hw => ?_)
              refine lv_aload_n hx hb d_M_odds_63 rfl (lv_at hl 0 rfl) ?_
              refine lv_iconst (v := (-1)) hx hb d_M_odds_64 (by decide) ?_
              refine ste h (fun s13 e24 h => ?_)
              refine fp_M_108 C hw hc0 d_M_odds_65 (fun H locs hw => ?_)
              replace hw := HWe hw e24
              refine lv_iload hx hb d_M_odds_68 (lv_at hl 4 rfl) ?_
              refine lv_aload_n hx hb d_M_odds_70 rfl (lv_at hl 0 rfl) ?_
              refine fg_M_32 C hw hc0 d_M_odds_71 ?_
              refine lv_iload_n hx hb d_M_odds_74 rfl (lv_at hl 1 rfl) ?_
              refine gde h (fun g14 h => ?_)
              refine ldI (n := 6) C hw tM_5 (by decide) g14 d_M_odds_75 ?_
              refine lv_aload_n hx hb d_M_odds_76 rfl (lv_at hl 0 rfl) ?_
              refine fg_M_120 C hw hc0 d_M_odds_77 ?_
              refine lv_iload_n hx hb d_M_odds_80 rfl (lv_at hl 1 rfl) ?_
              refine gde h (fun g15 h => ?_)
              refine ldI (n := 6) C hw tM_19 (by decide) g15 d_M_odds_81 ?_
              refine bnd h (fun q16 h17 h => ?_)
              have J18 : ∀ (H : Heap) (locs : List Loc) (ls : Array Slot), HW BM g A s s13 H locs → lv_has ls 6 [(0, .ref (g.2.1 c0)), (1, .int x1), (2, .int x2), (3, .int x3), (5, .int x5)] → W p l e (rmL 9) s m args below meth c H locs 0 0 (MQ below (QL BM g q A) args s 0 0 A) (F0 m 90 ls [.int (b2i q16), .int x4]) := by
                intro H locs ls hw hl
                refine lv_iadd hx hb d_M_odds_90 ?_
                refine lv_istore (lv' := [(4, .int (x4 + (b2i q16))), (0, .ref (g.2.1 c0)), (1, .int x1), (2, .int x2), (3, .int x3), (5, .int x5)]) hx hb d_M_odds_91 hl (by decide) rfl (fun ls hl => ?_)
                refine lv_aload_n hx hb d_M_odds_93 rfl (lv_at hl 1 rfl) ?_
                refine bnd h (fun q22 k23 h => ?_)
                refine clV C hw (invV (As := []) C hw (c_M_putBack g c0 hc0 s13 q22 k23 l) rfl wc_M_334 nd_M_putBack ⟨by decide, by decide⟩ (rc_M C hw hc0) rfl hl.1 rfl (Nat.le_of_ble_eq_true rfl) d_M_odds_94 ⟨Nat.le_refl _, Nat.le_refl _⟩) (fun H locs hw => ?_)
                refine lv_iinc (v := (x5 + 1)) (lv' := [(5, .int (x5 + 1)), (4, .int (x4 + (b2i q16))), (0, .ref (g.2.1 c0)), (1, .int x1), (2, .int x2), (3, .int x3)]) hx hb d_M_odds_97 hl (k := 5) rfl rfl (by decide) rfl (fun ls hl => ?_)
                refine lv_goto (tgt := 39) hx hb d_M_odds_100 (by decide) ?_
                exact ih (x4 + (b2i q16)) (x5 + 1) q22 H locs ls hw (lv_sub hl [2, 3, 4, 5, 1, 0] rfl) ex h kx4 kr4
              refine lv_icmp_le (tgt := 89) hx hb d_M_odds_82 (by decide) (fun b19 => ?_) (fun b19 => ?_)
              · replace h17 := ifp b19 h17
                refine lv_iconst (v := 0) hx hb d_M_odds_89 (by decide) ?_
                have e20 := Option.some.inj h17
                subst e20
                exact J18 H locs ls hw (lv_sub hl [0, 1, 2, 3, 5] rfl)
              · replace h17 := ifn b19 h17
                refine lv_iconst (v := 1) hx hb d_M_odds_85 (by decide) ?_
                refine lv_goto (tgt := 90) hx hb d_M_odds_86 (by decide) ?_
                have e21 := Option.some.inj h17
                subst e21
                exact J18 H locs ls hw (lv_sub hl [0, 1, 2, 3, 5] rfl)
        refine bnd h (fun x_26 k27 h => ?_)
        refine L4 c0 hc0 p1 p2 p3 FU 0 0 σ H locs ls hw (lv_sub hl [2, 3, 4, 5, 1, 0] rfl) x_26 k27 (fun y31 e32 H locs ls hw hl => ?_) trivial
        subst e32
        refine lv_aload_n hx hb d_M_odds_103 rfl (lv_at hl 0 rfl) ?_
        refine lv_iload hx hb d_M_odds_104 (lv_at hl 2 rfl) ?_
        refine lv_aload_n hx hb d_M_odds_106 rfl (lv_at hl 0 rfl) ?_
        refine fg_M_7 C hw hc0 d_M_odds_107 ?_
        refine lv_iload_n hx hb d_M_odds_110 rfl (lv_at hl 1 rfl) ?_
        refine bnd h (fun q29 k30 h => ?_)
        refine clL0 (v := q29) C hw (invV (As := [.int x_26.1, .int (vI x_26.2 c0 0), .int p3]) C hw (c_M_lowest g c0 hc0 x_26.1 (vI x_26.2 c0 0) p3 x_26.2 q29 k30 l) rfl wc_M_354 nd_M_lowest ⟨by decide, by decide⟩ (rc_M C hw hc0) rfl hl.1 rfl (Nat.le_of_ble_eq_true rfl) d_M_odds_111 ⟨Nat.le_refl _, Nat.le_refl _⟩) (fun H locs hw => ?_)
        exact retL C hw rfl (Option.some.inj h) d_M_odds_114
      · replace h := ifp b3 h
        refine lv_ldc2 (v := (-9223372036854775808)) hx hb hown (hts _ (inG 1211 (by decide +kernel) (by decide +kernel))) d_M_odds_29 ?_
        exact retL C hw rfl (Option.some.inj h) d_M_odds_32
def f_M_mean_l34 : Nat → Nat → Int32 → Int32 → Int32 → Int32 → St → Option (Int32 × St)
  | 0, _, _, _, _, _, _ => none
  | n + 1, c0, x1, x2, x3, x4, σ => (if x1 ≤ x4 then some (x3, σ) else ((f_M_goDay c0 σ).bind fun q7 => (f_M_mean_l34 n c0 x1 x2 (x3 + (vI q7 c0 1)) (x4 + 1) q7)))
def f_M_mean (c0 : Nat) (p1 : Int32) (p2 : Int32) (σ : St) : Option (Int64 × St) := (if (f_M_in c0 p1 1 60) = false then some ((-9223372036854775808), σ) else (if (f_M_in c0 p2 0 1) = false then some ((-9223372036854775808), σ) else ((f_M_keep c0 σ).bind fun q3 => ((f_M_mean_l34 FU c0 p1 p2 0 0 q3).bind fun x_9 => ((f_M_putBack c0 x_9.2).bind fun q12 => ((f_M_lowest c0 x_9.1 p1 p2).bind fun q14 => some (q14, q12)))))))
set_option maxHeartbeats 400000 in
set_option maxRecDepth 20000 in
theorem c_M_mean (g : GX) (c0 : Nat) (hc0 : tg BM c0 20) (p1 : Int32) (p2 : Int32) (σ : St) (q : Int64 × St) (h : f_M_mean c0 p1 p2 σ = some q) (l : Launch) : CT BM l y_M_mean (v_M_mean :: lwG) 8 [.ref (g.2.1 c0), .int p1, .int p2] g σ (QL BM g q) := by
  refine mkC (cc := b_M_mean) (maxL := 5) (ret := (some .long)) rfl (by decide) rfl (Nat.le_of_ble_eq_true rfl) ?_
  intro p e s m args below meth c A ls C hl hw
  obtain ⟨hx, hb, hr, hml, hown, hts, hK, hE, hA, hlk⟩ := id C
  replace hl : lv_has ls 5 [(0, .ref (g.2.1 c0)), (1, .int p1), (2, .int p2)] := hl
  obtain ⟨H, hH⟩ : ∃ z, z = s.heap := ⟨_, rfl⟩
  rw [← hH] at hw ⊢
  obtain ⟨locs, hlo⟩ : ∃ z : List Loc, z = [] := ⟨_, rfl⟩
  rw [← hlo] at hw ⊢
  unfold f_M_mean at h
  refine lv_aload_n hx hb d_M_mean_0 rfl (lv_at hl 0 rfl) ?_
  refine lv_iload_n hx hb d_M_mean_1 rfl (lv_at hl 1 rfl) ?_
  refine lv_iconst (v := 1) hx hb d_M_mean_2 (by decide) ?_
  refine lv_bipush (v := 60) hx hb d_M_mean_3 (by decide) ?_
  refine clZ0 (v := (f_M_in c0 p1 1 60)) C hw (invV (As := [.int p1, .int 1, .int 60]) C hw (c_M_in g c0 hc0 p1 1 60 σ l) rfl wc_M_218 nd_M_in ⟨by decide, by decide⟩ (rc_M C hw hc0) rfl hl.1 rfl (Nat.le_of_ble_eq_true rfl) d_M_mean_5 ⟨Nat.le_refl _, Nat.le_refl _⟩) (fun H locs hw => ?_)
  refine ifB (tgt := 21) C d_M_mean_8 (by decide) (fun b1 => ?_) (fun b1 => ?_)
  · replace h := ifp b1 h
    refine lv_ldc2 (v := (-9223372036854775808)) hx hb hown (hts _ (inG 1211 (by decide +kernel) (by decide +kernel))) d_M_mean_21 ?_
    exact retL C hw rfl (Option.some.inj h) d_M_mean_24
  · replace h := ifn b1 h
    refine lv_aload_n hx hb d_M_mean_11 rfl (lv_at hl 0 rfl) ?_
    refine lv_iload_n hx hb d_M_mean_12 rfl (lv_at hl 2 rfl) ?_
    refine lv_iconst (v := 0) hx hb d_M_mean_13 (by decide) ?_
    refine lv_iconst (v := 1) hx hb d_M_mean_14 (by decide) ?_
    refine clZ0 (v := (f_M_in c0 p2 0 1)) C hw (invV (As := [.int p2, .int 0, .int 1]) C hw (c_M_in g c0 hc0 p2 0 1 σ l) rfl wc_M_218 nd_M_in ⟨by decide, by decide⟩ (rc_M C hw hc0) rfl hl.1 rfl (Nat.le_of_ble_eq_true rfl) d_M_mean_15 ⟨Nat.le_refl _, Nat.le_refl _⟩) (fun H locs hw => ?_)
    refine ifnB (tgt := 25) C d_M_mean_18 (by decide) (fun b2 => ?_) (fun b2 => ?_)
    · replace h := ifn b2 h
      refine lv_aload_n hx hb d_M_mean_25 rfl (lv_at hl 0 rfl) ?_
      refine bnd h (fun q3 k4 h => ?_)
      refine clV C hw (invV (As := []) C hw (c_M_keep g c0 hc0 σ q3 k4 l) rfl wc_M_325 nd_M_keep ⟨by decide, by decide⟩ (rc_M C hw hc0) rfl hl.1 rfl (Nat.le_of_ble_eq_true rfl) d_M_mean_26 ⟨Nat.le_refl _, Nat.le_refl _⟩) (fun H locs hw => ?_)
      refine lv_iconst (v := 0) hx hb d_M_mean_29 (by decide) ?_
      refine lv_istore_n (lv' := [(3, .int 0), (0, .ref (g.2.1 c0)), (1, .int p1), (2, .int p2)]) hx hb d_M_mean_30 rfl hl (by decide) rfl (fun ls hl => ?_)
      refine lv_iconst (v := 0) hx hb d_M_mean_31 (by decide) ?_
      refine lv_istore (lv' := [(4, .int 0), (3, .int 0), (0, .ref (g.2.1 c0)), (1, .int p1), (2, .int p2)]) hx hb d_M_mean_32 hl (by decide) rfl (fun ls hl => ?_)
      have L5 : ∀ (c0 : Nat) (hc0 : tg BM c0 20) (x1 : Int32) (x2 : Int32) (n : Nat) (x3 : Int32) (x4 : Int32) (σ : St) (H : Heap) (locs : List Loc) (ls : Array Slot), HW BM g A s σ H locs → lv_has ls 5 [(0, .ref (g.2.1 c0)), (1, .int x1), (2, .int x2), (3, .int x3), (4, .int x4)] → ∀ (ex : Int32 × St), f_M_mean_l34 n c0 x1 x2 x3 x4 σ = some ex → (∀ (y : Int32 × St), ex = y → ∀ (H : Heap) (locs : List Loc) (ls : Array Slot), HW BM g A s y.2 H locs → lv_has ls 5 [(0, .ref (g.2.1 c0)), (1, .int x1), (2, .int x2), (3, .int y.1)] → W p l e (rmL 8) s m args below meth c H locs 0 0 (MQ below (QL BM g q A) args s 0 0 A) (F0 m 57 ls [])) → (True) → W p l e (rmL 8) s m args below meth c H locs 0 0 (MQ below (QL BM g q A) args s 0 0 A) (F0 m 34 ls []) := by
        intro c0 hc0 x1 x2 n
        induction n with
        | zero =>
          intro x3 x4 σ H locs ls hw hl ex h kx5 kr5
          cases h
        | succ n ih =>
          intro x3 x4 σ H locs ls hw hl ex h kx5 kr5
          rw [f_M_mean_l34] at h
          refine lv_iload hx hb d_M_mean_34 (lv_at hl 4 rfl) ?_
          refine lv_iload_n hx hb d_M_mean_36 rfl (lv_at hl 1 rfl) ?_
          refine lv_icmp_ge (tgt := 57) hx hb d_M_mean_37 (by decide) (fun b6 => ?_) (fun b6 => ?_)
          · replace h := ifp b6 h
            exact kx5 _ (Option.some.inj h).symm H locs ls hw (lv_sub hl [0, 1, 2, 3] rfl)
          · replace h := ifn b6 h
            refine lv_aload_n hx hb d_M_mean_40 rfl (lv_at hl 0 rfl) ?_
            refine bnd h (fun q7 k8 h => ?_)
            refine clV C hw (invV (As := []) C hw (c_M_goDay g c0 hc0 σ q7 k8 l) rfl wc_M_322 nd_M_goDay ⟨by decide, by decide⟩ (rc_M C hw hc0) rfl hl.1 rfl (Nat.le_of_ble_eq_true rfl) d_M_mean_41 ⟨Nat.le_refl _, Nat.le_refl _⟩) (fun H locs hw => ?_)
            refine lv_iload_n hx hb d_M_mean_44 rfl (lv_at hl 3 rfl) ?_
            refine lv_aload_n hx hb d_M_mean_45 rfl (lv_at hl 0 rfl) ?_
            refine fg_M_13 C hw hc0 d_M_mean_46 ?_
            refine lv_iadd hx hb d_M_mean_49 ?_
            refine lv_istore_n (lv' := [(3, .int (x3 + (vI q7 c0 1))), (0, .ref (g.2.1 c0)), (1, .int x1), (2, .int x2), (4, .int x4)]) hx hb d_M_mean_50 rfl hl (by decide) rfl (fun ls hl => ?_)
            refine lv_iinc (v := (x4 + 1)) (lv' := [(4, .int (x4 + 1)), (3, .int (x3 + (vI q7 c0 1))), (0, .ref (g.2.1 c0)), (1, .int x1), (2, .int x2)]) hx hb d_M_mean_51 hl (k := 4) rfl rfl (by decide) rfl (fun ls hl => ?_)
            refine lv_goto (tgt := 34) hx hb d_M_mean_54 (by decide) ?_
            exact ih (x3 + (vI q7 c0 1)) (x4 + 1) q7 H locs ls hw (lv_sub hl [2, 3, 4, 1, 0] rfl) ex h kx5 kr5
      refine bnd h (fun x_9 k10 h => ?_)
      refine L5 c0 hc0 p1 p2 FU 0 0 q3 H locs ls hw (lv_sub hl [2, 3, 4, 1, 0] rfl) x_9 k10 (fun y16 e17 H locs ls hw hl => ?_) trivial
      subst e17
      refine lv_aload_n hx hb d_M_mean_57 rfl (lv_at hl 0 rfl) ?_
      refine bnd h (fun q12 k13 h => ?_)
      refine clV C hw (invV (As := []) C hw (c_M_putBack g c0 hc0 x_9.2 q12 k13 l) rfl wc_M_334 nd_M_putBack ⟨by decide, by decide⟩ (rc_M C hw hc0) rfl hl.1 rfl (Nat.le_of_ble_eq_true rfl) d_M_mean_58 ⟨Nat.le_refl _, Nat.le_refl _⟩) (fun H locs hw => ?_)
      refine lv_aload_n hx hb d_M_mean_61 rfl (lv_at hl 0 rfl) ?_
      refine lv_iload_n hx hb d_M_mean_62 rfl (lv_at hl 3 rfl) ?_
      refine lv_iload_n hx hb d_M_mean_63 rfl (lv_at hl 1 rfl) ?_
      refine lv_iload_n hx hb d_M_mean_64 rfl (lv_at hl 2 rfl) ?_
      refine bnd h (fun q14 k15 h => ?_)
      refine clL0 (v := q14) C hw (invV (As := [.int x_9.1, .int p1, .int p2]) C hw (c_M_lowest g c0 hc0 x_9.1 p1 p2 q12 q14 k15 l) rfl wc_M_354 nd_M_lowest ⟨by decide, by decide⟩ (rc_M C hw hc0) rfl hl.1 rfl (Nat.le_of_ble_eq_true rfl) d_M_mean_65 ⟨Nat.le_refl _, Nat.le_refl _⟩) (fun H locs hw => ?_)
      exact retL C hw rfl (Option.some.inj h) d_M_mean_68
    · replace h := ifp b2 h
      refine lv_ldc2 (v := (-9223372036854775808)) hx hb hown (hts _ (inG 1211 (by decide +kernel) (by decide +kernel))) d_M_mean_21 ?_
      exact retL C hw rfl (Option.some.inj h) d_M_mean_24
def f_M_book (c0 : Nat) (p1 : Int32) (σ : St) : Option (Int32 × St) := (if p1 = (-1) then (st (sI σ c0 43 0) fun s11 => some (0, s11)) else (if (f_M_in c0 p1 0 999) = false then some ((-2), σ) else (if (vI σ c0 43) = 12 then some ((-4), σ) else (if ok (vI σ c0 43) 12 = true then (st (sJ σ 25 (upd (vJ σ 25) (nx (vI σ c0 43)) p1)) fun s5 => (st (sI s5 c0 43 ((vI s5 c0 43) + 1)) fun s7 => some ((vI s7 c0 43), s7))) else none))))
set_option maxHeartbeats 400000 in
set_option maxRecDepth 20000 in
theorem c_M_book (g : GX) (c0 : Nat) (hc0 : tg BM c0 20) (p1 : Int32) (σ : St) (q : Int32 × St) (h : f_M_book c0 p1 σ = some q) (l : Launch) : CT BM l y_M_book (v_M_book :: lwG) 2 [.ref (g.2.1 c0), .int p1] g σ (QI BM g q) := by
  refine mkC (cc := b_M_book) (maxL := 2) (ret := (some .int)) rfl (by decide) rfl (Nat.le_of_ble_eq_true rfl) ?_
  intro p e s m args below meth c A ls C hl hw
  obtain ⟨hx, hb, hr, hml, hown, hts, hK, hE, hA, hlk⟩ := id C
  replace hl : lv_has ls 2 [(0, .ref (g.2.1 c0)), (1, .int p1)] := hl
  obtain ⟨H, hH⟩ : ∃ z, z = s.heap := ⟨_, rfl⟩
  rw [← hH] at hw ⊢
  obtain ⟨locs, hlo⟩ : ∃ z : List Loc, z = [] := ⟨_, rfl⟩
  rw [← hlo] at hw ⊢
  unfold f_M_book at h
  refine lv_iload_n hx hb d_M_book_0 rfl (lv_at hl 1 rfl) ?_
  refine lv_iconst (v := (-1)) hx hb d_M_book_1 (by decide) ?_
  refine lv_icmp_ne (tgt := 12) hx hb d_M_book_2 (by decide) (fun b1 => ?_) (fun b1 => ?_)
  · replace h := ifn b1 h
    refine lv_aload_n hx hb d_M_book_12 rfl (lv_at hl 0 rfl) ?_
    refine lv_iload_n hx hb d_M_book_13 rfl (lv_at hl 1 rfl) ?_
    refine lv_iconst (v := 0) hx hb d_M_book_14 (by decide) ?_
    refine lv_sipush (v := 999) hx hb d_M_book_15 (by decide) ?_
    refine clZ0 (v := (f_M_in c0 p1 0 999)) C hw (invV (As := [.int p1, .int 0, .int 999]) C hw (c_M_in g c0 hc0 p1 0 999 σ l) rfl wc_M_218 nd_M_in ⟨by decide, by decide⟩ (rc_M C hw hc0) rfl hl.1 rfl (Nat.le_of_ble_eq_true rfl) d_M_book_18 ⟨Nat.le_refl _, Nat.le_refl _⟩) (fun H locs hw => ?_)
    refine ifnB (tgt := 27) C d_M_book_21 (by decide) (fun b2 => ?_) (fun b2 => ?_)
    · replace h := ifn b2 h
      refine lv_aload_n hx hb d_M_book_27 rfl (lv_at hl 0 rfl) ?_
      refine fg_M_141 C hw hc0 d_M_book_28 ?_
      refine lv_bipush (v := 12) hx hb d_M_book_31 (by decide) ?_
      refine lv_icmp_ne (tgt := 39) hx hb d_M_book_33 (by decide) (fun b3 => ?_) (fun b3 => ?_)
      · replace h := ifn b3 h
        refine lv_aload_n hx hb d_M_book_39 rfl (lv_at hl 0 rfl) ?_
        refine fg_M_144 C hw hc0 d_M_book_40 ?_
        refine lv_aload_n hx hb d_M_book_43 rfl (lv_at hl 0 rfl) ?_
        refine fg_M_141 C hw hc0 d_M_book_44 ?_
        refine lv_iload_n hx hb d_M_book_47 rfl (lv_at hl 1 rfl) ?_
        refine gde h (fun g4 h => ?_)
        refine ste h (fun s5 e9 h => ?_)
        refine stI (n := 12) C hw tM_25 (by decide) g4 d_M_book_48 (fun H locs hw => ?_)
        replace hw := HWe hw e9
        refine lv_aload_n hx hb d_M_book_49 rfl (lv_at hl 0 rfl) ?_
        refine lv_dup hx hb d_M_book_50 rfl ?_
        refine fg_M_141 C hw hc0 d_M_book_51 ?_
        refine lv_iconst (v := 1) hx hb d_M_book_54 (by decide) ?_
        refine lv_iadd hx hb d_M_book_55 ?_
        refine ste h (fun s7 e8 h => ?_)
        refine fp_M_141 C hw hc0 d_M_book_56 (fun H locs hw => ?_)
        replace hw := HWe hw e8
        refine lv_aload_n hx hb d_M_book_59 rfl (lv_at hl 0 rfl) ?_
        refine fg_M_141 C hw hc0 d_M_book_60 ?_
        exact retI C hw rfl (Option.some.inj h) d_M_book_63
      · replace h := ifp b3 h
        refine lv_bipush (v := (-4)) hx hb d_M_book_36 (by decide) ?_
        exact retI C hw rfl (Option.some.inj h) d_M_book_38
    · replace h := ifp b2 h
      refine lv_bipush (v := (-2)) hx hb d_M_book_24 (by decide) ?_
      exact retI C hw rfl (Option.some.inj h) d_M_book_26
  · replace h := ifp b1 h
    refine lv_aload_n hx hb d_M_book_5 rfl (lv_at hl 0 rfl) ?_
    refine lv_iconst (v := 0) hx hb d_M_book_6 (by decide) ?_
    refine ste h (fun s11 e12 h => ?_)
    refine fp_M_141 C hw hc0 d_M_book_7 (fun H locs hw => ?_)
    replace hw := HWe hw e12
    refine lv_iconst (v := 0) hx hb d_M_book_10 (by decide) ?_
    exact retI C hw rfl (Option.some.inj h) d_M_book_11
def f_M_looked_l9 : Nat → Nat → Int32 → Int32 → St → Option (Int32 × St)
  | 0, _, _, _, _ => none
  | n + 1, c0, x1, x2, σ => (if (vI σ c0 43) ≤ x2 then some (x1, σ) else (if 0 ≤ x1 then some (x1, σ) else ((f_M_goDay c0 σ).bind fun q6 => (if ok x2 12 = true then (if (vI q6 c0 1) = (vJ q6 25 (nx x2)) then (f_M_looked_l9 n c0 (-5) (x2 + 1) q6) else (f_M_looked_l9 n c0 x2 (x2 + 1) q6)) else none))))
def f_M_looked (c0 : Nat) (σ : St) : Option (Int32 × St) := ((f_M_keep c0 σ).bind fun q1 => ((f_M_looked_l9 FU c0 (-5) 0 q1).bind fun x_10 => ((f_M_putBack c0 x_10.2).bind fun q13 => some (x_10.1, q13))))
set_option maxHeartbeats 400000 in
set_option maxRecDepth 20000 in
theorem c_M_looked (g : GX) (c0 : Nat) (hc0 : tg BM c0 20) (σ : St) (q : Int32 × St) (h : f_M_looked c0 σ = some q) (l : Launch) : CT BM l y_M_looked (v_M_looked :: lwG) 8 [.ref (g.2.1 c0)] g σ (QI BM g q) := by
  refine mkC (cc := b_M_looked) (maxL := 3) (ret := (some .int)) rfl (by decide) rfl (Nat.le_of_ble_eq_true rfl) ?_
  intro p e s m args below meth c A ls C hl hw
  obtain ⟨hx, hb, hr, hml, hown, hts, hK, hE, hA, hlk⟩ := id C
  replace hl : lv_has ls 3 [(0, .ref (g.2.1 c0))] := hl
  obtain ⟨H, hH⟩ : ∃ z, z = s.heap := ⟨_, rfl⟩
  rw [← hH] at hw ⊢
  obtain ⟨locs, hlo⟩ : ∃ z : List Loc, z = [] := ⟨_, rfl⟩
  rw [← hlo] at hw ⊢
  unfold f_M_looked at h
  refine lv_aload_n hx hb d_M_looked_0 rfl (lv_at hl 0 rfl) ?_
  refine bnd h (fun q1 k2 h => ?_)
  refine clV C hw (invV (As := []) C hw (c_M_keep g c0 hc0 σ q1 k2 l) rfl wc_M_325 nd_M_keep ⟨by decide, by decide⟩ (rc_M C hw hc0) rfl hl.1 rfl (Nat.le_of_ble_eq_true rfl) d_M_looked_1 ⟨Nat.le_refl _, Nat.le_refl _⟩) (fun H locs hw => ?_)
  refine lv_bipush (v := (-5)) hx hb d_M_looked_4 (by decide) ?_
  refine lv_istore_n (lv' := [(1, .int (-5)), (0, .ref (g.2.1 c0))]) hx hb d_M_looked_6 rfl hl (by decide) rfl (fun ls hl => ?_)
  refine lv_iconst (v := 0) hx hb d_M_looked_7 (by decide) ?_
  refine lv_istore_n (lv' := [(2, .int 0), (1, .int (-5)), (0, .ref (g.2.1 c0))]) hx hb d_M_looked_8 rfl hl (by decide) rfl (fun ls hl => ?_)
  have L3 : ∀ (c0 : Nat) (hc0 : tg BM c0 20) (n : Nat) (x1 : Int32) (x2 : Int32) (σ : St) (H : Heap) (locs : List Loc) (ls : Array Slot), HW BM g A s σ H locs → lv_has ls 3 [(0, .ref (g.2.1 c0)), (1, .int x1), (2, .int x2)] → ∀ (ex : Int32 × St), f_M_looked_l9 n c0 x1 x2 σ = some ex → (∀ (y : Int32 × St), ex = y → ∀ (H : Heap) (locs : List Loc) (ls : Array Slot), HW BM g A s y.2 H locs → lv_has ls 3 [(0, .ref (g.2.1 c0)), (1, .int y.1)] → W p l e (rmL 8) s m args below meth c H locs 0 0 (MQ below (QI BM g q A) args s 0 0 A) (F0 m 51 ls [])) → (True) → W p l e (rmL 8) s m args below meth c H locs 0 0 (MQ below (QI BM g q A) args s 0 0 A) (F0 m 9 ls []) := by
    intro c0 hc0 n
    induction n with
    | zero =>
      intro x1 x2 σ H locs ls hw hl ex h kx3 kr3
      cases h
    | succ n ih =>
      intro x1 x2 σ H locs ls hw hl ex h kx3 kr3
      rw [f_M_looked_l9] at h
      refine lv_iload_n hx hb d_M_looked_9 rfl (lv_at hl 2 rfl) ?_
      refine lv_aload_n hx hb d_M_looked_10 rfl (lv_at hl 0 rfl) ?_
      refine fg_M_141 C hw hc0 d_M_looked_11 ?_
      refine lv_icmp_ge (tgt := 51) hx hb d_M_looked_14 (by decide) (fun b4 => ?_) (fun b4 => ?_)
      · replace h := ifp b4 h
        exact kx3 _ (Option.some.inj h).symm H locs ls hw (lv_sub hl [0, 1] rfl)
      · replace h := ifn b4 h
        refine lv_iload_n hx hb d_M_looked_17 rfl (lv_at hl 1 rfl) ?_
        refine lv_if_ge (tgt := 51) hx hb d_M_looked_18 (by decide) (fun b5 => ?_) (fun b5 => ?_)
        · replace h := ifp b5 h
          exact kx3 _ (Option.some.inj h).symm H locs ls hw (lv_sub hl [0, 1] rfl)
        · replace h := ifn b5 h
          refine lv_aload_n hx hb d_M_looked_21 rfl (lv_at hl 0 rfl) ?_
          refine bnd h (fun q6 k7 h => ?_)
          refine clV C hw (invV (As := []) C hw (c_M_goDay g c0 hc0 σ q6 k7 l) rfl wc_M_322 nd_M_goDay ⟨by decide, by decide⟩ (rc_M C hw hc0) rfl hl.1 rfl (Nat.le_of_ble_eq_true rfl) d_M_looked_22 ⟨Nat.le_refl _, Nat.le_refl _⟩) (fun H locs hw => ?_)
          refine lv_aload_n hx hb d_M_looked_25 rfl (lv_at hl 0 rfl) ?_
          refine fg_M_13 C hw hc0 d_M_looked_26 ?_
          refine lv_aload_n hx hb d_M_looked_29 rfl (lv_at hl 0 rfl) ?_
          refine fg_M_144 C hw hc0 d_M_looked_30 ?_
          refine lv_iload_n hx hb d_M_looked_33 rfl (lv_at hl 2 rfl) ?_
          refine gde h (fun g8 h => ?_)
          refine ldI (n := 12) C hw tM_25 (by decide) g8 d_M_looked_34 ?_
          refine lv_icmp_ne (tgt := 43) hx hb d_M_looked_35 (by decide) (fun b9 => ?_) (fun b9 => ?_)
          · replace h := ifn b9 h
            refine lv_iload_n hx hb d_M_looked_43 rfl (lv_at hl 2 rfl) ?_
            refine lv_istore_n (lv' := [(1, .int x2), (0, .ref (g.2.1 c0)), (2, .int x2)]) hx hb d_M_looked_44 rfl hl (by decide) rfl (fun ls hl => ?_)
            refine lv_iinc (v := (x2 + 1)) (lv' := [(2, .int (x2 + 1)), (1, .int x2), (0, .ref (g.2.1 c0))]) hx hb d_M_looked_45 hl (k := 2) rfl rfl (by decide) rfl (fun ls hl => ?_)
            refine lv_goto (tgt := 9) hx hb d_M_looked_48 (by decide) ?_
            exact ih x2 (x2 + 1) q6 H locs ls hw (lv_sub hl [2, 1, 0] rfl) ex h kx3 kr3
          · replace h := ifp b9 h
            refine lv_bipush (v := (-5)) hx hb d_M_looked_38 (by decide) ?_
            refine lv_goto (tgt := 44) hx hb d_M_looked_40 (by decide) ?_
            refine lv_istore_n (lv' := [(1, .int (-5)), (0, .ref (g.2.1 c0)), (2, .int x2)]) hx hb d_M_looked_44 rfl hl (by decide) rfl (fun ls hl => ?_)
            refine lv_iinc (v := (x2 + 1)) (lv' := [(2, .int (x2 + 1)), (1, .int (-5)), (0, .ref (g.2.1 c0))]) hx hb d_M_looked_45 hl (k := 2) rfl rfl (by decide) rfl (fun ls hl => ?_)
            refine lv_goto (tgt := 9) hx hb d_M_looked_48 (by decide) ?_
            exact ih (-5) (x2 + 1) q6 H locs ls hw (lv_sub hl [2, 1, 0] rfl) ex h kx3 kr3
  refine bnd h (fun x_10 k11 h => ?_)
  refine L3 c0 hc0 FU (-5) 0 q1 H locs ls hw (lv_sub hl [2, 1, 0] rfl) x_10 k11 (fun y15 e16 H locs ls hw hl => ?_) trivial
  subst e16
  refine lv_aload_n hx hb d_M_looked_51 rfl (lv_at hl 0 rfl) ?_
  refine bnd h (fun q13 k14 h => ?_)
  refine clV C hw (invV (As := []) C hw (c_M_putBack g c0 hc0 x_10.2 q13 k14 l) rfl wc_M_334 nd_M_putBack ⟨by decide, by decide⟩ (rc_M C hw hc0) rfl hl.1 rfl (Nat.le_of_ble_eq_true rfl) d_M_looked_52 ⟨Nat.le_refl _, Nat.le_refl _⟩) (fun H locs hw => ?_)
  refine lv_iload_n hx hb d_M_looked_55 rfl (lv_at hl 1 rfl) ?_
  exact retI C hw rfl (Option.some.inj h) d_M_looked_56
def f_M_isTape (c0 : Nat) (p1 : Int32) : Bool := (f_M_in c0 p1 0 5)
set_option maxHeartbeats 400000 in
set_option maxRecDepth 20000 in
theorem c_M_isTape (g : GX) (c0 : Nat) (hc0 : tg BM c0 20) (p1 : Int32) (σ : St) (l : Launch) : CT BM l y_M_isTape (v_M_isTape :: lwG) 2 [.ref (g.2.1 c0), .int p1] g σ (QZ BM g (f_M_isTape c0 p1, σ)) := by
  generalize h : f_M_isTape c0 p1 = q
  refine mkC (cc := b_M_isTape) (maxL := 2) (ret := (some .boolean)) rfl (by decide) rfl (Nat.le_of_ble_eq_true rfl) ?_
  intro p e s m args below meth c A ls C hl hw
  obtain ⟨hx, hb, hr, hml, hown, hts, hK, hE, hA, hlk⟩ := id C
  replace hl : lv_has ls 2 [(0, .ref (g.2.1 c0)), (1, .int p1)] := hl
  obtain ⟨H, hH⟩ : ∃ z, z = s.heap := ⟨_, rfl⟩
  rw [← hH] at hw ⊢
  obtain ⟨locs, hlo⟩ : ∃ z : List Loc, z = [] := ⟨_, rfl⟩
  rw [← hlo] at hw ⊢
  unfold f_M_isTape at h
  refine lv_aload_n hx hb d_M_isTape_0 rfl (lv_at hl 0 rfl) ?_
  refine lv_iload_n hx hb d_M_isTape_1 rfl (lv_at hl 1 rfl) ?_
  refine lv_iconst (v := 0) hx hb d_M_isTape_2 (by decide) ?_
  refine lv_iconst (v := 5) hx hb d_M_isTape_3 (by decide) ?_
  refine clZ0 (v := (f_M_in c0 p1 0 5)) C hw (invV (As := [.int p1, .int 0, .int 5]) C hw (c_M_in g c0 hc0 p1 0 5 σ l) rfl wc_M_218 nd_M_in ⟨by decide, by decide⟩ (rc_M C hw hc0) rfl hl.1 rfl (Nat.le_of_ble_eq_true rfl) d_M_isTape_4 ⟨Nat.le_refl _, Nat.le_refl _⟩) (fun H locs hw => ?_)
  exact retZ (b := (f_M_in c0 p1 0 5)) C hw rfl rfl (congrArg (fun z => (z, σ)) h) d_M_isTape_7
def f_M_judge_l34 : Nat → Nat → Int32 → Int32 → Int32 → St → Option ((Unit) ⊕ (Int32))
  | 0, _, _, _, _, _ => none
  | n + 1, c0, x1, x2, x3, σ => (if (vI σ c0 0) ≤ x3 then some (Sum.inl ()) else (if ok x1 6 = true then (if (vJ σ 37 (nx x1)) < 0 then some (Sum.inr (100 + x3)) else (if x2 < 0 then some (Sum.inr (100 + x3)) else (if ok x1 6 = true then (if x2 ≤ (((vJ σ 38 (nx x1)) - x3) - 1) then (if ok (((60 * x1) + x2) + x3) 360 = true then (if ok x3 6 = true then (if (lg_cmp (vL σ 39 (nx (((60 * x1) + x2) + x3))) ((vJ σ 5 (nx x3))).toInt64) = 0 then (f_M_judge_l34 n c0 x1 x2 (x3 + 1) σ) else some (Sum.inr x3)) else none) else none) else some (Sum.inr (100 + x3))) else none))) else none))
def f_M_judge (c0 : Nat) (p1 : Int32) (p2 : Int32) (σ : St) : Option (Int32) := (if (f_M_isTape c0 p1) = false then some (-1) else (if ok p1 6 = true then (if (vJ σ 37 (nx p1)) < 0 then ((f_M_judge_l34 FU c0 p1 p2 0 σ).bind fun x_14 => Sum.elim (fun y16 => some (-5)) (fun z => some z) x_14) else (if ok p1 6 = true then (if (vJ σ 37 (nx p1)) = 2 then ((f_M_judge_l34 FU c0 p1 p2 0 σ).bind fun x_30 => Sum.elim (fun y32 => some (-5)) (fun z => some z) x_30) else some (-12)) else none)) else none))
set_option maxHeartbeats 400000 in
set_option maxRecDepth 20000 in
theorem c_M_judge (g : GX) (c0 : Nat) (hc0 : tg BM c0 20) (p1 : Int32) (p2 : Int32) (σ : St) (q : Int32) (h : f_M_judge c0 p1 p2 σ = some q) (l : Launch) : CT BM l y_M_judge (v_M_judge :: lwG) 3 [.ref (g.2.1 c0), .int p1, .int p2] g σ (QI BM g (q, σ)) := by
  refine mkC (cc := b_M_judge) (maxL := 4) (ret := (some .int)) rfl (by decide) rfl (Nat.le_of_ble_eq_true rfl) ?_
  intro p e s m args below meth c A ls C hl hw
  obtain ⟨hx, hb, hr, hml, hown, hts, hK, hE, hA, hlk⟩ := id C
  replace hl : lv_has ls 4 [(0, .ref (g.2.1 c0)), (1, .int p1), (2, .int p2)] := hl
  obtain ⟨H, hH⟩ : ∃ z, z = s.heap := ⟨_, rfl⟩
  rw [← hH] at hw ⊢
  obtain ⟨locs, hlo⟩ : ∃ z : List Loc, z = [] := ⟨_, rfl⟩
  rw [← hlo] at hw ⊢
  unfold f_M_judge at h
  refine lv_aload_n hx hb d_M_judge_0 rfl (lv_at hl 0 rfl) ?_
  refine lv_iload_n hx hb d_M_judge_1 rfl (lv_at hl 1 rfl) ?_
  refine clZ0 (v := (f_M_isTape c0 p1)) C hw (invV (As := [.int p1]) C hw (c_M_isTape g c0 hc0 p1 σ l) rfl wc_M_358 nd_M_isTape ⟨by decide, by decide⟩ (rc_M C hw hc0) rfl hl.1 rfl (Nat.le_of_ble_eq_true rfl) d_M_judge_2 ⟨Nat.le_refl _, Nat.le_refl _⟩) (fun H locs hw => ?_)
  refine ifnB (tgt := 10) C d_M_judge_5 (by decide) (fun b1 => ?_) (fun b1 => ?_)
  · replace h := ifn b1 h
    refine lv_aload_n hx hb d_M_judge_10 rfl (lv_at hl 0 rfl) ?_
    refine fg_M_205 C hw hc0 d_M_judge_11 ?_
    refine lv_iload_n hx hb d_M_judge_14 rfl (lv_at hl 1 rfl) ?_
    refine gde h (fun g2 h => ?_)
    refine ldI (n := 6) C hw tM_37 (by decide) g2 d_M_judge_15 ?_
    refine lv_if_lt (tgt := 32) hx hb d_M_judge_16 (by decide) (fun b3 => ?_) (fun b3 => ?_)
    · replace h := ifp b3 h
      refine lv_iconst (v := 0) hx hb d_M_judge_32 (by decide) ?_
      refine lv_istore_n (lv' := [(3, .int 0), (0, .ref (g.2.1 c0)), (1, .int p1), (2, .int p2)]) hx hb d_M_judge_33 rfl hl (by decide) rfl (fun ls hl => ?_)
      have L4 : ∀ (c0 : Nat) (hc0 : tg BM c0 20) (x1 : Int32) (x2 : Int32) (n : Nat) (x3 : Int32) (σ : St) (H : Heap) (locs : List Loc) (ls : Array Slot), HW BM g A s σ H locs → lv_has ls 4 [(0, .ref (g.2.1 c0)), (1, .int x1), (2, .int x2), (3, .int x3)] → ∀ (ex : (Unit) ⊕ (Int32)), f_M_judge_l34 n c0 x1 x2 x3 σ = some ex → (∀ (y : Unit), ex = Sum.inl y → ∀ (H : Heap) (locs : List Loc) (ls : Array Slot), HW BM g A s σ H locs → lv_has ls 4 [] → W p l e (rmL 3) s m args below meth c H locs 0 0 (MQ below (QI BM g (q, σ) A) args s 0 0 A) (F0 m 106 ls [])) → (∀ (z : Int32), ex = Sum.inr z → z = q) → W p l e (rmL 3) s m args below meth c H locs 0 0 (MQ below (QI BM g (q, σ) A) args s 0 0 A) (F0 m 34 ls []) := by
        intro c0 hc0 x1 x2 n
        induction n with
        | zero =>
          intro x3 σ H locs ls hw hl ex h kx4 kr4
          cases h
        | succ n ih =>
          intro x3 σ H locs ls hw hl ex h kx4 kr4
          rw [f_M_judge_l34] at h
          refine lv_iload_n hx hb d_M_judge_34 rfl (lv_at hl 3 rfl) ?_
          refine lv_aload_n hx hb d_M_judge_35 rfl (lv_at hl 0 rfl) ?_
          refine fg_M_7 C hw hc0 d_M_judge_36 ?_
          refine lv_icmp_ge (tgt := 106) hx hb d_M_judge_39 (by decide) (fun b5 => ?_) (fun b5 => ?_)
          · replace h := ifp b5 h
            exact kx4 _ (Option.some.inj h).symm H locs ls hw (lv_sub hl [] rfl)
          · replace h := ifn b5 h
            refine lv_aload_n hx hb d_M_judge_42 rfl (lv_at hl 0 rfl) ?_
            refine fg_M_205 C hw hc0 d_M_judge_43 ?_
            refine lv_iload_n hx hb d_M_judge_46 rfl (lv_at hl 1 rfl) ?_
            refine gde h (fun g6 h => ?_)
            refine ldI (n := 6) C hw tM_37 (by decide) g6 d_M_judge_47 ?_
            refine lv_if_lt (tgt := 69) hx hb d_M_judge_48 (by decide) (fun b7 => ?_) (fun b7 => ?_)
            · replace h := ifp b7 h
              refine lv_bipush (v := 100) hx hb d_M_judge_69 (by decide) ?_
              refine lv_iload_n hx hb d_M_judge_71 rfl (lv_at hl 3 rfl) ?_
              refine lv_iadd hx hb d_M_judge_72 ?_
              exact retI C hw rfl (congrArg (fun z => (z, σ)) (kr4 _ (Option.some.inj h).symm)) d_M_judge_73
            · replace h := ifn b7 h
              refine lv_iload_n hx hb d_M_judge_51 rfl (lv_at hl 2 rfl) ?_
              refine lv_if_lt (tgt := 69) hx hb d_M_judge_52 (by decide) (fun b8 => ?_) (fun b8 => ?_)
              · replace h := ifp b8 h
                refine lv_bipush (v := 100) hx hb d_M_judge_69 (by decide) ?_
                refine lv_iload_n hx hb d_M_judge_71 rfl (lv_at hl 3 rfl) ?_
                refine lv_iadd hx hb d_M_judge_72 ?_
                exact retI C hw rfl (congrArg (fun z => (z, σ)) (kr4 _ (Option.some.inj h).symm)) d_M_judge_73
              · replace h := ifn b8 h
                refine lv_iload_n hx hb d_M_judge_55 rfl (lv_at hl 2 rfl) ?_
                refine lv_aload_n hx hb d_M_judge_56 rfl (lv_at hl 0 rfl) ?_
                refine fg_M_208 C hw hc0 d_M_judge_57 ?_
                refine lv_iload_n hx hb d_M_judge_60 rfl (lv_at hl 1 rfl) ?_
                refine gde h (fun g9 h => ?_)
                refine ldI (n := 6) C hw tM_38 (by decide) g9 d_M_judge_61 ?_
                refine lv_iload_n hx hb d_M_judge_62 rfl (lv_at hl 3 rfl) ?_
                refine lv_isub hx hb d_M_judge_63 ?_
                refine lv_iconst (v := 1) hx hb d_M_judge_64 (by decide) ?_
                refine lv_isub hx hb d_M_judge_65 ?_
                refine lv_icmp_le (tgt := 74) hx hb d_M_judge_66 (by decide) (fun b10 => ?_) (fun b10 => ?_)
                · replace h := ifp b10 h
                  refine lv_aload_n hx hb d_M_judge_74 rfl (lv_at hl 0 rfl) ?_
                  refine fg_M_211 C hw hc0 d_M_judge_75 ?_
                  refine lv_bipush (v := 60) hx hb d_M_judge_78 (by decide) ?_
                  refine lv_iload_n hx hb d_M_judge_80 rfl (lv_at hl 1 rfl) ?_
                  refine lv_imul hx hb d_M_judge_81 ?_
                  refine lv_iload_n hx hb d_M_judge_82 rfl (lv_at hl 2 rfl) ?_
                  refine lv_iadd hx hb d_M_judge_83 ?_
                  refine lv_iload_n hx hb d_M_judge_84 rfl (lv_at hl 3 rfl) ?_
                  refine lv_iadd hx hb d_M_judge_85 ?_
                  refine gde h (fun g11 h => ?_)
                  refine ldL (n := 360) C hw tM_39 (by decide) g11 d_M_judge_86 ?_
                  refine lv_aload_n hx hb d_M_judge_87 rfl (lv_at hl 0 rfl) ?_
                  refine fg_M_32 C hw hc0 d_M_judge_88 ?_
                  refine lv_iload_n hx hb d_M_judge_91 rfl (lv_at hl 3 rfl) ?_
                  refine gde h (fun g12 h => ?_)
                  refine ldI (n := 6) C hw tM_5 (by decide) g12 d_M_judge_92 ?_
                  refine lv_i2l hx hb d_M_judge_93 rfl ?_
                  refine W.lcmp hx hb d_M_judge_94 ?_
                  refine lv_if_eq (tgt := 100) hx hb d_M_judge_95 (by decide) (fun b13 => ?_) (fun b13 => ?_)
                  · replace h := ifp b13 h
                    refine lv_iinc (v := (x3 + 1)) (lv' := [(3, .int (x3 + 1)), (0, .ref (g.2.1 c0)), (1, .int x1), (2, .int x2)]) hx hb d_M_judge_100 hl (k := 3) rfl rfl (by decide) rfl (fun ls hl => ?_)
                    refine lv_goto (tgt := 34) hx hb d_M_judge_103 (by decide) ?_
                    exact ih (x3 + 1) σ H locs ls hw (lv_sub hl [1, 2, 3, 0] rfl) ex h kx4 kr4
                  · replace h := ifn b13 h
                    refine lv_iload_n hx hb d_M_judge_98 rfl (lv_at hl 3 rfl) ?_
                    exact retI C hw rfl (congrArg (fun z => (z, σ)) (kr4 _ (Option.some.inj h).symm)) d_M_judge_99
                · replace h := ifn b10 h
                  refine lv_bipush (v := 100) hx hb d_M_judge_69 (by decide) ?_
                  refine lv_iload_n hx hb d_M_judge_71 rfl (lv_at hl 3 rfl) ?_
                  refine lv_iadd hx hb d_M_judge_72 ?_
                  exact retI C hw rfl (congrArg (fun z => (z, σ)) (kr4 _ (Option.some.inj h).symm)) d_M_judge_73
      refine bnd h (fun x_14 k15 h => ?_)
      refine L4 c0 hc0 p1 p2 FU 0 σ H locs ls hw (lv_sub hl [1, 2, 3, 0] rfl) x_14 k15 (fun y16 e17 H locs ls hw hl => ?_) (fun z e17 => ?_)
      · rw [e17] at h
        replace h := sel h
        refine lv_bipush (v := (-5)) hx hb d_M_judge_106 (by decide) ?_
        exact retI C hw rfl (congrArg (fun z => (z, σ)) (Option.some.inj h)) d_M_judge_108
      · rw [e17] at h
        replace h := ser h
        exact Option.some.inj h
    · replace h := ifn b3 h
      refine lv_aload_n hx hb d_M_judge_19 rfl (lv_at hl 0 rfl) ?_
      refine fg_M_205 C hw hc0 d_M_judge_20 ?_
      refine lv_iload_n hx hb d_M_judge_23 rfl (lv_at hl 1 rfl) ?_
      refine gde h (fun g18 h => ?_)
      refine ldI (n := 6) C hw tM_37 (by decide) g18 d_M_judge_24 ?_
      refine lv_iconst (v := 2) hx hb d_M_judge_25 (by decide) ?_
      refine lv_icmp_eq (tgt := 32) hx hb d_M_judge_26 (by decide) (fun b19 => ?_) (fun b19 => ?_)
      · replace h := ifp b19 h
        refine lv_iconst (v := 0) hx hb d_M_judge_32 (by decide) ?_
        refine lv_istore_n (lv' := [(3, .int 0), (0, .ref (g.2.1 c0)), (1, .int p1), (2, .int p2)]) hx hb d_M_judge_33 rfl hl (by decide) rfl (fun ls hl => ?_)
        have L20 : ∀ (c0 : Nat) (hc0 : tg BM c0 20) (x1 : Int32) (x2 : Int32) (n : Nat) (x3 : Int32) (σ : St) (H : Heap) (locs : List Loc) (ls : Array Slot), HW BM g A s σ H locs → lv_has ls 4 [(0, .ref (g.2.1 c0)), (1, .int x1), (2, .int x2), (3, .int x3)] → ∀ (ex : (Unit) ⊕ (Int32)), f_M_judge_l34 n c0 x1 x2 x3 σ = some ex → (∀ (y : Unit), ex = Sum.inl y → ∀ (H : Heap) (locs : List Loc) (ls : Array Slot), HW BM g A s σ H locs → lv_has ls 4 [] → W p l e (rmL 3) s m args below meth c H locs 0 0 (MQ below (QI BM g (q, σ) A) args s 0 0 A) (F0 m 106 ls [])) → (∀ (z : Int32), ex = Sum.inr z → z = q) → W p l e (rmL 3) s m args below meth c H locs 0 0 (MQ below (QI BM g (q, σ) A) args s 0 0 A) (F0 m 34 ls []) := by
          intro c0 hc0 x1 x2 n
          induction n with
          | zero =>
            intro x3 σ H locs ls hw hl ex h kx20 kr20
            cases h
          | succ n ih =>
            intro x3 σ H locs ls hw hl ex h kx20 kr20
            rw [f_M_judge_l34] at h
            refine lv_iload_n hx hb d_M_judge_34 rfl (lv_at hl 3 rfl) ?_
            refine lv_aload_n hx hb d_M_judge_35 rfl (lv_at hl 0 rfl) ?_
            refine fg_M_7 C hw hc0 d_M_judge_36 ?_
            refine lv_icmp_ge (tgt := 106) hx hb d_M_judge_39 (by decide) (fun b21 => ?_) (fun b21 => ?_)
            · replace h := ifp b21 h
              exact kx20 _ (Option.some.inj h).symm H locs ls hw (lv_sub hl [] rfl)
            · replace h := ifn b21 h
              refine lv_aload_n hx hb d_M_judge_42 rfl (lv_at hl 0 rfl) ?_
              refine fg_M_205 C hw hc0 d_M_judge_43 ?_
              refine lv_iload_n hx hb d_M_judge_46 rfl (lv_at hl 1 rfl) ?_
              refine gde h (fun g22 h => ?_)
              refine ldI (n := 6) C hw tM_37 (by decide) g22 d_M_judge_47 ?_
              refine lv_if_lt (tgt := 69) hx hb d_M_judge_48 (by decide) (fun b23 => ?_) (fun b23 => ?_)
              · replace h := ifp b23 h
                refine lv_bipush (v := 100) hx hb d_M_judge_69 (by decide) ?_
                refine lv_iload_n hx hb d_M_judge_71 rfl (lv_at hl 3 rfl) ?_
                refine lv_iadd hx hb d_M_judge_72 ?_
                exact retI C hw rfl (congrArg (fun z => (z, σ)) (kr20 _ (Option.some.inj h).symm)) d_M_judge_73
              · replace h := ifn b23 h
                refine lv_iload_n hx hb d_M_judge_51 rfl (lv_at hl 2 rfl) ?_
                refine lv_if_lt (tgt := 69) hx hb d_M_judge_52 (by decide) (fun b24 => ?_) (fun b24 => ?_)
                · replace h := ifp b24 h
                  refine lv_bipush (v := 100) hx hb d_M_judge_69 (by decide) ?_
                  refine lv_iload_n hx hb d_M_judge_71 rfl (lv_at hl 3 rfl) ?_
                  refine lv_iadd hx hb d_M_judge_72 ?_
                  exact retI C hw rfl (congrArg (fun z => (z, σ)) (kr20 _ (Option.some.inj h).symm)) d_M_judge_73
                · replace h := ifn b24 h
                  refine lv_iload_n hx hb d_M_judge_55 rfl (lv_at hl 2 rfl) ?_
                  refine lv_aload_n hx hb d_M_judge_56 rfl (lv_at hl 0 rfl) ?_
                  refine fg_M_208 C hw hc0 d_M_judge_57 ?_
                  refine lv_iload_n hx hb d_M_judge_60 rfl (lv_at hl 1 rfl) ?_
                  refine gde h (fun g25 h => ?_)
                  refine ldI (n := 6) C hw tM_38 (by decide) g25 d_M_judge_61 ?_
                  refine lv_iload_n hx hb d_M_judge_62 rfl (lv_at hl 3 rfl) ?_
                  refine lv_isub hx hb d_M_judge_63 ?_
                  refine lv_iconst (v := 1) hx hb d_M_judge_64 (by decide) ?_
                  refine lv_isub hx hb d_M_judge_65 ?_
                  refine lv_icmp_le (tgt := 74) hx hb d_M_judge_66 (by decide) (fun b26 => ?_) (fun b26 => ?_)
                  · replace h := ifp b26 h
                    refine lv_aload_n hx hb d_M_judge_74 rfl (lv_at hl 0 rfl) ?_
                    refine fg_M_211 C hw hc0 d_M_judge_75 ?_
                    refine lv_bipush (v := 60) hx hb d_M_judge_78 (by decide) ?_
                    refine lv_iload_n hx hb d_M_judge_80 rfl (lv_at hl 1 rfl) ?_
                    refine lv_imul hx hb d_M_judge_81 ?_
                    refine lv_iload_n hx hb d_M_judge_82 rfl (lv_at hl 2 rfl) ?_
                    refine lv_iadd hx hb d_M_judge_83 ?_
                    refine lv_iload_n hx hb d_M_judge_84 rfl (lv_at hl 3 rfl) ?_
                    refine lv_iadd hx hb d_M_judge_85 ?_
                    refine gde h (fun g27 h => ?_)
                    refine ldL (n := 360) C hw tM_39 (by decide) g27 d_M_judge_86 ?_
                    refine lv_aload_n hx hb d_M_judge_87 rfl (lv_at hl 0 rfl) ?_
                    refine fg_M_32 C hw hc0 d_M_judge_88 ?_
                    refine lv_iload_n hx hb d_M_judge_91 rfl (lv_at hl 3 rfl) ?_
                    refine gde h (fun g28 h => ?_)
                    refine ldI (n := 6) C hw tM_5 (by decide) g28 d_M_judge_92 ?_
                    refine lv_i2l hx hb d_M_judge_93 rfl ?_
                    refine W.lcmp hx hb d_M_judge_94 ?_
                    refine lv_if_eq (tgt := 100) hx hb d_M_judge_95 (by decide) (fun b29 => ?_) (fun b29 => ?_)
                    · replace h := ifp b29 h
                      refine lv_iinc (v := (x3 + 1)) (lv' := [(3, .int (x3 + 1)), (0, .ref (g.2.1 c0)), (1, .int x1), (2, .int x2)]) hx hb d_M_judge_100 hl (k := 3) rfl rfl (by decide) rfl (fun ls hl => ?_)
                      refine lv_goto (tgt := 34) hx hb d_M_judge_103 (by decide) ?_
                      exact ih (x3 + 1) σ H locs ls hw (lv_sub hl [1, 2, 3, 0] rfl) ex h kx20 kr20
                    · replace h := ifn b29 h
                      refine lv_iload_n hx hb d_M_judge_98 rfl (lv_at hl 3 rfl) ?_
                      exact retI C hw rfl (congrArg (fun z => (z, σ)) (kr20 _ (Option.some.inj h).symm)) d_M_judge_99
                  · replace h := ifn b26 h
                    refine lv_bipush (v := 100) hx hb d_M_judge_69 (by decide) ?_
                    refine lv_iload_n hx hb d_M_judge_71 rfl (lv_at hl 3 rfl) ?_
                    refine lv_iadd hx hb d_M_judge_72 ?_
                    exact retI C hw rfl (congrArg (fun z => (z, σ)) (kr20 _ (Option.some.inj h).symm)) d_M_judge_73
        refine bnd h (fun x_30 k31 h => ?_)
        refine L20 c0 hc0 p1 p2 FU 0 σ H locs ls hw (lv_sub hl [1, 2, 3, 0] rfl) x_30 k31 (fun y32 e33 H locs ls hw hl => ?_) (fun z e33 => ?_)
        · rw [e33] at h
          replace h := sel h
          refine lv_bipush (v := (-5)) hx hb d_M_judge_106 (by decide) ?_
          exact retI C hw rfl (congrArg (fun z => (z, σ)) (Option.some.inj h)) d_M_judge_108
        · rw [e33] at h
          replace h := ser h
          exact Option.some.inj h
      · replace h := ifn b19 h
        refine lv_bipush (v := (-12)) hx hb d_M_judge_29 (by decide) ?_
        exact retI C hw rfl (congrArg (fun z => (z, σ)) (Option.some.inj h)) d_M_judge_31
  · replace h := ifp b1 h
    refine lv_iconst (v := (-1)) hx hb d_M_judge_8 (by decide) ?_
    exact retI C hw rfl (congrArg (fun z => (z, σ)) (Option.some.inj h)) d_M_judge_9
