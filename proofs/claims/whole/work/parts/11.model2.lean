/-! ===== read off the bytecode by a program: each method as a function, and its walk ===== -/
def f_M_holds_l10 : Nat → Nat → Int32 → Int32 → Int32 → Int32 → St → Option (St)
  | 0, _, _, _, _, _, _ => none
  | n + 1, c0, x1, x2, x3, x4, σ => (if ok x1 60 = true then (if (vJ σ 13 (nx x1)) ≤ x4 then some σ else (if ok x4 600 = true then (if (vJ σ 14 (nx x4)) = (-33) then (if ok (x3 - 1) 100 = true then (if (vJ σ 17 (nx (x3 - 1))) = 0 then (if ok (x3 - 1) 100 = true then (st (sJ σ 17 (upd (vJ σ 17) (nx (x3 - 1)) (vp_nar .boolean 1))) fun s66 => (f_M_holds_l10 n c0 x1 x2 x3 (x4 + 1) s66)) else none) else (if ok (x3 - 1) 100 = true then (st (sJ σ 17 (upd (vJ σ 17) (nx (x3 - 1)) (vp_nar .boolean 0))) fun s63 => (f_M_holds_l10 n c0 x1 x2 x3 (x4 + 1) s63)) else none)) else none) else (if 0 ≤ (vJ σ 14 (nx x4)) then ((f_M_factOf c0 ((vJ σ 14 (nx x4)) / 1000) x2 σ).bind fun q8 => (if (((vJ σ 14 (nx x4)) / 100) % 10) = 0 then (if ((vJ σ 14 (nx x4)) % 100) ≤ q8 then (if ok x3 100 = true then (st (sJ σ 17 (upd (vJ σ 17) (nx x3) (vp_nar .boolean 0))) fun s28 => (f_M_holds_l10 n c0 x1 x2 (x3 + 1) (x4 + 1) s28)) else none) else (if ok x3 100 = true then (st (sJ σ 17 (upd (vJ σ 17) (nx x3) (vp_nar .boolean 1))) fun s31 => (f_M_holds_l10 n c0 x1 x2 (x3 + 1) (x4 + 1) s31)) else none)) else (if (((vJ σ 14 (nx x4)) / 100) % 10) = 1 then (if q8 = ((vJ σ 14 (nx x4)) % 100) then (if ok x3 100 = true then (st (sJ σ 17 (upd (vJ σ 17) (nx x3) (vp_nar .boolean 1))) fun s24 => (f_M_holds_l10 n c0 x1 x2 (x3 + 1) (x4 + 1) s24)) else none) else (if ok x3 100 = true then (st (sJ σ 17 (upd (vJ σ 17) (nx x3) (vp_nar .boolean 0))) fun s21 => (f_M_holds_l10 n c0 x1 x2 (x3 + 1) (x4 + 1) s21)) else none)) else (if q8 ≤ ((vJ σ 14 (nx x4)) % 100) then (if ok x3 100 = true then (st (sJ σ 17 (upd (vJ σ 17) (nx x3) (vp_nar .boolean 0))) fun s14 => (f_M_holds_l10 n c0 x1 x2 (x3 + 1) (x4 + 1) s14)) else none) else (if ok x3 100 = true then (st (sJ σ 17 (upd (vJ σ 17) (nx x3) (vp_nar .boolean 1))) fun s17 => (f_M_holds_l10 n c0 x1 x2 (x3 + 1) (x4 + 1) s17)) else none))))) else (if (vJ σ 14 (nx x4)) = (-38) then (if ok ((x3 + (-1)) - 1) 100 = true then (if (vJ σ 17 (nx ((x3 + (-1)) - 1))) = 0 then (if ok ((x3 + (-1)) - 1) 100 = true then (st (sJ σ 17 (upd (vJ σ 17) (nx ((x3 + (-1)) - 1)) (vp_nar .boolean 0))) fun s50 => (f_M_holds_l10 n c0 x1 x2 (x3 + (-1)) (x4 + 1) s50)) else none) else (if ok (x3 + (-1)) 100 = true then (if (vJ σ 17 (nx (x3 + (-1)))) = 0 then (if ok ((x3 + (-1)) - 1) 100 = true then (st (sJ σ 17 (upd (vJ σ 17) (nx ((x3 + (-1)) - 1)) (vp_nar .boolean 0))) fun s55 => (f_M_holds_l10 n c0 x1 x2 (x3 + (-1)) (x4 + 1) s55)) else none) else (if ok ((x3 + (-1)) - 1) 100 = true then (st (sJ σ 17 (upd (vJ σ 17) (nx ((x3 + (-1)) - 1)) (vp_nar .boolean 1))) fun s58 => (f_M_holds_l10 n c0 x1 x2 (x3 + (-1)) (x4 + 1) s58)) else none)) else none)) else none) else (if ok ((x3 + (-1)) - 1) 100 = true then (if (vJ σ 17 (nx ((x3 + (-1)) - 1))) = 0 then (if ok (x3 + (-1)) 100 = true then (if (vJ σ 17 (nx (x3 + (-1)))) = 0 then (if ok ((x3 + (-1)) - 1) 100 = true then (st (sJ σ 17 (upd (vJ σ 17) (nx ((x3 + (-1)) - 1)) (vp_nar .boolean 0))) fun s42 => (f_M_holds_l10 n c0 x1 x2 (x3 + (-1)) (x4 + 1) s42)) else none) else (if ok ((x3 + (-1)) - 1) 100 = true then (st (sJ σ 17 (upd (vJ σ 17) (nx ((x3 + (-1)) - 1)) (vp_nar .boolean 1))) fun s45 => (f_M_holds_l10 n c0 x1 x2 (x3 + (-1)) (x4 + 1) s45)) else none)) else none) else (if ok ((x3 + (-1)) - 1) 100 = true then (st (sJ σ 17 (upd (vJ σ 17) (nx ((x3 + (-1)) - 1)) (vp_nar .boolean 1))) fun s37 => (f_M_holds_l10 n c0 x1 x2 (x3 + (-1)) (x4 + 1) s37)) else none)) else none)))) else none)) else none)
def f_M_holds (c0 : Nat) (p1 : Int32) (p2 : Int32) (σ : St) : Option (Bool × St) := (if ok p1 60 = true then ((f_M_holds_l10 FU c0 p1 p2 0 (vJ σ 12 (nx p1)) σ).bind fun x_68 => (if ok 0 100 = true then (if bz (vJ x_68 17 (nx 0)) = true then some ((decide ((vJ x_68 17 (nx 0)) = 1)), x_68) else none) else none)) else none)
set_option maxHeartbeats 400000 in
set_option maxRecDepth 20000 in
theorem c_M_holds (g : GX) (c0 : Nat) (hc0 : tg BM c0 20) (p1 : Int32) (p2 : Int32) (σ : St) (q : Bool × St) (h : f_M_holds c0 p1 p2 σ = some q) (l : Launch) : CT BM l y_M_holds (v_M_holds :: lwG) 2 [.ref (g.2.1 c0), .int p1, .int p2] g σ (QZ BM g q) := by
  refine mkC (cc := b_M_holds) (maxL := 8) (ret := (some .boolean)) rfl (by decide) rfl (Nat.le_of_ble_eq_true rfl) ?_
  intro p e s m args below meth c A ls C hl hw
  obtain ⟨hx, hb, hr, hml, hown, hts, hK, hE, hA, hlk⟩ := id C
  replace hl : lv_has ls 8 [(0, .ref (g.2.1 c0)), (1, .int p1), (2, .int p2)] := hl
  obtain ⟨H, hH⟩ : ∃ z, z = s.heap := ⟨_, rfl⟩
  rw [← hH] at hw ⊢
  obtain ⟨locs, hlo⟩ : ∃ z : List Loc, z = [] := ⟨_, rfl⟩
  rw [← hlo] at hw ⊢
  unfold f_M_holds at h
  refine lv_iconst (v := 0) hx hb d_M_holds_0 (by decide) ?_
  refine lv_istore_n (lv' := [(3, .int 0), (0, .ref (g.2.1 c0)), (1, .int p1), (2, .int p2)]) hx hb d_M_holds_1 rfl hl (by decide) rfl (fun ls hl => ?_)
  refine lv_aload_n hx hb d_M_holds_2 rfl (lv_at hl 1 rfl) ?_
  refine fg_M_68 C hw hc0 d_M_holds_3 ?_
  refine lv_iload_n hx hb d_M_holds_6 rfl (lv_at hl 2 rfl) ?_
  refine gde h (fun g1 h => ?_)
  refine ldI (n := 60) C hw tM_12 (by decide) g1 d_M_holds_7 ?_
  refine lv_istore (lv' := [(4, .int (vJ σ 12 (nx p1))), (3, .int 0), (0, .ref (g.2.1 c0)), (1, .int p1), (2, .int p2)]) hx hb d_M_holds_8 hl (by decide) rfl (fun ls hl => ?_)
  have L2 : ∀ (c0 : Nat) (hc0 : tg BM c0 20) (x1 : Int32) (x2 : Int32) (n : Nat) (x3 : Int32) (x4 : Int32) (σ : St) (H : Heap) (locs : List Loc) (ls : Array Slot), HW BM g A s σ H locs → lv_has ls 8 [(0, .ref (g.2.1 c0)), (1, .int x1), (2, .int x2), (3, .int x3), (4, .int x4)] → ∀ (ex : St), f_M_holds_l10 n c0 x1 x2 x3 x4 σ = some ex → (∀ (y : St), ex = y → ∀ (H : Heap) (locs : List Loc) (ls : Array Slot), HW BM g A s y H locs → lv_has ls 8 [(0, .ref (g.2.1 c0))] → W p l e (rmL 2) s m args below meth c H locs 0 0 (MQ below (QZ BM g q A) args s 0 0 A) (F0 m 243 ls [])) → (True) → W p l e (rmL 2) s m args below meth c H locs 0 0 (MQ below (QZ BM g q A) args s 0 0 A) (F0 m 10 ls []) := by
    intro c0 hc0 x1 x2 n
    induction n with
    | zero =>
      intro x3 x4 σ H locs ls hw hl ex h kx2 kr2
      cases h
    | succ n ih =>
      intro x3 x4 σ H locs ls hw hl ex h kx2 kr2
      rw [f_M_holds_l10] at h
      refine lv_iload hx hb d_M_holds_10 (lv_at hl 4 rfl) ?_
      refine lv_aload_n hx hb d_M_holds_12 rfl (lv_at hl 0 rfl) ?_
      refine fg_M_71 C hw hc0 d_M_holds_13 ?_
      refine lv_iload_n hx hb d_M_holds_16 rfl (lv_at hl 1 rfl) ?_
      refine gde h (fun g3 h => ?_)
      refine ldI (n := 60) C hw tM_13 (by decide) g3 d_M_holds_17 ?_
      refine lv_icmp_ge (tgt := 243) hx hb d_M_holds_18 (by decide) (fun b4 => ?_) (fun b4 => ?_)
      · replace h := ifp b4 h
        exact kx2 _ (Option.some.inj h).symm H locs ls hw (lv_sub hl [0] rfl)
      · replace h := ifn b4 h
        refine lv_aload_n hx hb d_M_holds_21 rfl (lv_at hl 0 rfl) ?_
        refine fg_M_74 C hw hc0 d_M_holds_22 ?_
        refine lv_iload hx hb d_M_holds_25 (lv_at hl 4 rfl) ?_
        refine gde h (fun g5 h => ?_)
        refine ldI (n := 600) C hw tM_14 (by decide) g5 d_M_holds_27 ?_
        refine lv_istore (lv' := [(5, .int (vJ σ 14 (nx x4))), (0, .ref (g.2.1 c0)), (1, .int x1), (2, .int x2), (3, .int x3), (4, .int x4)]) hx hb d_M_holds_28 hl (by decide) rfl (fun ls hl => ?_)
        refine lv_iload hx hb d_M_holds_30 (lv_at hl 0 rfl) ?_
        refine lv_bipush (v := (-33)) hx hb d_M_holds_32 (by decide) ?_
        refine lv_icmp_ne (tgt := 64) hx hb d_M_holds_34 (by decide) (fun b6 => ?_) (fun b6 => ?_)
        · replace h := ifn b6 h
          refine lv_iload hx hb d_M_holds_64 (lv_at hl 0 rfl) ?_
          refine lv_if_ge (tgt := 143) hx hb d_M_holds_66 (by decide) (fun b7 => ?_) (fun b7 => ?_)
          · replace h := ifp b7 h
            refine lv_aload_n hx hb d_M_holds_143 rfl (lv_at hl 1 rfl) ?_
            refine lv_iload hx hb d_M_holds_144 (lv_at hl 0 rfl) ?_
            refine lv_sipush (v := 1000) hx hb d_M_holds_146 (by decide) ?_
            refine lv_idiv hx hb d_M_holds_149 (by decide) ?_
            refine lv_iload_n hx hb d_M_holds_150 rfl (lv_at hl 3 rfl) ?_
            refine bnd h (fun q8 k9 h => ?_)
            refine clI0 (v := q8) C hw (invV (As := [.int ((vJ σ 14 (nx x4)) / 1000), .int x2]) C hw (c_M_factOf g c0 hc0 ((vJ σ 14 (nx x4)) / 1000) x2 σ q8 k9 l) rfl wc_M_283 nd_M_factOf ⟨by decide, by decide⟩ (rc_M C hw hc0) rfl hl.1 rfl (Nat.le_of_ble_eq_true rfl) d_M_holds_151 ⟨Nat.le_refl _, Nat.le_refl _⟩) (fun H locs hw => ?_)
            refine lv_istore (lv' := [(6, .int q8), (5, .int (vJ σ 14 (nx x4))), (0, .ref (g.2.1 c0)), (1, .int x1), (2, .int x2), (3, .int x3), (4, .int x4)]) hx hb d_M_holds_154 hl (by decide) rfl (fun ls hl => ?_)
            refine lv_iload hx hb d_M_holds_156 (lv_at hl 1 rfl) ?_
            refine lv_bipush (v := 100) hx hb d_M_holds_158 (by decide) ?_
            refine lv_idiv hx hb d_M_holds_160 (by decide) ?_
            refine lv_bipush (v := 10) hx hb d_M_holds_161 (by decide) ?_
            refine remR C (by decide) d_M_holds_163 ?_
            refine lv_istore (lv' := [(7, .int (((vJ σ 14 (nx x4)) / 100) % 10)), (6, .int q8), (5, .int (vJ σ 14 (nx x4))), (0, .ref (g.2.1 c0)), (1, .int x1), (2, .int x2), (3, .int x3), (4, .int x4)]) hx hb d_M_holds_164 hl (by decide) rfl (fun ls hl => ?_)
            refine lv_aload_n hx hb d_M_holds_166 rfl (lv_at hl 3 rfl) ?_
            refine fg_M_98 C hw hc0 d_M_holds_167 ?_
            refine lv_iload_n hx hb d_M_holds_170 rfl (lv_at hl 6 rfl) ?_
            refine lv_iload hx hb d_M_holds_171 (lv_at hl 0 rfl) ?_
            refine lv_if_ne (tgt := 194) hx hb d_M_holds_173 (by decide) (fun b10 => ?_) (fun b10 => ?_)
            · replace h := ifn b10 h
              refine lv_iload hx hb d_M_holds_194 (lv_at hl 0 rfl) ?_
              refine lv_iconst (v := 1) hx hb d_M_holds_196 (by decide) ?_
              refine lv_icmp_ne (tgt := 218) hx hb d_M_holds_197 (by decide) (fun b11 => ?_) (fun b11 => ?_)
              · replace h := ifn b11 h
                refine lv_iload hx hb d_M_holds_218 (lv_at hl 1 rfl) ?_
                refine lv_iload hx hb d_M_holds_220 (lv_at hl 2 rfl) ?_
                refine lv_bipush (v := 100) hx hb d_M_holds_222 (by decide) ?_
                refine remR C (by decide) d_M_holds_224 ?_
                refine lv_icmp_le (tgt := 232) hx hb d_M_holds_225 (by decide) (fun b12 => ?_) (fun b12 => ?_)
                · replace h := ifp b12 h
                  refine lv_iconst (v := 0) hx hb d_M_holds_232 (by decide) ?_
                  refine gde h (fun g13 h => ?_)
                  refine ste h (fun s14 e15 h => ?_)
                  refine stZ (n := 100) C hw tM_17 (by decide) g13 d_M_holds_233 (fun H locs hw => ?_)
                  replace hw := HWe hw e15
                  refine lv_iinc (v := (x3 + 1)) (lv' := [(3, .int (x3 + 1)), (7, .int (((vJ σ 14 (nx x4)) / 100) % 10)), (6, .int q8), (5, .int (vJ σ 14 (nx x4))), (0, .ref (g.2.1 c0)), (1, .int x1), (2, .int x2), (4, .int x4)]) hx hb d_M_holds_234 hl (k := 6) rfl rfl (by decide) rfl (fun ls hl => ?_)
                  refine lv_iinc (v := (x4 + 1)) (lv' := [(4, .int (x4 + 1)), (3, .int (x3 + 1)), (7, .int (((vJ σ 14 (nx x4)) / 100) % 10)), (6, .int q8), (5, .int (vJ σ 14 (nx x4))), (0, .ref (g.2.1 c0)), (1, .int x1), (2, .int x2)]) hx hb d_M_holds_237 hl (k := 7) rfl rfl (by decide) rfl (fun ls hl => ?_)
                  refine lv_goto (tgt := 10) hx hb d_M_holds_240 (by decide) ?_
                  exact ih (x3 + 1) (x4 + 1) s14 H locs ls hw (lv_sub hl [5, 6, 7, 1, 0] rfl) ex h kx2 kr2
                · replace h := ifn b12 h
                  refine lv_iconst (v := 1) hx hb d_M_holds_228 (by decide) ?_
                  refine lv_goto (tgt := 233) hx hb d_M_holds_229 (by decide) ?_
                  refine gde h (fun g16 h => ?_)
                  refine ste h (fun s17 e18 h => ?_)
                  refine stZ (n := 100) C hw tM_17 (by decide) g16 d_M_holds_233 (fun H locs hw => ?_)
                  replace hw := HWe hw e18
                  refine lv_iinc (v := (x3 + 1)) (lv' := [(3, .int (x3 + 1)), (7, .int (((vJ σ 14 (nx x4)) / 100) % 10)), (6, .int q8), (5, .int (vJ σ 14 (nx x4))), (0, .ref (g.2.1 c0)), (1, .int x1), (2, .int x2), (4, .int x4)]) hx hb d_M_holds_234 hl (k := 6) rfl rfl (by decide) rfl (fun ls hl => ?_)
                  refine lv_iinc (v := (x4 + 1)) (lv' := [(4, .int (x4 + 1)), (3, .int (x3 + 1)), (7, .int (((vJ σ 14 (nx x4)) / 100) % 10)), (6, .int q8), (5, .int (vJ σ 14 (nx x4))), (0, .ref (g.2.1 c0)), (1, .int x1), (2, .int x2)]) hx hb d_M_holds_237 hl (k := 7) rfl rfl (by decide) rfl (fun ls hl => ?_)
                  refine lv_goto (tgt := 10) hx hb d_M_holds_240 (by decide) ?_
                  exact ih (x3 + 1) (x4 + 1) s17 H locs ls hw (lv_sub hl [5, 6, 7, 1, 0] rfl) ex h kx2 kr2
              · replace h := ifp b11 h
                refine lv_iload hx hb d_M_holds_200 (lv_at hl 1 rfl) ?_
                refine lv_iload hx hb d_M_holds_202 (lv_at hl 2 rfl) ?_
                refine lv_bipush (v := 100) hx hb d_M_holds_204 (by decide) ?_
                refine remR C (by decide) d_M_holds_206 ?_
                refine lv_icmp_ne (tgt := 214) hx hb d_M_holds_207 (by decide) (fun b19 => ?_) (fun b19 => ?_)
                · replace h := ifn b19 h
                  refine lv_iconst (v := 0) hx hb d_M_holds_214 (by decide) ?_
                  refine lv_goto (tgt := 233) hx hb d_M_holds_215 (by decide) ?_
                  refine gde h (fun g20 h => ?_)
                  refine ste h (fun s21 e22 h => ?_)
                  refine stZ (n := 100) C hw tM_17 (by decide) g20 d_M_holds_233 (fun H locs hw => ?_)
                  replace hw := HWe hw e22
                  refine lv_iinc (v := (x3 + 1)) (lv' := [(3, .int (x3 + 1)), (7, .int (((vJ σ 14 (nx x4)) / 100) % 10)), (6, .int q8), (5, .int (vJ σ 14 (nx x4))), (0, .ref (g.2.1 c0)), (1, .int x1), (2, .int x2), (4, .int x4)]) hx hb d_M_holds_234 hl (k := 6) rfl rfl (by decide) rfl (fun ls hl => ?_)
                  refine lv_iinc (v := (x4 + 1)) (lv' := [(4, .int (x4 + 1)), (3, .int (x3 + 1)), (7, .int (((vJ σ 14 (nx x4)) / 100) % 10)), (6, .int q8), (5, .int (vJ σ 14 (nx x4))), (0, .ref (g.2.1 c0)), (1, .int x1), (2, .int x2)]) hx hb d_M_holds_237 hl (k := 7) rfl rfl (by decide) rfl (fun ls hl => ?_)
                  refine lv_goto (tgt := 10) hx hb d_M_holds_240 (by decide) ?_
                  exact ih (x3 + 1) (x4 + 1) s21 H locs ls hw (lv_sub hl [5, 6, 7, 1, 0] rfl) ex h kx2 kr2
                · replace h := ifp b19 h
                  refine lv_iconst (v := 1) hx hb d_M_holds_210 (by decide) ?_
                  refine lv_goto (tgt := 233) hx hb d_M_holds_211 (by decide) ?_
                  refine gde h (fun g23 h => ?_)
                  refine ste h (fun s24 e25 h => ?_)
                  refine stZ (n := 100) C hw tM_17 (by decide) g23 d_M_holds_233 (fun H locs hw => ?_)
                  replace hw := HWe hw e25
                  refine lv_iinc (v := (x3 + 1)) (lv' := [(3, .int (x3 + 1)), (7, .int (((vJ σ 14 (nx x4)) / 100) % 10)), (6, .int q8), (5, .int (vJ σ 14 (nx x4))), (0, .ref (g.2.1 c0)), (1, .int x1), (2, .int x2), (4, .int x4)]) hx hb d_M_holds_234 hl (k := 6) rfl rfl (by decide) rfl (fun ls hl => ?_)
                  refine lv_iinc (v := (x4 + 1)) (lv' := [(4, .int (x4 + 1)), (3, .int (x3 + 1)), (7, .int (((vJ σ 14 (nx x4)) / 100) % 10)), (6, .int q8), (5, .int (vJ σ 14 (nx x4))), (0, .ref (g.2.1 c0)), (1, .int x1), (2, .int x2)]) hx hb d_M_holds_237 hl (k := 7) rfl rfl (by decide) rfl (fun ls hl => ?_)
                  refine lv_goto (tgt := 10) hx hb d_M_holds_240 (by decide) ?_
                  exact ih (x3 + 1) (x4 + 1) s24 H locs ls hw (lv_sub hl [5, 6, 7, 1, 0] rfl) ex h kx2 kr2
            · replace h := ifp b10 h
              refine lv_iload hx hb d_M_holds_176 (lv_at hl 1 rfl) ?_
              refine lv_iload hx hb d_M_holds_178 (lv_at hl 2 rfl) ?_
              refine lv_bipush (v := 100) hx hb d_M_holds_180 (by decide) ?_
              refine remR C (by decide) d_M_holds_182 ?_
              refine lv_icmp_ge (tgt := 190) hx hb d_M_holds_183 (by decide) (fun b26 => ?_) (fun b26 => ?_)
              · replace h := ifp b26 h
                refine lv_iconst (v := 0) hx hb d_M_holds_190 (by decide) ?_
                refine lv_goto (tgt := 233) hx hb d_M_holds_191 (by decide) ?_
                refine gde h (fun g27 h => ?_)
                refine ste h (fun s28 e29 h => ?_)
                refine stZ (n := 100) C hw tM_17 (by decide) g27 d_M_holds_233 (fun H locs hw => ?_)
                replace hw := HWe hw e29
                refine lv_iinc (v := (x3 + 1)) (lv' := [(3, .int (x3 + 1)), (7, .int (((vJ σ 14 (nx x4)) / 100) % 10)), (6, .int q8), (5, .int (vJ σ 14 (nx x4))), (0, .ref (g.2.1 c0)), (1, .int x1), (2, .int x2), (4, .int x4)]) hx hb d_M_holds_234 hl (k := 6) rfl rfl (by decide) rfl (fun ls hl => ?_)
                refine lv_iinc (v := (x4 + 1)) (lv' := [(4, .int (x4 + 1)), (3, .int (x3 + 1)), (7, .int (((vJ σ 14 (nx x4)) / 100) % 10)), (6, .int q8), (5, .int (vJ σ 14 (nx x4))), (0, .ref (g.2.1 c0)), (1, .int x1), (2, .int x2)]) hx hb d_M_holds_237 hl (k := 7) rfl rfl (by decide) rfl (fun ls hl => ?_)
                refine lv_goto (tgt := 10) hx hb d_M_holds_240 (by decide) ?_
                exact ih (x3 + 1) (x4 + 1) s28 H locs ls hw (lv_sub hl [5, 6, 7, 1, 0] rfl) ex h kx2 kr2
              · replace h := ifn b26 h
                refine lv_iconst (v := 1) hx hb d_M_holds_186 (by decide) ?_
                refine lv_goto (tgt := 233) hx hb d_M_holds_187 (by decide) ?_
                refine gde h (fun g30 h => ?_)
                refine ste h (fun s31 e32 h => ?_)
                refine stZ (n := 100) C hw tM_17 (by decide) g30 d_M_holds_233 (fun H locs hw => ?_)
                replace hw := HWe hw e32
                refine lv_iinc (v := (x3 + 1)) (lv' := [(3, .int (x3 + 1)), (7, .int (((vJ σ 14 (nx x4)) / 100) % 10)), (6, .int q8), (5, .int (vJ σ 14 (nx x4))), (0, .ref (g.2.1 c0)), (1, .int x1), (2, .int x2), (4, .int x4)]) hx hb d_M_holds_234 hl (k := 6) rfl rfl (by decide) rfl (fun ls hl => ?_)
                refine lv_iinc (v := (x4 + 1)) (lv' := [(4, .int (x4 + 1)), (3, .int (x3 + 1)), (7, .int (((vJ σ 14 (nx x4)) / 100) % 10)), (6, .int q8), (5, .int (vJ σ 14 (nx x4))), (0, .ref (g.2.1 c0)), (1, .int x1), (2, .int x2)]) hx hb d_M_holds_237 hl (k := 7) rfl rfl (by decide) rfl (fun ls hl => ?_)
                refine lv_goto (tgt := 10) hx hb d_M_holds_240 (by decide) ?_
                exact ih (x3 + 1) (x4 + 1) s31 H locs ls hw (lv_sub hl [5, 6, 7, 1, 0] rfl) ex h kx2 kr2
          · replace h := ifn b7 h
            refine lv_iinc (v := (x3 + (-1))) (lv' := [(3, .int (x3 + (-1))), (5, .int (vJ σ 14 (nx x4))), (0, .ref (g.2.1 c0)), (1, .int x1), (2, .int x2), (4, .int x4)]) hx hb d_M_holds_69 hl (k := 4) rfl rfl (by decide) rfl (fun ls hl => ?_)
            refine lv_aload_n hx hb d_M_holds_72 rfl (lv_at hl 2 rfl) ?_
            refine fg_M_98 C hw hc0 d_M_holds_73 ?_
            refine lv_iload_n hx hb d_M_holds_76 rfl (lv_at hl 0 rfl) ?_
            refine lv_iconst (v := 1) hx hb d_M_holds_77 (by decide) ?_
            refine lv_isub hx hb d_M_holds_78 ?_
            refine lv_iload hx hb d_M_holds_79 (lv_at hl 1 rfl) ?_
            refine lv_bipush (v := (-38)) hx hb d_M_holds_81 (by decide) ?_
            refine lv_icmp_ne (tgt := 114) hx hb d_M_holds_83 (by decide) (fun b33 => ?_) (fun b33 => ?_)
            · replace h := ifn b33 h
              refine lv_aload_n hx hb d_M_holds_114 rfl (lv_at hl 2 rfl) ?_
              refine fg_M_98 C hw hc0 d_M_holds_115 ?_
              refine lv_iload_n hx hb d_M_holds_118 rfl (lv_at hl 0 rfl) ?_
              refine lv_iconst (v := 1) hx hb d_M_holds_119 (by decide) ?_
              refine lv_isub hx hb d_M_holds_120 ?_
              refine gde h (fun g34 h => ?_)
              refine ldZ (n := 100) C hw tM_17 (by decide) g34 d_M_holds_121 ?_
              refine lv_if_ne (tgt := 134) hx hb d_M_holds_122 (by decide) (fun b35 => ?_) (fun b35 => ?_)
              · replace h := ifn b35 h
                refine lv_iconst (v := 1) hx hb d_M_holds_134 (by decide) ?_
                refine lv_goto (tgt := 139) hx hb d_M_holds_135 (by decide) ?_
                refine gde h (fun g36 h => ?_)
                refine ste h (fun s37 e38 h => ?_)
                refine stZ (n := 100) C hw tM_17 (by decide) g36 d_M_holds_139 (fun H locs hw => ?_)
                replace hw := HWe hw e38
                refine lv_goto (tgt := 237) hx hb d_M_holds_140 (by decide) ?_
                refine lv_iinc (v := (x4 + 1)) (lv' := [(4, .int (x4 + 1)), (3, .int (x3 + (-1))), (5, .int (vJ σ 14 (nx x4))), (0, .ref (g.2.1 c0)), (1, .int x1), (2, .int x2)]) hx hb d_M_holds_237 hl (k := 5) rfl rfl (by decide) rfl (fun ls hl => ?_)
                refine lv_goto (tgt := 10) hx hb d_M_holds_240 (by decide) ?_
                exact ih (x3 + (-1)) (x4 + 1) s37 H locs ls hw (lv_sub hl [3, 4, 5, 1, 0] rfl) ex h kx2 kr2
              · replace h := ifp b35 h
                refine lv_aload_n hx hb d_M_holds_125 rfl (lv_at hl 2 rfl) ?_
                refine fg_M_98 C hw hc0 d_M_holds_126 ?_
                refine lv_iload_n hx hb d_M_holds_129 rfl (lv_at hl 0 rfl) ?_
                refine gde h (fun g39 h => ?_)
                refine ldZ (n := 100) C hw tM_17 (by decide) g39 d_M_holds_130 ?_
                refine lv_if_eq (tgt := 138) hx hb d_M_holds_131 (by decide) (fun b40 => ?_) (fun b40 => ?_)
                · replace h := ifp b40 h
                  refine lv_iconst (v := 0) hx hb d_M_holds_138 (by decide) ?_
                  refine gde h (fun g41 h => ?_)
                  refine ste h (fun s42 e43 h => ?_)
                  refine stZ (n := 100) C hw tM_17 (by decide) g41 d_M_holds_139 (fun H locs hw => ?_)
                  replace hw := HWe hw e43
                  refine lv_goto (tgt := 237) hx hb d_M_holds_140 (by decide) ?_
                  refine lv_iinc (v := (x4 + 1)) (lv' := [(4, .int (x4 + 1)), (3, .int (x3 + (-1))), (5, .int (vJ σ 14 (nx x4))), (0, .ref (g.2.1 c0)), (1, .int x1), (2, .int x2)]) hx hb d_M_holds_237 hl (k := 5) rfl rfl (by decide) rfl (fun ls hl => ?_)
                  refine lv_goto (tgt := 10) hx hb d_M_holds_240 (by decide) ?_
                  exact ih (x3 + (-1)) (x4 + 1) s42 H locs ls hw (lv_sub hl [3, 4, 5, 1, 0] rfl) ex h kx2 kr2
                · replace h := ifn b40 h
                  refine lv_iconst (v := 1) hx hb d_M_holds_134 (by decide) ?_
                  refine lv_goto (tgt := 139) hx hb d_M_holds_135 (by decide) ?_
                  refine gde h (fun g44 h => ?_)
                  refine ste h (fun s45 e46 h => ?_)
                  refine stZ (n := 100) C hw tM_17 (by decide) g44 d_M_holds_139 (fun H locs hw => ?_)
                  replace hw := HWe hw e46
                  refine lv_goto (tgt := 237) hx hb d_M_holds_140 (by decide) ?_
                  refine lv_iinc (v := (x4 + 1)) (lv' := [(4, .int (x4 + 1)), (3, .int (x3 + (-1))), (5, .int (vJ σ 14 (nx x4))), (0, .ref (g.2.1 c0)), (1, .int x1), (2, .int x2)]) hx hb d_M_holds_237 hl (k := 5) rfl rfl (by decide) rfl (fun ls hl => ?_)
                  refine lv_goto (tgt := 10) hx hb d_M_holds_240 (by decide) ?_
                  exact ih (x3 + (-1)) (x4 + 1) s45 H locs ls hw (lv_sub hl [3, 4, 5, 1, 0] rfl) ex h kx2 kr2
            · replace h := ifp b33 h
              refine lv_aload_n hx hb d_M_holds_86 rfl (lv_at hl 2 rfl) ?_
              refine fg_M_98 C hw hc0 d_M_holds_87 ?_
              refine lv_iload_n hx hb d_M_holds_90 rfl (lv_at hl 0 rfl) ?_
              refine lv_iconst (v := 1) hx hb d_M_holds_91 (by decide) ?_
              refine lv_isub hx hb d_M_holds_92 ?_
              refine gde h (fun g47 h => ?_)
              refine ldZ (n := 100) C hw tM_17 (by decide) g47 d_M_holds_93 ?_
              refine lv_if_eq (tgt := 110) hx hb d_M_holds_94 (by decide) (fun b48 => ?_) (fun b48 => ?_)
              · replace h := ifp b48 h
                refine lv_iconst (v := 0) hx hb d_M_holds_110 (by decide) ?_
                refine lv_goto (tgt := 139) hx hb d_M_holds_111 (by decide) ?_
                refine gde h (fun g49 h => ?_)
                refine ste h (fun s50 e51 h => ?_)
                refine stZ (n := 100) C hw tM_17 (by decide) g49 d_M_holds_139 (fun H locs hw => ?_)
                replace hw := HWe hw e51
                refine lv_goto (tgt := 237) hx hb d_M_holds_140 (by decide) ?_
                refine lv_iinc (v := (x4 + 1)) (lv' := [(4, .int (x4 + 1)), (3, .int (x3 + (-1))), (5, .int (vJ σ 14 (nx x4))), (0, .ref (g.2.1 c0)), (1, .int x1), (2, .int x2)]) hx hb d_M_holds_237 hl (k := 5) rfl rfl (by decide) rfl (fun ls hl => ?_)
                refine lv_goto (tgt := 10) hx hb d_M_holds_240 (by decide) ?_
                exact ih (x3 + (-1)) (x4 + 1) s50 H locs ls hw (lv_sub hl [3, 4, 5, 1, 0] rfl) ex h kx2 kr2
              · replace h := ifn b48 h
                refine lv_aload_n hx hb d_M_holds_97 rfl (lv_at hl 2 rfl) ?_
                refine fg_M_98 C hw hc0 d_M_holds_98 ?_
                refine lv_iload_n hx hb d_M_holds_101 rfl (lv_at hl 0 rfl) ?_
                refine gde h (fun g52 h => ?_)
                refine ldZ (n := 100) C hw tM_17 (by decide) g52 d_M_holds_102 ?_
                refine lv_if_eq (tgt := 110) hx hb d_M_holds_103 (by decide) (fun b53 => ?_) (fun b53 => ?_)
                · replace h := ifp b53 h
                  refine lv_iconst (v := 0) hx hb d_M_holds_110 (by decide) ?_
                  refine lv_goto (tgt := 139) hx hb d_M_holds_111 (by decide) ?_
                  refine gde h (fun g54 h => ?_)
                  refine ste h (fun s55 e56 h => ?_)
                  refine stZ (n := 100) C hw tM_17 (by decide) g54 d_M_holds_139 (fun H locs hw => ?_)
                  replace hw := HWe hw e56
                  refine lv_goto (tgt := 237) hx hb d_M_holds_140 (by decide) ?_
                  refine lv_iinc (v := (x4 + 1)) (lv' := [(4, .int (x4 + 1)), (3, .int (x3 + (-1))), (5, .int (vJ σ 14 (nx x4))), (0, .ref (g.2.1 c0)), (1, .int x1), (2, .int x2)]) hx hb d_M_holds_237 hl (k := 5) rfl rfl (by decide) rfl (fun ls hl => ?_)
                  refine lv_goto (tgt := 10) hx hb d_M_holds_240 (by decide) ?_
                  exact ih (x3 + (-1)) (x4 + 1) s55 H locs ls hw (lv_sub hl [3, 4, 5, 1, 0] rfl) ex h kx2 kr2
                · replace h := ifn b53 h
                  refine lv_iconst (v := 1) hx hb d_M_holds_106 (by decide) ?_
                  refine lv_goto (tgt := 139) hx hb d_M_holds_107 (by decide) ?_
                  refine gde h (fun g57 h => ?_)
                  refine ste h (fun s58 e59 h => ?_)
                  refine stZ (n := 100) C hw tM_17 (by decide) g57 d_M_holds_139 (fun H locs hw => ?_)
                  replace hw := HWe hw e59
                  refine lv_goto (tgt := 237) hx hb d_M_holds_140 (by decide) ?_
                  refine lv_iinc (v := (x4 + 1)) (lv' := [(4, .int (x4 + 1)), (3, .int (x3 + (-1))), (5, .int (vJ σ 14 (nx x4))), (0, .ref (g.2.1 c0)), (1, .int x1), (2, .int x2)]) hx hb d_M_holds_237 hl (k := 5) rfl rfl (by decide) rfl (fun ls hl => ?_)
                  refine lv_goto (tgt := 10) hx hb d_M_holds_240 (by decide) ?_
                  exact ih (x3 + (-1)) (x4 + 1) s58 H locs ls hw (lv_sub hl [3, 4, 5, 1, 0] rfl) ex h kx2 kr2
        · replace h := ifp b6 h
          refine lv_aload_n hx hb d_M_holds_37 rfl (lv_at hl 1 rfl) ?_
          refine fg_M_98 C hw hc0 d_M_holds_38 ?_
          refine lv_iload_n hx hb d_M_holds_41 rfl (lv_at hl 4 rfl) ?_
          refine lv_iconst (v := 1) hx hb d_M_holds_42 (by decide) ?_
          refine lv_isub hx hb d_M_holds_43 ?_
          refine lv_aload_n hx hb d_M_holds_44 rfl (lv_at hl 1 rfl) ?_
          refine fg_M_98 C hw hc0 d_M_holds_45 ?_
          refine lv_iload_n hx hb d_M_holds_48 rfl (lv_at hl 4 rfl) ?_
          refine lv_iconst (v := 1) hx hb d_M_holds_49 (by decide) ?_
          refine lv_isub hx hb d_M_holds_50 ?_
          refine gde h (fun g60 h => ?_)
          refine ldZ (n := 100) C hw tM_17 (by decide) g60 d_M_holds_51 ?_
          refine lv_if_ne (tgt := 59) hx hb d_M_holds_52 (by decide) (fun b61 => ?_) (fun b61 => ?_)
          · replace h := ifn b61 h
            refine lv_iconst (v := 0) hx hb d_M_holds_59 (by decide) ?_
            refine gde h (fun g62 h => ?_)
            refine ste h (fun s63 e64 h => ?_)
            refine stZ (n := 100) C hw tM_17 (by decide) g62 d_M_holds_60 (fun H locs hw => ?_)
            replace hw := HWe hw e64
            refine lv_goto (tgt := 237) hx hb d_M_holds_61 (by decide) ?_
            refine lv_iinc (v := (x4 + 1)) (lv' := [(4, .int (x4 + 1)), (5, .int (vJ σ 14 (nx x4))), (0, .ref (g.2.1 c0)), (1, .int x1), (2, .int x2), (3, .int x3)]) hx hb d_M_holds_237 hl (k := 5) rfl rfl (by decide) rfl (fun ls hl => ?_)
            refine lv_goto (tgt := 10) hx hb d_M_holds_240 (by decide) ?_
            exact ih x3 (x4 + 1) s63 H locs ls hw (lv_sub hl [2, 3, 4, 5, 0] rfl) ex h kx2 kr2
          · replace h := ifp b61 h
            refine lv_iconst (v := 1) hx hb d_M_holds_55 (by decide) ?_
            refine lv_goto (tgt := 60) hx hb d_M_holds_56 (by decide) ?_
            refine gde h (fun g65 h => ?_)
            refine ste h (fun s66 e67 h => ?_)
            refine stZ (n := 100) C hw tM_17 (by decide) g65 d_M_holds_60 (fun H locs hw => ?_)
            replace hw := HWe hw e67
            refine lv_goto (tgt := 237) hx hb d_M_holds_61 (by decide) ?_
            refine lv_iinc (v := (x4 + 1)) (lv' := [(4, .int (x4 + 1)), (5, .int (vJ σ 14 (nx x4))), (0, .ref (g.2.1 c0)), (1, .int x1), (2, .int x2), (3, .int x3)]) hx hb d_M_holds_237 hl (k := 5) rfl rfl (by decide) rfl (fun ls hl => ?_)
            refine lv_goto (tgt := 10) hx hb d_M_holds_240 (by decide) ?_
            exact ih x3 (x4 + 1) s66 H locs ls hw (lv_sub hl [2, 3, 4, 5, 0] rfl) ex h kx2 kr2
  refine bnd h (fun x_68 k69 h => ?_)
  refine L2 c0 hc0 p1 p2 FU 0 (vJ σ 12 (nx p1)) σ H locs ls hw (lv_sub hl [2, 3, 4, 1, 0] rfl) x_68 k69 (fun y73 e74 H locs ls hw hl => ?_) trivial
  subst e74
  refine lv_aload_n hx hb d_M_holds_243 rfl (lv_at hl 0 rfl) ?_
  refine fg_M_98 C hw hc0 d_M_holds_244 ?_
  refine lv_iconst (v := 0) hx hb d_M_holds_247 (by decide) ?_
  refine gde h (fun g71 h => ?_)
  refine ldZ (n := 100) C hw tM_17 (by decide) g71 d_M_holds_248 ?_
  refine gde h (fun g72 h => ?_)
  exact retZ (b := (decide ((vJ x_68 17 (nx 0)) = 1))) C hw rfl (bz_e g72) (Option.some.inj h) d_M_holds_249
def f_M_sumOf_l8 : Nat → Nat → Int32 → Int32 → Int32 → Int32 → St → Option (Int32 × St)
  | 0, _, _, _, _, _, _ => none
  | n + 1, c0, x1, x2, x3, x4, σ => ((f_M_behind c0 σ).bind fun q2 => (if q2 ≤ x4 then some (x3, σ) else (if ok x4 60 = true then (if (vJ σ 10 (nx x4)) = x1 then ((f_M_holds c0 x4 x2 σ).bind fun q7 => (if q7.1 = false then (f_M_sumOf_l8 n c0 x1 x2 (x3 + 0) (x4 + 1) q7.2) else (if ok x4 60 = true then (f_M_sumOf_l8 n c0 x1 x2 (x3 + (vJ q7.2 11 (nx x4))) (x4 + 1) q7.2) else none))) else (f_M_sumOf_l8 n c0 x1 x2 (x3 + 0) (x4 + 1) σ)) else none)))
def f_M_sumOf (c0 : Nat) (p1 : Int32) (p2 : Int32) (σ : St) : Option (Int32 × St) := ((f_M_sumOf_l8 FU c0 p1 p2 0 (f_M_begin c0 σ) σ).bind fun x_11 => some (x_11.1, x_11.2))
set_option maxHeartbeats 400000 in
set_option maxRecDepth 20000 in
theorem c_M_sumOf (g : GX) (c0 : Nat) (hc0 : tg BM c0 20) (p1 : Int32) (p2 : Int32) (σ : St) (q : Int32 × St) (h : f_M_sumOf c0 p1 p2 σ = some q) (l : Launch) : CT BM l y_M_sumOf (v_M_sumOf :: lwG) 3 [.ref (g.2.1 c0), .int p1, .int p2] g σ (QI BM g q) := by
  refine mkC (cc := b_M_sumOf) (maxL := 5) (ret := (some .int)) rfl (by decide) rfl (Nat.le_of_ble_eq_true rfl) ?_
  intro p e s m args below meth c A ls C hl hw
  obtain ⟨hx, hb, hr, hml, hown, hts, hK, hE, hA, hlk⟩ := id C
  replace hl : lv_has ls 5 [(0, .ref (g.2.1 c0)), (1, .int p1), (2, .int p2)] := hl
  obtain ⟨H, hH⟩ : ∃ z, z = s.heap := ⟨_, rfl⟩
  rw [← hH] at hw ⊢
  obtain ⟨locs, hlo⟩ : ∃ z : List Loc, z = [] := ⟨_, rfl⟩
  rw [← hlo] at hw ⊢
  unfold f_M_sumOf at h
  refine lv_iconst (v := 0) hx hb d_M_sumOf_0 (by decide) ?_
  refine lv_istore_n (lv' := [(3, .int 0), (0, .ref (g.2.1 c0)), (1, .int p1), (2, .int p2)]) hx hb d_M_sumOf_1 rfl hl (by decide) rfl (fun ls hl => ?_)
  refine lv_aload_n hx hb d_M_sumOf_2 rfl (lv_at hl 1 rfl) ?_
  refine clI0 (v := (f_M_begin c0 σ)) C hw (invV (As := []) C hw (c_M_begin g c0 hc0 σ l) rfl wc_M_273 nd_M_begin ⟨by decide, by decide⟩ (rc_M C hw hc0) rfl hl.1 rfl (Nat.le_of_ble_eq_true rfl) d_M_sumOf_3 ⟨Nat.le_refl _, Nat.le_refl _⟩) (fun H locs hw => ?_)
  refine lv_istore (lv' := [(4, .int (f_M_begin c0 σ)), (3, .int 0), (0, .ref (g.2.1 c0)), (1, .int p1), (2, .int p2)]) hx hb d_M_sumOf_6 hl (by decide) rfl (fun ls hl => ?_)
  have L1 : ∀ (c0 : Nat) (hc0 : tg BM c0 20) (x1 : Int32) (x2 : Int32) (n : Nat) (x3 : Int32) (x4 : Int32) (σ : St) (H : Heap) (locs : List Loc) (ls : Array Slot), HW BM g A s σ H locs → lv_has ls 5 [(0, .ref (g.2.1 c0)), (1, .int x1), (2, .int x2), (3, .int x3), (4, .int x4)] → ∀ (ex : Int32 × St), f_M_sumOf_l8 n c0 x1 x2 x3 x4 σ = some ex → (∀ (y : Int32 × St), ex = y → ∀ (H : Heap) (locs : List Loc) (ls : Array Slot), HW BM g A s y.2 H locs → lv_has ls 5 [(3, .int y.1)] → W p l e (rmL 3) s m args below meth c H locs 0 0 (MQ below (QI BM g q A) args s 0 0 A) (F0 m 58 ls [])) → (True) → W p l e (rmL 3) s m args below meth c H locs 0 0 (MQ below (QI BM g q A) args s 0 0 A) (F0 m 8 ls []) := by
    intro c0 hc0 x1 x2 n
    induction n with
    | zero =>
      intro x3 x4 σ H locs ls hw hl ex h kx1 kr1
      cases h
    | succ n ih =>
      intro x3 x4 σ H locs ls hw hl ex h kx1 kr1
      rw [f_M_sumOf_l8] at h
      refine lv_iload hx hb d_M_sumOf_8 (lv_at hl 4 rfl) ?_
      refine lv_aload_n hx hb d_M_sumOf_10 rfl (lv_at hl 0 rfl) ?_
      refine bnd h (fun q2 k3 h => ?_)
      refine clI0 (v := q2) C hw (invV (As := []) C hw (c_M_behind g c0 hc0 σ q2 k3 l) rfl wc_M_276 nd_M_behind ⟨by decide, by decide⟩ (rc_M C hw hc0) rfl hl.1 rfl (Nat.le_of_ble_eq_true rfl) d_M_sumOf_11 ⟨Nat.le_refl _, Nat.le_refl _⟩) (fun H locs hw => ?_)
      refine lv_icmp_ge (tgt := 58) hx hb d_M_sumOf_14 (by decide) (fun b4 => ?_) (fun b4 => ?_)
      · replace h := ifp b4 h
        exact kx1 _ (Option.some.inj h).symm H locs ls hw (lv_sub hl [3] rfl)
      · replace h := ifn b4 h
        refine lv_iload_n hx hb d_M_sumOf_17 rfl (lv_at hl 3 rfl) ?_
        refine lv_aload_n hx hb d_M_sumOf_18 rfl (lv_at hl 0 rfl) ?_
        refine fg_M_62 C hw hc0 d_M_sumOf_19 ?_
        refine lv_iload hx hb d_M_sumOf_22 (lv_at hl 4 rfl) ?_
        refine gde h (fun g5 h => ?_)
        refine ldI (n := 60) C hw tM_10 (by decide) g5 d_M_sumOf_24 ?_
        refine lv_iload_n hx hb d_M_sumOf_25 rfl (lv_at hl 1 rfl) ?_
        refine lv_icmp_ne (tgt := 49) hx hb d_M_sumOf_26 (by decide) (fun b6 => ?_) (fun b6 => ?_)
        · replace h := ifn b6 h
          refine lv_iconst (v := 0) hx hb d_M_sumOf_49 (by decide) ?_
          refine lv_iadd hx hb d_M_sumOf_50 ?_
          refine lv_istore_n (lv' := [(3, .int (x3 + 0)), (0, .ref (g.2.1 c0)), (1, .int x1), (2, .int x2), (4, .int x4)]) hx hb d_M_sumOf_51 rfl hl (by decide) rfl (fun ls hl => ?_)
          refine lv_iinc (v := (x4 + 1)) (lv' := [(4, .int (x4 + 1)), (3, .int (x3 + 0)), (0, .ref (g.2.1 c0)), (1, .int x1), (2, .int x2)]) hx hb d_M_sumOf_52 hl (k := 4) rfl rfl (by decide) rfl (fun ls hl => ?_)
          refine lv_goto (tgt := 8) hx hb d_M_sumOf_55 (by decide) ?_
          exact ih (x3 + 0) (x4 + 1) σ H locs ls hw (lv_sub hl [2, 3, 4, 1, 0] rfl) ex h kx1 kr1
        · replace h := ifp b6 h
          refine lv_aload_n hx hb d_M_sumOf_29 rfl (lv_at hl 0 rfl) ?_
          refine lv_iload hx hb d_M_sumOf_30 (lv_at hl 4 rfl) ?_
          refine lv_iload_n hx hb d_M_sumOf_32 rfl (lv_at hl 2 rfl) ?_
          refine bnd h (fun q7 k8 h => ?_)
          refine clZ C hw (invV (As := [.int x4, .int x2]) C hw (c_M_holds g c0 hc0 x4 x2 σ q7 k8 l) rfl wc_M_286 nd_M_holds ⟨by decide, by decide⟩ (rc_M C hw hc0) rfl hl.1 rfl (Nat.le_of_ble_eq_true rfl) d_M_sumOf_33 ⟨Nat.le_refl _, Nat.le_refl _⟩) (fun H locs hw => ?_)
          refine ifB (tgt := 49) C d_M_sumOf_36 (by decide) (fun b9 => ?_) (fun b9 => ?_)
          · replace h := ifp b9 h
            refine lv_iconst (v := 0) hx hb d_M_sumOf_49 (by decide) ?_
            refine lv_iadd hx hb d_M_sumOf_50 ?_
            refine lv_istore_n (lv' := [(3, .int (x3 + 0)), (0, .ref (g.2.1 c0)), (1, .int x1), (2, .int x2), (4, .int x4)]) hx hb d_M_sumOf_51 rfl hl (by decide) rfl (fun ls hl => ?_)
            refine lv_iinc (v := (x4 + 1)) (lv' := [(4, .int (x4 + 1)), (3, .int (x3 + 0)), (0, .ref (g.2.1 c0)), (1, .int x1), (2, .int x2)]) hx hb d_M_sumOf_52 hl (k := 4) rfl rfl (by decide) rfl (fun ls hl => ?_)
            refine lv_goto (tgt := 8) hx hb d_M_sumOf_55 (by decide) ?_
            exact ih (x3 + 0) (x4 + 1) q7.2 H locs ls hw (lv_sub hl [2, 3, 4, 1, 0] rfl) ex h kx1 kr1
          · replace h := ifn b9 h
            refine lv_aload_n hx hb d_M_sumOf_39 rfl (lv_at hl 0 rfl) ?_
            refine fg_M_65 C hw hc0 d_M_sumOf_40 ?_
            refine lv_iload hx hb d_M_sumOf_43 (lv_at hl 4 rfl) ?_
            refine gde h (fun g10 h => ?_)
            refine ldI (n := 60) C hw tM_11 (by decide) g10 d_M_sumOf_45 ?_
            refine lv_goto (tgt := 50) hx hb d_M_sumOf_46 (by decide) ?_
            refine lv_iadd hx hb d_M_sumOf_50 ?_
            refine lv_istore_n (lv' := [(3, .int (x3 + (vJ q7.2 11 (nx x4)))), (0, .ref (g.2.1 c0)), (1, .int x1), (2, .int x2), (4, .int x4)]) hx hb d_M_sumOf_51 rfl hl (by decide) rfl (fun ls hl => ?_)
            refine lv_iinc (v := (x4 + 1)) (lv' := [(4, .int (x4 + 1)), (3, .int (x3 + (vJ q7.2 11 (nx x4)))), (0, .ref (g.2.1 c0)), (1, .int x1), (2, .int x2)]) hx hb d_M_sumOf_52 hl (k := 4) rfl rfl (by decide) rfl (fun ls hl => ?_)
            refine lv_goto (tgt := 8) hx hb d_M_sumOf_55 (by decide) ?_
            exact ih (x3 + (vJ q7.2 11 (nx x4))) (x4 + 1) q7.2 H locs ls hw (lv_sub hl [2, 3, 4, 1, 0] rfl) ex h kx1 kr1
  refine bnd h (fun x_11 k12 h => ?_)
  refine L1 c0 hc0 p1 p2 FU 0 (f_M_begin c0 σ) σ H locs ls hw (lv_sub hl [2, 3, 4, 1, 0] rfl) x_11 k12 (fun y14 e15 H locs ls hw hl => ?_) trivial
  subst e15
  refine lv_iload_n hx hb d_M_sumOf_58 rfl (lv_at hl 0 rfl) ?_
  exact retI C hw rfl (Option.some.inj h) d_M_sumOf_59
def f_M_wantsOf (c0 : Nat) (p1 : Int32) (σ : St) : Option (Int32 × St) := (if ok p1 6 = true then ((f_M_sumOf c0 0 p1 σ).bind fun q2 => some (((vJ σ 3 (nx p1)) + q2.1), q2.2)) else none)
set_option maxHeartbeats 400000 in
set_option maxRecDepth 20000 in
theorem c_M_wantsOf (g : GX) (c0 : Nat) (hc0 : tg BM c0 20) (p1 : Int32) (σ : St) (q : Int32 × St) (h : f_M_wantsOf c0 p1 σ = some q) (l : Launch) : CT BM l y_M_wantsOf (v_M_wantsOf :: lwG) 4 [.ref (g.2.1 c0), .int p1] g σ (QI BM g q) := by
  refine mkC (cc := b_M_wantsOf) (maxL := 2) (ret := (some .int)) rfl (by decide) rfl (Nat.le_of_ble_eq_true rfl) ?_
  intro p e s m args below meth c A ls C hl hw
  obtain ⟨hx, hb, hr, hml, hown, hts, hK, hE, hA, hlk⟩ := id C
  replace hl : lv_has ls 2 [(0, .ref (g.2.1 c0)), (1, .int p1)] := hl
  obtain ⟨H, hH⟩ : ∃ z, z = s.heap := ⟨_, rfl⟩
  rw [← hH] at hw ⊢
  obtain ⟨locs, hlo⟩ : ∃ z : List Loc, z = [] := ⟨_, rfl⟩
  rw [← hlo] at hw ⊢
  unfold f_M_wantsOf at h
  refine lv_aload_n hx hb d_M_wantsOf_0 rfl (lv_at hl 0 rfl) ?_
  refine fg_M_26 C hw hc0 d_M_wantsOf_1 ?_
  refine lv_iload_n hx hb d_M_wantsOf_4 rfl (lv_at hl 1 rfl) ?_
  refine gde h (fun g1 h => ?_)
  refine ldI (n := 6) C hw tM_3 (by decide) g1 d_M_wantsOf_5 ?_
  refine lv_aload_n hx hb d_M_wantsOf_6 rfl (lv_at hl 0 rfl) ?_
  refine lv_iconst (v := 0) hx hb d_M_wantsOf_7 (by decide) ?_
  refine lv_iload_n hx hb d_M_wantsOf_8 rfl (lv_at hl 1 rfl) ?_
  refine bnd h (fun q2 k3 h => ?_)
  refine clI C hw (invV (As := [.int 0, .int p1]) C hw (c_M_sumOf g c0 hc0 0 p1 σ q2 k3 l) rfl wc_M_289 nd_M_sumOf ⟨by decide, by decide⟩ (rc_M C hw hc0) rfl hl.1 rfl (Nat.le_of_ble_eq_true rfl) d_M_wantsOf_9 ⟨Nat.le_refl _, Nat.le_refl _⟩) (fun H locs hw => ?_)
  refine lv_iadd hx hb d_M_wantsOf_12 ?_
  exact retI C hw rfl (Option.some.inj h) d_M_wantsOf_13
def f_M_of (c0 : Nat) (p1 : Int32) (p2 : Int32) (σ : St) : Option (Int32 × St) := (if (f_M_isTaker c0 p1 σ) = false then some ((-1), σ) else (if p2 = 0 then (if ok p1 6 = true then some ((vJ σ 1 (nx p1)), σ) else none) else (if p2 = 1 then (if ok p1 6 = true then some ((vJ σ 2 (nx p1)), σ) else none) else (if p2 = 2 then (if ok p1 6 = true then some ((vJ σ 3 (nx p1)), σ) else none) else (if p2 = 3 then (if ok p1 6 = true then some ((vJ σ 4 (nx p1)), σ) else none) else (if p2 = 4 then (if ok p1 6 = true then some ((vJ σ 5 (nx p1)), σ) else none) else (if p2 = 5 then (if ok p1 6 = true then some ((vJ σ 6 (nx p1)), σ) else none) else (if p2 = 6 then ((f_M_wantsOf c0 p1 σ).bind fun q15 => some (q15.1, q15.2)) else (if p2 = 7 then ((f_M_sumOf c0 3 p1 σ).bind fun q18 => some (q18.1, q18.2)) else some ((-1), σ))))))))))
set_option maxHeartbeats 400000 in
set_option maxRecDepth 20000 in
theorem c_M_of (g : GX) (c0 : Nat) (hc0 : tg BM c0 20) (p1 : Int32) (p2 : Int32) (σ : St) (q : Int32 × St) (h : f_M_of c0 p1 p2 σ = some q) (l : Launch) : CT BM l y_M_of (v_M_of :: lwG) 5 [.ref (g.2.1 c0), .int p1, .int p2] g σ (QI BM g q) := by
  refine mkC (cc := b_M_of) (maxL := 3) (ret := (some .int)) rfl (by decide) rfl (Nat.le_of_ble_eq_true rfl) ?_
  intro p e s m args below meth c A ls C hl hw
  obtain ⟨hx, hb, hr, hml, hown, hts, hK, hE, hA, hlk⟩ := id C
  replace hl : lv_has ls 3 [(0, .ref (g.2.1 c0)), (1, .int p1), (2, .int p2)] := hl
  obtain ⟨H, hH⟩ : ∃ z, z = s.heap := ⟨_, rfl⟩
  rw [← hH] at hw ⊢
  obtain ⟨locs, hlo⟩ : ∃ z : List Loc, z = [] := ⟨_, rfl⟩
  rw [← hlo] at hw ⊢
  unfold f_M_of at h
  refine lv_aload_n hx hb d_M_of_0 rfl (lv_at hl 0 rfl) ?_
  refine lv_iload_n hx hb d_M_of_1 rfl (lv_at hl 1 rfl) ?_
  refine clZ0 (v := (f_M_isTaker c0 p1 σ)) C hw (invV (As := [.int p1]) C hw (c_M_isTaker g c0 hc0 p1 σ l) rfl wc_M_222 nd_M_isTaker ⟨by decide, by decide⟩ (rc_M C hw hc0) rfl hl.1 rfl (Nat.le_of_ble_eq_true rfl) d_M_of_2 ⟨Nat.le_refl _, Nat.le_refl _⟩) (fun H locs hw => ?_)
  refine ifnB (tgt := 10) C d_M_of_5 (by decide) (fun b1 => ?_) (fun b1 => ?_)
  · replace h := ifn b1 h
    refine lv_iload_n hx hb d_M_of_10 rfl (lv_at hl 2 rfl) ?_
    by_cases b2 : p2 = 0
    · replace h := ifp b2 h
      refine swIn (k := 0) (tgt := 56) C b2 d_M_of_11 (by decide) rfl (by decide) ?_
      refine lv_aload_n hx hb d_M_of_56 rfl (lv_at hl 0 rfl) ?_
      refine fg_M_19 C hw hc0 d_M_of_57 ?_
      refine lv_iload_n hx hb d_M_of_60 rfl (lv_at hl 1 rfl) ?_
      refine gde h (fun g3 h => ?_)
      refine ldI (n := 6) C hw tM_1 (by decide) g3 d_M_of_61 ?_
      exact retI C hw rfl (Option.some.inj h) d_M_of_62
    · replace h := ifn b2 h
      by_cases b4 : p2 = 1
      · replace h := ifp b4 h
        refine swIn (k := 1) (tgt := 63) C b4 d_M_of_11 (by decide) rfl (by decide) ?_
        refine lv_aload_n hx hb d_M_of_63 rfl (lv_at hl 0 rfl) ?_
        refine fg_M_23 C hw hc0 d_M_of_64 ?_
        refine lv_iload_n hx hb d_M_of_67 rfl (lv_at hl 1 rfl) ?_
        refine gde h (fun g5 h => ?_)
        refine ldI (n := 6) C hw tM_2 (by decide) g5 d_M_of_68 ?_
        exact retI C hw rfl (Option.some.inj h) d_M_of_69
      · replace h := ifn b4 h
        by_cases b6 : p2 = 2
        · replace h := ifp b6 h
          refine swIn (k := 2) (tgt := 70) C b6 d_M_of_11 (by decide) rfl (by decide) ?_
          refine lv_aload_n hx hb d_M_of_70 rfl (lv_at hl 0 rfl) ?_
          refine fg_M_26 C hw hc0 d_M_of_71 ?_
          refine lv_iload_n hx hb d_M_of_74 rfl (lv_at hl 1 rfl) ?_
          refine gde h (fun g7 h => ?_)
          refine ldI (n := 6) C hw tM_3 (by decide) g7 d_M_of_75 ?_
          exact retI C hw rfl (Option.some.inj h) d_M_of_76
        · replace h := ifn b6 h
          by_cases b8 : p2 = 3
          · replace h := ifp b8 h
            refine swIn (k := 3) (tgt := 77) C b8 d_M_of_11 (by decide) rfl (by decide) ?_
            refine lv_aload_n hx hb d_M_of_77 rfl (lv_at hl 0 rfl) ?_
            refine fg_M_29 C hw hc0 d_M_of_78 ?_
            refine lv_iload_n hx hb d_M_of_81 rfl (lv_at hl 1 rfl) ?_
            refine gde h (fun g9 h => ?_)
            refine ldI (n := 6) C hw tM_4 (by decide) g9 d_M_of_82 ?_
            exact retI C hw rfl (Option.some.inj h) d_M_of_83
          · replace h := ifn b8 h
            by_cases b10 : p2 = 4
            · replace h := ifp b10 h
              refine swIn (k := 4) (tgt := 84) C b10 d_M_of_11 (by decide) rfl (by decide) ?_
              refine lv_aload_n hx hb d_M_of_84 rfl (lv_at hl 0 rfl) ?_
              refine fg_M_32 C hw hc0 d_M_of_85 ?_
              refine lv_iload_n hx hb d_M_of_88 rfl (lv_at hl 1 rfl) ?_
              refine gde h (fun g11 h => ?_)
              refine ldI (n := 6) C hw tM_5 (by decide) g11 d_M_of_89 ?_
              exact retI C hw rfl (Option.some.inj h) d_M_of_90
            · replace h := ifn b10 h
              by_cases b12 : p2 = 5
              · replace h := ifp b12 h
                refine swIn (k := 5) (tgt := 91) C b12 d_M_of_11 (by decide) rfl (by decide) ?_
                refine lv_aload_n hx hb d_M_of_91 rfl (lv_at hl 0 rfl) ?_
                refine fg_M_35 C hw hc0 d_M_of_92 ?_
                refine lv_iload_n hx hb d_M_of_95 rfl (lv_at hl 1 rfl) ?_
                refine gde h (fun g13 h => ?_)
                refine ldI (n := 6) C hw tM_6 (by decide) g13 d_M_of_96 ?_
                exact retI C hw rfl (Option.some.inj h) d_M_of_97
              · replace h := ifn b12 h
                by_cases b14 : p2 = 6
                · replace h := ifp b14 h
                  refine swIn (k := 6) (tgt := 98) C b14 d_M_of_11 (by decide) rfl (by decide) ?_
                  refine lv_aload_n hx hb d_M_of_98 rfl (lv_at hl 0 rfl) ?_
                  refine lv_iload_n hx hb d_M_of_99 rfl (lv_at hl 1 rfl) ?_
                  refine bnd h (fun q15 k16 h => ?_)
                  refine clI C hw (invV (As := [.int p1]) C hw (c_M_wantsOf g c0 hc0 p1 σ q15 k16 l) rfl wc_M_292 nd_M_wantsOf ⟨by decide, by decide⟩ (rc_M C hw hc0) rfl hl.1 rfl (Nat.le_of_ble_eq_true rfl) d_M_of_100 ⟨Nat.le_refl _, Nat.le_refl _⟩) (fun H locs hw => ?_)
                  exact retI C hw rfl (Option.some.inj h) d_M_of_103
                · replace h := ifn b14 h
                  by_cases b17 : p2 = 7
                  · replace h := ifp b17 h
                    refine swIn (k := 7) (tgt := 104) C b17 d_M_of_11 (by decide) rfl (by decide) ?_
                    refine lv_aload_n hx hb d_M_of_104 rfl (lv_at hl 0 rfl) ?_
                    refine lv_iconst (v := 3) hx hb d_M_of_105 (by decide) ?_
                    refine lv_iload_n hx hb d_M_of_106 rfl (lv_at hl 1 rfl) ?_
                    refine bnd h (fun q18 k19 h => ?_)
                    refine clI C hw (invV (As := [.int 3, .int p1]) C hw (c_M_sumOf g c0 hc0 3 p1 σ q18 k19 l) rfl wc_M_289 nd_M_sumOf ⟨by decide, by decide⟩ (rc_M C hw hc0) rfl hl.1 rfl (Nat.le_of_ble_eq_true rfl) d_M_of_107 ⟨Nat.le_refl _, Nat.le_refl _⟩) (fun H locs hw => ?_)
                    exact retI C hw rfl (Option.some.inj h) d_M_of_110
                  · replace h := ifn b17 h
                    refine swOut (tgt := 111) C d_M_of_11 (fun z9 l9 h9 e9 => ?_) (by decide) ?_
                    · have e10 : z9 = 0 ∨ z9 = 1 ∨ z9 = 2 ∨ z9 = 3 ∨ z9 = 4 ∨ z9 = 5 ∨ z9 = 6 ∨ z9 = 7 := by omega
                      rcases e10 with e10 | e10 | e10 | e10 | e10 | e10 | e10 | e10
                      · exact lv_neT b2 (by decide) (e9.trans e10)
                      · exact lv_neT b4 (by decide) (e9.trans e10)
                      · exact lv_neT b6 (by decide) (e9.trans e10)
                      · exact lv_neT b8 (by decide) (e9.trans e10)
                      · exact lv_neT b10 (by decide) (e9.trans e10)
                      · exact lv_neT b12 (by decide) (e9.trans e10)
                      · exact lv_neT b14 (by decide) (e9.trans e10)
                      · exact lv_neT b17 (by decide) (e9.trans e10)
                    · refine lv_iconst (v := (-1)) hx hb d_M_of_111 (by decide) ?_
                      exact retI C hw rfl (Option.some.inj h) d_M_of_112
  · replace h := ifp b1 h
    refine lv_iconst (v := (-1)) hx hb d_M_of_8 (by decide) ?_
    exact retI C hw rfl (Option.some.inj h) d_M_of_9
def f_M_sum_l4 : Nat → Nat → Int32 → Int32 → Int32 → St → Option (Int32)
  | 0, _, _, _, _, _ => none
  | n + 1, c0, x1, x2, x3, σ => (if (vI σ c0 0) ≤ x3 then some x2 else (if x1 = 0 then (if ok x3 6 = true then (f_M_sum_l4 n c0 x1 (x2 + (vJ σ 5 (nx x3))) (x3 + 1) σ) else none) else (if ok x3 6 = true then (f_M_sum_l4 n c0 x1 (x2 + (vJ σ 6 (nx x3))) (x3 + 1) σ) else none)))
def f_M_sum (c0 : Nat) (p1 : Int32) (σ : St) : Option (Int32) := ((f_M_sum_l4 FU c0 p1 0 0 σ).bind fun x_6 => some x_6)
set_option maxHeartbeats 400000 in
set_option maxRecDepth 20000 in
theorem c_M_sum (g : GX) (c0 : Nat) (hc0 : tg BM c0 20) (p1 : Int32) (σ : St) (q : Int32) (h : f_M_sum c0 p1 σ = some q) (l : Launch) : CT BM l y_M_sum (v_M_sum :: lwG) 1 [.ref (g.2.1 c0), .int p1] g σ (QI BM g (q, σ)) := by
  refine mkC (cc := b_M_sum) (maxL := 4) (ret := (some .int)) rfl (by decide) rfl (Nat.le_of_ble_eq_true rfl) ?_
  intro p e s m args below meth c A ls C hl hw
  obtain ⟨hx, hb, hr, hml, hown, hts, hK, hE, hA, hlk⟩ := id C
  replace hl : lv_has ls 4 [(0, .ref (g.2.1 c0)), (1, .int p1)] := hl
  obtain ⟨H, hH⟩ : ∃ z, z = s.heap := ⟨_, rfl⟩
  rw [← hH] at hw ⊢
  obtain ⟨locs, hlo⟩ : ∃ z : List Loc, z = [] := ⟨_, rfl⟩
  rw [← hlo] at hw ⊢
  unfold f_M_sum at h
  refine lv_iconst (v := 0) hx hb d_M_sum_0 (by decide) ?_
  refine lv_istore_n (lv' := [(2, .int 0), (0, .ref (g.2.1 c0)), (1, .int p1)]) hx hb d_M_sum_1 rfl hl (by decide) rfl (fun ls hl => ?_)
  refine lv_iconst (v := 0) hx hb d_M_sum_2 (by decide) ?_
  refine lv_istore_n (lv' := [(3, .int 0), (2, .int 0), (0, .ref (g.2.1 c0)), (1, .int p1)]) hx hb d_M_sum_3 rfl hl (by decide) rfl (fun ls hl => ?_)
  have L1 : ∀ (c0 : Nat) (hc0 : tg BM c0 20) (x1 : Int32) (n : Nat) (x2 : Int32) (x3 : Int32) (σ : St) (H : Heap) (locs : List Loc) (ls : Array Slot), HW BM g A s σ H locs → lv_has ls 4 [(0, .ref (g.2.1 c0)), (1, .int x1), (2, .int x2), (3, .int x3)] → ∀ (ex : Int32), f_M_sum_l4 n c0 x1 x2 x3 σ = some ex → (∀ (y : Int32), ex = y → ∀ (H : Heap) (locs : List Loc) (ls : Array Slot), HW BM g A s σ H locs → lv_has ls 4 [(2, .int y)] → W p l e (rmL 1) s m args below meth c H locs 0 0 (MQ below (QI BM g (q, σ) A) args s 0 0 A) (F0 m 40 ls [])) → (True) → W p l e (rmL 1) s m args below meth c H locs 0 0 (MQ below (QI BM g (q, σ) A) args s 0 0 A) (F0 m 4 ls []) := by
    intro c0 hc0 x1 n
    induction n with
    | zero =>
      intro x2 x3 σ H locs ls hw hl ex h kx1 kr1
      cases h
    | succ n ih =>
      intro x2 x3 σ H locs ls hw hl ex h kx1 kr1
      rw [f_M_sum_l4] at h
      refine lv_iload_n hx hb d_M_sum_4 rfl (lv_at hl 3 rfl) ?_
      refine lv_aload_n hx hb d_M_sum_5 rfl (lv_at hl 0 rfl) ?_
      refine fg_M_7 C hw hc0 d_M_sum_6 ?_
      refine lv_icmp_ge (tgt := 40) hx hb d_M_sum_9 (by decide) (fun b2 => ?_) (fun b2 => ?_)
      · replace h := ifp b2 h
        exact kx1 _ (Option.some.inj h).symm H locs ls hw (lv_sub hl [2] rfl)
      · replace h := ifn b2 h
        refine lv_iload_n hx hb d_M_sum_12 rfl (lv_at hl 2 rfl) ?_
        refine lv_iload_n hx hb d_M_sum_13 rfl (lv_at hl 1 rfl) ?_
        refine lv_if_eq (tgt := 26) hx hb d_M_sum_14 (by decide) (fun b3 => ?_) (fun b3 => ?_)
        · replace h := ifp b3 h
          refine lv_aload_n hx hb d_M_sum_26 rfl (lv_at hl 0 rfl) ?_
          refine fg_M_32 C hw hc0 d_M_sum_27 ?_
          refine lv_iload_n hx hb d_M_sum_30 rfl (lv_at hl 3 rfl) ?_
          refine gde h (fun g4 h => ?_)
          refine ldI (n := 6) C hw tM_5 (by decide) g4 d_M_sum_31 ?_
          refine lv_iadd hx hb d_M_sum_32 ?_
          refine lv_istore_n (lv' := [(2, .int (x2 + (vJ σ 5 (nx x3)))), (0, .ref (g.2.1 c0)), (1, .int x1), (3, .int x3)]) hx hb d_M_sum_33 rfl hl (by decide) rfl (fun ls hl => ?_)
          refine lv_iinc (v := (x3 + 1)) (lv' := [(3, .int (x3 + 1)), (2, .int (x2 + (vJ σ 5 (nx x3)))), (0, .ref (g.2.1 c0)), (1, .int x1)]) hx hb d_M_sum_34 hl (k := 3) rfl rfl (by decide) rfl (fun ls hl => ?_)
          refine lv_goto (tgt := 4) hx hb d_M_sum_37 (by decide) ?_
          exact ih (x2 + (vJ σ 5 (nx x3))) (x3 + 1) σ H locs ls hw (lv_sub hl [2, 3, 1, 0] rfl) ex h kx1 kr1
        · replace h := ifn b3 h
          refine lv_aload_n hx hb d_M_sum_17 rfl (lv_at hl 0 rfl) ?_
          refine fg_M_35 C hw hc0 d_M_sum_18 ?_
          refine lv_iload_n hx hb d_M_sum_21 rfl (lv_at hl 3 rfl) ?_
          refine gde h (fun g5 h => ?_)
          refine ldI (n := 6) C hw tM_6 (by decide) g5 d_M_sum_22 ?_
          refine lv_goto (tgt := 32) hx hb d_M_sum_23 (by decide) ?_
          refine lv_iadd hx hb d_M_sum_32 ?_
          refine lv_istore_n (lv' := [(2, .int (x2 + (vJ σ 6 (nx x3)))), (0, .ref (g.2.1 c0)), (1, .int x1), (3, .int x3)]) hx hb d_M_sum_33 rfl hl (by decide) rfl (fun ls hl => ?_)
          refine lv_iinc (v := (x3 + 1)) (lv' := [(3, .int (x3 + 1)), (2, .int (x2 + (vJ σ 6 (nx x3)))), (0, .ref (g.2.1 c0)), (1, .int x1)]) hx hb d_M_sum_34 hl (k := 3) rfl rfl (by decide) rfl (fun ls hl => ?_)
          refine lv_goto (tgt := 4) hx hb d_M_sum_37 (by decide) ?_
          exact ih (x2 + (vJ σ 6 (nx x3))) (x3 + 1) σ H locs ls hw (lv_sub hl [2, 3, 1, 0] rfl) ex h kx1 kr1
  refine bnd h (fun x_6 k7 h => ?_)
  refine L1 c0 hc0 p1 FU 0 0 σ H locs ls hw (lv_sub hl [2, 3, 1, 0] rfl) x_6 k7 (fun y9 e10 H locs ls hw hl => ?_) trivial
  subst e10
  refine lv_iload_n hx hb d_M_sum_40 rfl (lv_at hl 0 rfl) ?_
  exact retI C hw rfl (congrArg (fun z => (z, σ)) (Option.some.inj h)) d_M_sum_41
def f_M_told (c0 : Nat) (p1 : Int32) (σ : St) : Option (Int32) := (if p1 = 0 then some (vI σ c0 1) else (if p1 = 1 then some (vI σ c0 2) else (if p1 = 2 then ((f_M_leastNow c0 σ).bind fun q4 => some q4) else (if p1 = 3 then ((f_M_fullNow c0 σ).bind fun q7 => some q7) else (if p1 = 4 then ((f_M_sum c0 0 σ).bind fun q10 => some q10) else some (-1))))))
set_option maxHeartbeats 400000 in
set_option maxRecDepth 20000 in
theorem c_M_told (g : GX) (c0 : Nat) (hc0 : tg BM c0 20) (p1 : Int32) (σ : St) (q : Int32) (h : f_M_told c0 p1 σ = some q) (l : Launch) : CT BM l y_M_told (v_M_told :: lwG) 4 [.ref (g.2.1 c0), .int p1] g σ (QI BM g (q, σ)) := by
  refine mkC (cc := b_M_told) (maxL := 2) (ret := (some .int)) rfl (by decide) rfl (Nat.le_of_ble_eq_true rfl) ?_
  intro p e s m args below meth c A ls C hl hw
  obtain ⟨hx, hb, hr, hml, hown, hts, hK, hE, hA, hlk⟩ := id C
  replace hl : lv_has ls 2 [(0, .ref (g.2.1 c0)), (1, .int p1)] := hl
  obtain ⟨H, hH⟩ : ∃ z, z = s.heap := ⟨_, rfl⟩
  rw [← hH] at hw ⊢
  obtain ⟨locs, hlo⟩ : ∃ z : List Loc, z = [] := ⟨_, rfl⟩
  rw [← hlo] at hw ⊢
  unfold f_M_told at h
  refine lv_iload_n hx hb d_M_told_0 rfl (lv_at hl 1 rfl) ?_
  by_cases b1 : p1 = 0
  · replace h := ifp b1 h
    refine swIn (k := 0) (tgt := 36) C b1 d_M_told_1 (by decide) rfl (by decide) ?_
    refine lv_aload_n hx hb d_M_told_36 rfl (lv_at hl 0 rfl) ?_
    refine fg_M_13 C hw hc0 d_M_told_37 ?_
    exact retI C hw rfl (congrArg (fun z => (z, σ)) (Option.some.inj h)) d_M_told_40
  · replace h := ifn b1 h
    by_cases b2 : p1 = 1
    · replace h := ifp b2 h
      refine swIn (k := 1) (tgt := 41) C b2 d_M_told_1 (by decide) rfl (by decide) ?_
      refine lv_aload_n hx hb d_M_told_41 rfl (lv_at hl 0 rfl) ?_
      refine fg_M_16 C hw hc0 d_M_told_42 ?_
      exact retI C hw rfl (congrArg (fun z => (z, σ)) (Option.some.inj h)) d_M_told_45
    · replace h := ifn b2 h
      by_cases b3 : p1 = 2
      · replace h := ifp b3 h
        refine swIn (k := 2) (tgt := 46) C b3 d_M_told_1 (by decide) rfl (by decide) ?_
        refine lv_aload_n hx hb d_M_told_46 rfl (lv_at hl 0 rfl) ?_
        refine bnd h (fun q4 k5 h => ?_)
        refine clI0 (v := q4) C hw (invV (As := []) C hw (c_M_leastNow g c0 hc0 σ q4 k5 l) rfl wc_M_295 nd_M_leastNow ⟨by decide, by decide⟩ (rc_M C hw hc0) rfl hl.1 rfl (Nat.le_of_ble_eq_true rfl) d_M_told_47 ⟨Nat.le_refl _, Nat.le_refl _⟩) (fun H locs hw => ?_)
        exact retI C hw rfl (congrArg (fun z => (z, σ)) (Option.some.inj h)) d_M_told_50
      · replace h := ifn b3 h
        by_cases b6 : p1 = 3
        · replace h := ifp b6 h
          refine swIn (k := 3) (tgt := 51) C b6 d_M_told_1 (by decide) rfl (by decide) ?_
          refine lv_aload_n hx hb d_M_told_51 rfl (lv_at hl 0 rfl) ?_
          refine bnd h (fun q7 k8 h => ?_)
          refine clI0 (v := q7) C hw (invV (As := []) C hw (c_M_fullNow g c0 hc0 σ q7 k8 l) rfl wc_M_298 nd_M_fullNow ⟨by decide, by decide⟩ (rc_M C hw hc0) rfl hl.1 rfl (Nat.le_of_ble_eq_true rfl) d_M_told_52 ⟨Nat.le_refl _, Nat.le_refl _⟩) (fun H locs hw => ?_)
          exact retI C hw rfl (congrArg (fun z => (z, σ)) (Option.some.inj h)) d_M_told_55
        · replace h := ifn b6 h
          by_cases b9 : p1 = 4
          · replace h := ifp b9 h
            refine swIn (k := 4) (tgt := 56) C b9 d_M_told_1 (by decide) rfl (by decide) ?_
            refine lv_aload_n hx hb d_M_told_56 rfl (lv_at hl 0 rfl) ?_
            refine lv_iconst (v := 0) hx hb d_M_told_57 (by decide) ?_
            refine bnd h (fun q10 k11 h => ?_)
            refine clI0 (v := q10) C hw (invV (As := [.int 0]) C hw (c_M_sum g c0 hc0 0 σ q10 k11 l) rfl wc_M_301 nd_M_sum ⟨by decide, by decide⟩ (rc_M C hw hc0) rfl hl.1 rfl (Nat.le_of_ble_eq_true rfl) d_M_told_58 ⟨Nat.le_refl _, Nat.le_refl _⟩) (fun H locs hw => ?_)
            exact retI C hw rfl (congrArg (fun z => (z, σ)) (Option.some.inj h)) d_M_told_61
          · replace h := ifn b9 h
            refine swOut (tgt := 62) C d_M_told_1 (fun z9 l9 h9 e9 => ?_) (by decide) ?_
            · have e10 : z9 = 0 ∨ z9 = 1 ∨ z9 = 2 ∨ z9 = 3 ∨ z9 = 4 := by omega
              rcases e10 with e10 | e10 | e10 | e10 | e10
              · exact lv_neT b1 (by decide) (e9.trans e10)
              · exact lv_neT b2 (by decide) (e9.trans e10)
              · exact lv_neT b3 (by decide) (e9.trans e10)
              · exact lv_neT b6 (by decide) (e9.trans e10)
              · exact lv_neT b9 (by decide) (e9.trans e10)
            · refine lv_iconst (v := (-1)) hx hb d_M_told_62 (by decide) ?_
              exact retI C hw rfl (congrArg (fun z => (z, σ)) (Option.some.inj h)) d_M_told_63
def f_M_fetches (c0 : Nat) (p1 : Int32) (σ : St) : Option (St) := (if ok p1 6 = true then ((f_M_sumOf c0 3 p1 σ).bind fun q2 => (if ok p1 6 = true then (st (sJ q2.2 6 (upd (vJ q2.2 6) (nx p1) ((vJ σ 6 (nx p1)) + q2.1))) fun s5 => ((f_M_fullNow c0 s5).bind fun q6 => (st (sI s5 c0 1 q6) fun s9 => (if ok p1 6 = true then (if ok p1 6 = true then (st (sJ s9 5 (upd (vJ s9 5) (nx p1) ((vJ s9 5 (nx p1)) + 1))) fun s12 => some s12) else none) else none)))) else none)) else none)
set_option maxHeartbeats 400000 in
set_option maxRecDepth 20000 in
theorem c_M_fetches (g : GX) (c0 : Nat) (hc0 : tg BM c0 20) (p1 : Int32) (σ : St) (q : St) (h : f_M_fetches c0 p1 σ = some q) (l : Launch) : CT BM l y_M_fetches (v_M_fetches :: lwG) 4 [.ref (g.2.1 c0), .int p1] g σ (QV BM g q) := by
  refine mkC (cc := b_M_fetches) (maxL := 2) (ret := none) rfl (by decide) rfl (Nat.le_of_ble_eq_true rfl) ?_
  intro p e s m args below meth c A ls C hl hw
  obtain ⟨hx, hb, hr, hml, hown, hts, hK, hE, hA, hlk⟩ := id C
  replace hl : lv_has ls 2 [(0, .ref (g.2.1 c0)), (1, .int p1)] := hl
  obtain ⟨H, hH⟩ : ∃ z, z = s.heap := ⟨_, rfl⟩
  rw [← hH] at hw ⊢
  obtain ⟨locs, hlo⟩ : ∃ z : List Loc, z = [] := ⟨_, rfl⟩
  rw [← hlo] at hw ⊢
  unfold f_M_fetches at h
  refine lv_aload_n hx hb d_M_fetches_0 rfl (lv_at hl 0 rfl) ?_
  refine fg_M_35 C hw hc0 d_M_fetches_1 ?_
  refine lv_iload_n hx hb d_M_fetches_4 rfl (lv_at hl 1 rfl) ?_
  refine lv_dup2_11 hx hb d_M_fetches_5 rfl rfl ?_
  refine gde h (fun g1 h => ?_)
  refine ldI (n := 6) C hw tM_6 (by decide) g1 d_M_fetches_6 ?_
  refine lv_aload_n hx hb d_M_fetches_7 rfl (lv_at hl 0 rfl) ?_
  refine lv_iconst (v := 3) hx hb d_M_fetches_8 (by decide) ?_
  refine lv_iload_n hx hb d_M_fetches_9 rfl (lv_at hl 1 rfl) ?_
  refine bnd h (fun q2 k3 h => ?_)
  refine clI C hw (invV (As := [.int 3, .int p1]) C hw (c_M_sumOf g c0 hc0 3 p1 σ q2 k3 l) rfl wc_M_289 nd_M_sumOf ⟨by decide, by decide⟩ (rc_M C hw hc0) rfl hl.1 rfl (Nat.le_of_ble_eq_true rfl) d_M_fetches_10 ⟨Nat.le_refl _, Nat.le_refl _⟩) (fun H locs hw => ?_)
  refine lv_iadd hx hb d_M_fetches_13 ?_
  refine gde h (fun g4 h => ?_)
  refine ste h (fun s5 e15 h => ?_)
  refine stI (n := 6) C hw tM_6 (by decide) g4 d_M_fetches_14 (fun H locs hw => ?_)
  replace hw := HWe hw e15
  refine lv_aload_n hx hb d_M_fetches_15 rfl (lv_at hl 0 rfl) ?_
  refine lv_aload_n hx hb d_M_fetches_16 rfl (lv_at hl 0 rfl) ?_
  refine bnd h (fun q6 k7 h => ?_)
  refine clI0 (v := q6) C hw (invV (As := []) C hw (c_M_fullNow g c0 hc0 s5 q6 k7 l) rfl wc_M_298 nd_M_fullNow ⟨by decide, by decide⟩ (rc_M C hw hc0) rfl hl.1 rfl (Nat.le_of_ble_eq_true rfl) d_M_fetches_17 ⟨Nat.le_refl _, Nat.le_refl _⟩) (fun H locs hw => ?_)
  refine ste h (fun s9 e14 h => ?_)
  refine fp_M_13 C hw hc0 d_M_fetches_20 (fun H locs hw => ?_)
  replace hw := HWe hw e14
  refine lv_aload_n hx hb d_M_fetches_23 rfl (lv_at hl 0 rfl) ?_
  refine fg_M_32 C hw hc0 d_M_fetches_24 ?_
  refine lv_iload_n hx hb d_M_fetches_27 rfl (lv_at hl 1 rfl) ?_
  refine lv_dup2_11 hx hb d_M_fetches_28 rfl rfl ?_
  refine gde h (fun g10 h => ?_)
  refine ldI (n := 6) C hw tM_5 (by decide) g10 d_M_fetches_29 ?_
  refine lv_iconst (v := 1) hx hb d_M_fetches_30 (by decide) ?_
  refine lv_iadd hx hb d_M_fetches_31 ?_
  refine gde h (fun g11 h => ?_)
  refine ste h (fun s12 e13 h => ?_)
  refine stI (n := 6) C hw tM_5 (by decide) g11 d_M_fetches_32 (fun H locs hw => ?_)
  replace hw := HWe hw e13
  exact retV C hw rfl (Option.some.inj h) d_M_fetches_33
def f_M_lesser (c0 : Nat) (p1 : Int32) (p2 : Int32) : Int32 := (if p2 ≤ p1 then p2 else p1)
set_option maxHeartbeats 400000 in
set_option maxRecDepth 20000 in
theorem c_M_lesser (g : GX) (c0 : Nat) (hc0 : tg BM c0 20) (p1 : Int32) (p2 : Int32) (σ : St) (l : Launch) : CT BM l y_M_lesser (v_M_lesser :: lwG) 1 [.ref (g.2.1 c0), .int p1, .int p2] g σ (QI BM g (f_M_lesser c0 p1 p2, σ)) := by
  generalize h : f_M_lesser c0 p1 p2 = q
  refine mkC (cc := b_M_lesser) (maxL := 3) (ret := (some .int)) rfl (by decide) rfl (Nat.le_of_ble_eq_true rfl) ?_
  intro p e s m args below meth c A ls C hl hw
  obtain ⟨hx, hb, hr, hml, hown, hts, hK, hE, hA, hlk⟩ := id C
  replace hl : lv_has ls 3 [(0, .ref (g.2.1 c0)), (1, .int p1), (2, .int p2)] := hl
  obtain ⟨H, hH⟩ : ∃ z, z = s.heap := ⟨_, rfl⟩
  rw [← hH] at hw ⊢
  obtain ⟨locs, hlo⟩ : ∃ z : List Loc, z = [] := ⟨_, rfl⟩
  rw [← hlo] at hw ⊢
  unfold f_M_lesser at h
  refine lv_iload_n hx hb d_M_lesser_0 rfl (lv_at hl 1 rfl) ?_
  refine lv_iload_n hx hb d_M_lesser_1 rfl (lv_at hl 2 rfl) ?_
  refine lv_icmp_ge (tgt := 9) hx hb d_M_lesser_2 (by decide) (fun b1 => ?_) (fun b1 => ?_)
  · replace h := ifp b1 h
    refine lv_iload_n hx hb d_M_lesser_9 rfl (lv_at hl 2 rfl) ?_
    exact retI C hw rfl (congrArg (fun z => (z, σ)) h) d_M_lesser_10
  · replace h := ifn b1 h
    refine lv_iload_n hx hb d_M_lesser_5 rfl (lv_at hl 1 rfl) ?_
    refine lv_goto (tgt := 10) hx hb d_M_lesser_6 (by decide) ?_
    exact retI C hw rfl (congrArg (fun z => (z, σ)) h) d_M_lesser_10
def f_M_isFirst (c0 : Nat) (p1 : Int32) (p2 : Int32) (σ : St) : Option (Bool) := (if ok p1 6 = true then (if (vJ σ 1 (nx p1)) = 3 then ((f_M_leastNow c0 σ).bind fun q7 => (if (p2 + q7) ≤ (vI σ c0 1) then some false else some true)) else (if ok p1 6 = true then (if (vJ σ 1 (nx p1)) = 6 then (if ok ((4 * p1) + ((vI σ c0 2) % 4)) 24 = true then (if (10 * (vJ σ 7 (nx ((4 * p1) + ((vI σ c0 2) % 4))))) ≤ (vI σ c0 1) then some false else some true) else none) else some false) else none)) else none)
set_option maxHeartbeats 400000 in
set_option maxRecDepth 20000 in
theorem c_M_isFirst (g : GX) (c0 : Nat) (hc0 : tg BM c0 20) (p1 : Int32) (p2 : Int32) (σ : St) (q : Bool) (h : f_M_isFirst c0 p1 p2 σ = some q) (l : Launch) : CT BM l y_M_isFirst (v_M_isFirst :: lwG) 4 [.ref (g.2.1 c0), .int p1, .int p2] g σ (QZ BM g (q, σ)) := by
  refine mkC (cc := b_M_isFirst) (maxL := 3) (ret := (some .boolean)) rfl (by decide) rfl (Nat.le_of_ble_eq_true rfl) ?_
  intro p e s m args below meth c A ls C hl hw
  obtain ⟨hx, hb, hr, hml, hown, hts, hK, hE, hA, hlk⟩ := id C
  replace hl : lv_has ls 3 [(0, .ref (g.2.1 c0)), (1, .int p1), (2, .int p2)] := hl
  obtain ⟨H, hH⟩ : ∃ z, z = s.heap := ⟨_, rfl⟩
  rw [← hH] at hw ⊢
  obtain ⟨locs, hlo⟩ : ∃ z : List Loc, z = [] := ⟨_, rfl⟩
  rw [← hlo] at hw ⊢
  unfold f_M_isFirst at h
  refine lv_aload_n hx hb d_M_isFirst_0 rfl (lv_at hl 0 rfl) ?_
  refine fg_M_19 C hw hc0 d_M_isFirst_1 ?_
  refine lv_iload_n hx hb d_M_isFirst_4 rfl (lv_at hl 1 rfl) ?_
  refine gde h (fun g1 h => ?_)
  refine ldI (n := 6) C hw tM_1 (by decide) g1 d_M_isFirst_5 ?_
  refine lv_iconst (v := 3) hx hb d_M_isFirst_6 (by decide) ?_
  refine lv_icmp_ne (tgt := 29) hx hb d_M_isFirst_7 (by decide) (fun b2 => ?_) (fun b2 => ?_)
  · replace h := ifn b2 h
    refine lv_aload_n hx hb d_M_isFirst_29 rfl (lv_at hl 0 rfl) ?_
    refine fg_M_19 C hw hc0 d_M_isFirst_30 ?_
    refine lv_iload_n hx hb d_M_isFirst_33 rfl (lv_at hl 1 rfl) ?_
    refine gde h (fun g3 h => ?_)
    refine ldI (n := 6) C hw tM_1 (by decide) g3 d_M_isFirst_34 ?_
    refine lv_bipush (v := 6) hx hb d_M_isFirst_35 (by decide) ?_
    refine lv_icmp_ne (tgt := 69) hx hb d_M_isFirst_37 (by decide) (fun b4 => ?_) (fun b4 => ?_)
    · replace h := ifn b4 h
      refine lv_iconst (v := 0) hx hb d_M_isFirst_69 (by decide) ?_
      exact retZ (b := false) C hw rfl rfl (congrArg (fun z => (z, σ)) (Option.some.inj h)) d_M_isFirst_70
    · replace h := ifp b4 h
      refine lv_aload_n hx hb d_M_isFirst_40 rfl (lv_at hl 0 rfl) ?_
      refine fg_M_13 C hw hc0 d_M_isFirst_41 ?_
      refine lv_bipush (v := 10) hx hb d_M_isFirst_44 (by decide) ?_
      refine lv_aload_n hx hb d_M_isFirst_46 rfl (lv_at hl 0 rfl) ?_
      refine fg_M_38 C hw hc0 d_M_isFirst_47 ?_
      refine lv_iconst (v := 4) hx hb d_M_isFirst_50 (by decide) ?_
      refine lv_iload_n hx hb d_M_isFirst_51 rfl (lv_at hl 1 rfl) ?_
      refine lv_imul hx hb d_M_isFirst_52 ?_
      refine lv_aload_n hx hb d_M_isFirst_53 rfl (lv_at hl 0 rfl) ?_
      refine fg_M_16 C hw hc0 d_M_isFirst_54 ?_
      refine lv_iconst (v := 4) hx hb d_M_isFirst_57 (by decide) ?_
      refine remR C (by decide) d_M_isFirst_58 ?_
      refine lv_iadd hx hb d_M_isFirst_59 ?_
      refine gde h (fun g5 h => ?_)
      refine ldI (n := 24) C hw tM_7 (by decide) g5 d_M_isFirst_60 ?_
      refine lv_imul hx hb d_M_isFirst_61 ?_
      refine lv_icmp_ge (tgt := 69) hx hb d_M_isFirst_62 (by decide) (fun b6 => ?_) (fun b6 => ?_)
      · replace h := ifp b6 h
        refine lv_iconst (v := 0) hx hb d_M_isFirst_69 (by decide) ?_
        exact retZ (b := false) C hw rfl rfl (congrArg (fun z => (z, σ)) (Option.some.inj h)) d_M_isFirst_70
      · replace h := ifn b6 h
        refine lv_iconst (v := 1) hx hb d_M_isFirst_65 (by decide) ?_
        refine lv_goto (tgt := 70) hx hb d_M_isFirst_66 (by decide) ?_
        exact retZ (b := true) C hw rfl rfl (congrArg (fun z => (z, σ)) (Option.some.inj h)) d_M_isFirst_70
  · replace h := ifp b2 h
    refine lv_aload_n hx hb d_M_isFirst_10 rfl (lv_at hl 0 rfl) ?_
    refine fg_M_13 C hw hc0 d_M_isFirst_11 ?_
    refine lv_iload_n hx hb d_M_isFirst_14 rfl (lv_at hl 2 rfl) ?_
    refine lv_aload_n hx hb d_M_isFirst_15 rfl (lv_at hl 0 rfl) ?_
    refine bnd h (fun q7 k8 h => ?_)
    refine clI0 (v := q7) C hw (invV (As := []) C hw (c_M_leastNow g c0 hc0 σ q7 k8 l) rfl wc_M_295 nd_M_leastNow ⟨by decide, by decide⟩ (rc_M C hw hc0) rfl hl.1 rfl (Nat.le_of_ble_eq_true rfl) d_M_isFirst_16 ⟨Nat.le_refl _, Nat.le_refl _⟩) (fun H locs hw => ?_)
    refine lv_iadd hx hb d_M_isFirst_19 ?_
    refine lv_icmp_ge (tgt := 27) hx hb d_M_isFirst_20 (by decide) (fun b9 => ?_) (fun b9 => ?_)
    · replace h := ifp b9 h
      refine lv_iconst (v := 0) hx hb d_M_isFirst_27 (by decide) ?_
      exact retZ (b := false) C hw rfl rfl (congrArg (fun z => (z, σ)) (Option.some.inj h)) d_M_isFirst_28
    · replace h := ifn b9 h
      refine lv_iconst (v := 1) hx hb d_M_isFirst_23 (by decide) ?_
      refine lv_goto (tgt := 28) hx hb d_M_isFirst_24 (by decide) ?_
      exact retZ (b := true) C hw rfl rfl (congrArg (fun z => (z, σ)) (Option.some.inj h)) d_M_isFirst_28
def f_M_politely (c0 : Nat) (p1 : Int32) (σ : St) : Option (Int32) := ((f_M_leastNow c0 σ).bind fun q1 => (if 0 ≤ ((vI σ c0 1) - q1) then some (f_M_lesser c0 p1 ((vI σ c0 1) - q1)) else some 0))
set_option maxHeartbeats 400000 in
set_option maxRecDepth 20000 in
theorem c_M_politely (g : GX) (c0 : Nat) (hc0 : tg BM c0 20) (p1 : Int32) (σ : St) (q : Int32) (h : f_M_politely c0 p1 σ = some q) (l : Launch) : CT BM l y_M_politely (v_M_politely :: lwG) 4 [.ref (g.2.1 c0), .int p1] g σ (QI BM g (q, σ)) := by
  refine mkC (cc := b_M_politely) (maxL := 3) (ret := (some .int)) rfl (by decide) rfl (Nat.le_of_ble_eq_true rfl) ?_
  intro p e s m args below meth c A ls C hl hw
  obtain ⟨hx, hb, hr, hml, hown, hts, hK, hE, hA, hlk⟩ := id C
  replace hl : lv_has ls 3 [(0, .ref (g.2.1 c0)), (1, .int p1)] := hl
  obtain ⟨H, hH⟩ : ∃ z, z = s.heap := ⟨_, rfl⟩
  rw [← hH] at hw ⊢
  obtain ⟨locs, hlo⟩ : ∃ z : List Loc, z = [] := ⟨_, rfl⟩
  rw [← hlo] at hw ⊢
  unfold f_M_politely at h
  refine lv_aload_n hx hb d_M_politely_0 rfl (lv_at hl 0 rfl) ?_
  refine fg_M_13 C hw hc0 d_M_politely_1 ?_
  refine lv_aload_n hx hb d_M_politely_4 rfl (lv_at hl 0 rfl) ?_
  refine bnd h (fun q1 k2 h => ?_)
  refine clI0 (v := q1) C hw (invV (As := []) C hw (c_M_leastNow g c0 hc0 σ q1 k2 l) rfl wc_M_295 nd_M_leastNow ⟨by decide, by decide⟩ (rc_M C hw hc0) rfl hl.1 rfl (Nat.le_of_ble_eq_true rfl) d_M_politely_5 ⟨Nat.le_refl _, Nat.le_refl _⟩) (fun H locs hw => ?_)
  refine lv_isub hx hb d_M_politely_8 ?_
  refine lv_istore_n (lv' := [(2, .int ((vI σ c0 1) - q1)), (0, .ref (g.2.1 c0)), (1, .int p1)]) hx hb d_M_politely_9 rfl hl (by decide) rfl (fun ls hl => ?_)
  refine lv_iload_n hx hb d_M_politely_10 rfl (lv_at hl 0 rfl) ?_
  refine lv_if_ge (tgt := 18) hx hb d_M_politely_11 (by decide) (fun b3 => ?_) (fun b3 => ?_)
  · replace h := ifp b3 h
    refine lv_aload_n hx hb d_M_politely_18 rfl (lv_at hl 1 rfl) ?_
    refine lv_iload_n hx hb d_M_politely_19 rfl (lv_at hl 2 rfl) ?_
    refine lv_iload_n hx hb d_M_politely_20 rfl (lv_at hl 0 rfl) ?_
    refine clI0 (v := (f_M_lesser c0 p1 ((vI σ c0 1) - q1))) C hw (invV (As := [.int p1, .int ((vI σ c0 1) - q1)]) C hw (c_M_lesser g c0 hc0 p1 ((vI σ c0 1) - q1) σ l) rfl wc_M_305 nd_M_lesser ⟨by decide, by decide⟩ (rc_M C hw hc0) rfl hl.1 rfl (Nat.le_of_ble_eq_true rfl) d_M_politely_21 ⟨Nat.le_refl _, Nat.le_refl _⟩) (fun H locs hw => ?_)
    exact retI C hw rfl (congrArg (fun z => (z, σ)) (Option.some.inj h)) d_M_politely_24
  · replace h := ifn b3 h
    refine lv_iconst (v := 0) hx hb d_M_politely_14 (by decide) ?_
    refine lv_goto (tgt := 24) hx hb d_M_politely_15 (by decide) ?_
    exact retI C hw rfl (congrArg (fun z => (z, σ)) (Option.some.inj h)) d_M_politely_24
def f_M_amount (c0 : Nat) (p1 : Int32) (p2 : Int32) (σ : St) : Option (Int32) := (if ok p1 6 = true then (if (vJ σ 1 (nx p1)) = 1 then some (f_M_lesser c0 ((vI σ c0 1) / 2) p2) else (if (vJ σ 1 (nx p1)) = 2 then (((if (2 * p2) ≤ (vI σ c0 1) then some p2 else some (p2 / 2)) : Option (Int32)).bind fun q4 => ((f_M_politely c0 q4 σ).bind fun q10 => some q10)) else (if (vJ σ 1 (nx p1)) = 3 then ((f_M_politely c0 p2 σ).bind fun q13 => some q13) else (if (vJ σ 1 (nx p1)) = 4 then some (f_M_lesser c0 ((vI σ c0 1) / 2) (2 * p2)) else (if (vJ σ 1 (nx p1)) = 5 then some (f_M_lesser c0 (vI σ c0 1) p2) else ((f_M_politely c0 p2 σ).bind fun q17 => some q17)))))) else none)
set_option maxHeartbeats 400000 in
set_option maxRecDepth 20000 in
theorem c_M_amount (g : GX) (c0 : Nat) (hc0 : tg BM c0 20) (p1 : Int32) (p2 : Int32) (σ : St) (q : Int32) (h : f_M_amount c0 p1 p2 σ = some q) (l : Launch) : CT BM l y_M_amount (v_M_amount :: lwG) 5 [.ref (g.2.1 c0), .int p1, .int p2] g σ (QI BM g (q, σ)) := by
  refine mkC (cc := b_M_amount) (maxL := 3) (ret := (some .int)) rfl (by decide) rfl (Nat.le_of_ble_eq_true rfl) ?_
  intro p e s m args below meth c A ls C hl hw
  obtain ⟨hx, hb, hr, hml, hown, hts, hK, hE, hA, hlk⟩ := id C
  replace hl : lv_has ls 3 [(0, .ref (g.2.1 c0)), (1, .int p1), (2, .int p2)] := hl
  obtain ⟨H, hH⟩ : ∃ z, z = s.heap := ⟨_, rfl⟩
  rw [← hH] at hw ⊢
  obtain ⟨locs, hlo⟩ : ∃ z : List Loc, z = [] := ⟨_, rfl⟩
  rw [← hlo] at hw ⊢
  unfold f_M_amount at h
  refine lv_aload_n hx hb d_M_amount_0 rfl (lv_at hl 0 rfl) ?_
  refine fg_M_19 C hw hc0 d_M_amount_1 ?_
  refine lv_iload_n hx hb d_M_amount_4 rfl (lv_at hl 1 rfl) ?_
  refine gde h (fun g1 h => ?_)
  refine ldI (n := 6) C hw tM_1 (by decide) g1 d_M_amount_5 ?_
  by_cases b2 : (vJ σ 1 (nx p1)) = 1
  · replace h := ifp b2 h
    refine swIn (k := 1) (tgt := 40) C b2 d_M_amount_6 (by decide) rfl (by decide) ?_
    refine lv_aload_n hx hb d_M_amount_40 rfl (lv_at hl 0 rfl) ?_
    refine lv_aload_n hx hb d_M_amount_41 rfl (lv_at hl 0 rfl) ?_
    refine fg_M_13 C hw hc0 d_M_amount_42 ?_
    refine lv_iconst (v := 2) hx hb d_M_amount_45 (by decide) ?_
    refine lv_idiv hx hb d_M_amount_46 (by decide) ?_
    refine lv_iload_n hx hb d_M_amount_47 rfl (lv_at hl 2 rfl) ?_
    refine clI0 (v := (f_M_lesser c0 ((vI σ c0 1) / 2) p2)) C hw (invV (As := [.int ((vI σ c0 1) / 2), .int p2]) C hw (c_M_lesser g c0 hc0 ((vI σ c0 1) / 2) p2 σ l) rfl wc_M_305 nd_M_lesser ⟨by decide, by decide⟩ (rc_M C hw hc0) rfl hl.1 rfl (Nat.le_of_ble_eq_true rfl) d_M_amount_48 ⟨Nat.le_refl _, Nat.le_refl _⟩) (fun H locs hw => ?_)
    exact retI C hw rfl (congrArg (fun z => (z, σ)) (Option.some.inj h)) d_M_amount_51
  · replace h := ifn b2 h
    by_cases b3 : (vJ σ 1 (nx p1)) = 2
    · replace h := ifp b3 h
      refine swIn (k := 2) (tgt := 52) C b3 d_M_amount_6 (by decide) rfl (by decide) ?_
      refine lv_aload_n hx hb d_M_amount_52 rfl (lv_at hl 0 rfl) ?_
      refine lv_aload_n hx hb d_M_amount_53 rfl (lv_at hl 0 rfl) ?_
      refine fg_M_13 C hw hc0 d_M_amount_54 ?_
      refine lv_iconst (v := 2) hx hb d_M_amount_57 (by decide) ?_
      refine lv_iload_n hx hb d_M_amount_58 rfl (lv_at hl 2 rfl) ?_
      refine lv_imul hx hb d_M_amount_59 ?_
      refine bnd h (fun q4 h5 h => ?_)
      have J6 : ∀ (H : Heap) (locs : List Loc) (ls : Array Slot), HW BM g A s σ H locs → lv_has ls 3 [] → W p l e (rmL 5) s m args below meth c H locs 0 0 (MQ below (QI BM g (q, σ) A) args s 0 0 A) (F0 m 70 ls [.int q4, .ref (g.2.1 c0)]) := by
        intro H locs ls hw hl
        refine bnd h (fun q10 k11 h => ?_)
        refine clI0 (v := q10) C hw (invV (As := [.int q4]) C hw (c_M_politely g c0 hc0 q4 σ q10 k11 l) rfl wc_M_308 nd_M_politely ⟨by decide, by decide⟩ (rc_M C hw hc0) rfl hl.1 rfl (Nat.le_of_ble_eq_true rfl) d_M_amount_70 ⟨Nat.le_refl _, Nat.le_refl _⟩) (fun H locs hw => ?_)
        exact retI C hw rfl (congrArg (fun z => (z, σ)) (Option.some.inj h)) d_M_amount_73
      refine lv_icmp_ge (tgt := 69) hx hb d_M_amount_60 (by decide) (fun b7 => ?_) (fun b7 => ?_)
      · replace h5 := ifp b7 h5
        refine lv_iload_n hx hb d_M_amount_69 rfl (lv_at hl 2 rfl) ?_
        have e8 := Option.some.inj h5
        subst e8
        exact J6 H locs ls hw (lv_sub hl [] rfl)
      · replace h5 := ifn b7 h5
        refine lv_iload_n hx hb d_M_amount_63 rfl (lv_at hl 2 rfl) ?_
        refine lv_iconst (v := 2) hx hb d_M_amount_64 (by decide) ?_
        refine lv_idiv hx hb d_M_amount_65 (by decide) ?_
        refine lv_goto (tgt := 70) hx hb d_M_amount_66 (by decide) ?_
        have e9 := Option.some.inj h5
        subst e9
        exact J6 H locs ls hw (lv_sub hl [] rfl)
    · replace h := ifn b3 h
      by_cases b12 : (vJ σ 1 (nx p1)) = 3
      · replace h := ifp b12 h
        refine swIn (k := 3) (tgt := 98) C b12 d_M_amount_6 (by decide) rfl (by decide) ?_
        refine lv_aload_n hx hb d_M_amount_98 rfl (lv_at hl 0 rfl) ?_
        refine lv_iload_n hx hb d_M_amount_99 rfl (lv_at hl 2 rfl) ?_
        refine bnd h (fun q13 k14 h => ?_)
        refine clI0 (v := q13) C hw (invV (As := [.int p2]) C hw (c_M_politely g c0 hc0 p2 σ q13 k14 l) rfl wc_M_308 nd_M_politely ⟨by decide, by decide⟩ (rc_M C hw hc0) rfl hl.1 rfl (Nat.le_of_ble_eq_true rfl) d_M_amount_100 ⟨Nat.le_refl _, Nat.le_refl _⟩) (fun H locs hw => ?_)
        exact retI C hw rfl (congrArg (fun z => (z, σ)) (Option.some.inj h)) d_M_amount_103
      · replace h := ifn b12 h
        by_cases b15 : (vJ σ 1 (nx p1)) = 4
        · replace h := ifp b15 h
          refine swIn (k := 4) (tgt := 74) C b15 d_M_amount_6 (by decide) rfl (by decide) ?_
          refine lv_aload_n hx hb d_M_amount_74 rfl (lv_at hl 0 rfl) ?_
          refine lv_aload_n hx hb d_M_amount_75 rfl (lv_at hl 0 rfl) ?_
          refine fg_M_13 C hw hc0 d_M_amount_76 ?_
          refine lv_iconst (v := 2) hx hb d_M_amount_79 (by decide) ?_
          refine lv_idiv hx hb d_M_amount_80 (by decide) ?_
          refine lv_iconst (v := 2) hx hb d_M_amount_81 (by decide) ?_
          refine lv_iload_n hx hb d_M_amount_82 rfl (lv_at hl 2 rfl) ?_
          refine lv_imul hx hb d_M_amount_83 ?_
          refine clI0 (v := (f_M_lesser c0 ((vI σ c0 1) / 2) (2 * p2))) C hw (invV (As := [.int ((vI σ c0 1) / 2), .int (2 * p2)]) C hw (c_M_lesser g c0 hc0 ((vI σ c0 1) / 2) (2 * p2) σ l) rfl wc_M_305 nd_M_lesser ⟨by decide, by decide⟩ (rc_M C hw hc0) rfl hl.1 rfl (Nat.le_of_ble_eq_true rfl) d_M_amount_84 ⟨Nat.le_refl _, Nat.le_refl _⟩) (fun H locs hw => ?_)
          exact retI C hw rfl (congrArg (fun z => (z, σ)) (Option.some.inj h)) d_M_amount_87
        · replace h := ifn b15 h
          by_cases b16 : (vJ σ 1 (nx p1)) = 5
          · replace h := ifp b16 h
            refine swIn (k := 5) (tgt := 88) C b16 d_M_amount_6 (by decide) rfl (by decide) ?_
            refine lv_aload_n hx hb d_M_amount_88 rfl (lv_at hl 0 rfl) ?_
            refine lv_aload_n hx hb d_M_amount_89 rfl (lv_at hl 0 rfl) ?_
            refine fg_M_13 C hw hc0 d_M_amount_90 ?_
            refine lv_iload_n hx hb d_M_amount_93 rfl (lv_at hl 2 rfl) ?_
            refine clI0 (v := (f_M_lesser c0 (vI σ c0 1) p2)) C hw (invV (As := [.int (vI σ c0 1), .int p2]) C hw (c_M_lesser g c0 hc0 (vI σ c0 1) p2 σ l) rfl wc_M_305 nd_M_lesser ⟨by decide, by decide⟩ (rc_M C hw hc0) rfl hl.1 rfl (Nat.le_of_ble_eq_true rfl) d_M_amount_94 ⟨Nat.le_refl _, Nat.le_refl _⟩) (fun H locs hw => ?_)
            exact retI C hw rfl (congrArg (fun z => (z, σ)) (Option.some.inj h)) d_M_amount_97
          · replace h := ifn b16 h
            refine swOut (tgt := 98) C d_M_amount_6 (fun z9 l9 h9 e9 => ?_) (by decide) ?_
            · have e10 : z9 = 1 ∨ z9 = 2 ∨ z9 = 3 ∨ z9 = 4 ∨ z9 = 5 := by omega
              rcases e10 with e10 | e10 | e10 | e10 | e10
              · exact lv_neT b2 (by decide) (e9.trans e10)
              · exact lv_neT b3 (by decide) (e9.trans e10)
              · exact lv_neT b12 (by decide) (e9.trans e10)
              · exact lv_neT b15 (by decide) (e9.trans e10)
              · exact lv_neT b16 (by decide) (e9.trans e10)
            · refine lv_aload_n hx hb d_M_amount_98 rfl (lv_at hl 0 rfl) ?_
              refine lv_iload_n hx hb d_M_amount_99 rfl (lv_at hl 2 rfl) ?_
              refine bnd h (fun q17 k18 h => ?_)
              refine clI0 (v := q17) C hw (invV (As := [.int p2]) C hw (c_M_politely g c0 hc0 p2 σ q17 k18 l) rfl wc_M_308 nd_M_politely ⟨by decide, by decide⟩ (rc_M C hw hc0) rfl hl.1 rfl (Nat.le_of_ble_eq_true rfl) d_M_amount_100 ⟨Nat.le_refl _, Nat.le_refl _⟩) (fun H locs hw => ?_)
              exact retI C hw rfl (congrArg (fun z => (z, σ)) (Option.some.inj h)) d_M_amount_103
def f_M_goes (c0 : Nat) (p1 : Int32) (σ : St) : Option (Int32 × St) := ((f_M_wantsOf c0 p1 σ).bind fun q1 => ((f_M_isFirst c0 p1 q1.1 q1.2).bind fun q3 => (((if q3 = false then some q1.2 else ((f_M_fetches c0 p1 q1.2).bind fun q10 => some q10)) : Option (St)).bind fun q5 => ((f_M_amount c0 p1 q1.1 q5).bind fun q13 => (st (sI q5 c0 1 ((vI q5 c0 1) - q13)) fun s16 => (if ok p1 6 = true then (((if q13 ≤ 0 then some false else some true) : Option (Bool)).bind fun q18 => (if ok p1 6 = true then (st (sJ s16 4 (upd (vJ s16 4) (nx p1) ((vJ s16 4 (nx p1)) + (b2i q18)))) fun s25 => (st (sI s25 c0 30 (vI s25 c0 1)) fun s27 => ((f_M_leastNow c0 s27).bind fun q28 => (if q28 ≤ (vI s27 c0 1) then some (q13, s27) else ((f_M_fetches c0 p1 s27).bind fun q31 => some (q13, q31)))))) else none)) else none))))))
set_option maxHeartbeats 400000 in
set_option maxRecDepth 20000 in
theorem c_M_goes (g : GX) (c0 : Nat) (hc0 : tg BM c0 20) (p1 : Int32) (σ : St) (q : Int32 × St) (h : f_M_goes c0 p1 σ = some q) (l : Launch) : CT BM l y_M_goes (v_M_goes :: lwG) 6 [.ref (g.2.1 c0), .int p1] g σ (QI BM g q) := by
  refine mkC (cc := b_M_goes) (maxL := 4) (ret := (some .int)) rfl (by decide) rfl (Nat.le_of_ble_eq_true rfl) ?_
  intro p e s m args below meth c A ls C hl hw
  obtain ⟨hx, hb, hr, hml, hown, hts, hK, hE, hA, hlk⟩ := id C
  replace hl : lv_has ls 4 [(0, .ref (g.2.1 c0)), (1, .int p1)] := hl
  obtain ⟨H, hH⟩ : ∃ z, z = s.heap := ⟨_, rfl⟩
  rw [← hH] at hw ⊢
  obtain ⟨locs, hlo⟩ : ∃ z : List Loc, z = [] := ⟨_, rfl⟩
  rw [← hlo] at hw ⊢
  unfold f_M_goes at h
  refine lv_aload_n hx hb d_M_goes_0 rfl (lv_at hl 0 rfl) ?_
  refine lv_iload_n hx hb d_M_goes_1 rfl (lv_at hl 1 rfl) ?_
  refine bnd h (fun q1 k2 h => ?_)
  refine clI C hw (invV (As := [.int p1]) C hw (c_M_wantsOf g c0 hc0 p1 σ q1 k2 l) rfl wc_M_292 nd_M_wantsOf ⟨by decide, by decide⟩ (rc_M C hw hc0) rfl hl.1 rfl (Nat.le_of_ble_eq_true rfl) d_M_goes_2 ⟨Nat.le_refl _, Nat.le_refl _⟩) (fun H locs hw => ?_)
  refine lv_istore_n (lv' := [(2, .int q1.1), (0, .ref (g.2.1 c0)), (1, .int p1)]) hx hb d_M_goes_5 rfl hl (by decide) rfl (fun ls hl => ?_)
  refine lv_aload_n hx hb d_M_goes_6 rfl (lv_at hl 1 rfl) ?_
  refine lv_iload_n hx hb d_M_goes_7 rfl (lv_at hl 2 rfl) ?_
  refine lv_iload_n hx hb d_M_goes_8 rfl (lv_at hl 0 rfl) ?_
  refine bnd h (fun q3 k4 h => ?_)
  refine clZ0 (v := q3) C hw (invV (As := [.int p1, .int q1.1]) C hw (c_M_isFirst g c0 hc0 p1 q1.1 q1.2 q3 k4 l) rfl wc_M_311 nd_M_isFirst ⟨by decide, by decide⟩ (rc_M C hw hc0) rfl hl.1 rfl (Nat.le_of_ble_eq_true rfl) d_M_goes_9 ⟨Nat.le_refl _, Nat.le_refl _⟩) (fun H locs hw => ?_)
  refine bnd h (fun q5 h6 h => ?_)
  have J7 : ∀ (H : Heap) (locs : List Loc) (ls : Array Slot), HW BM g A s q5 H locs → lv_has ls 4 [(0, .ref (g.2.1 c0)), (1, .int p1), (2, .int q1.1)] → W p l e (rmL 6) s m args below meth c H locs 0 0 (MQ below (QI BM g q A) args s 0 0 A) (F0 m 20 ls []) := by
    intro H locs ls hw hl
    refine lv_aload_n hx hb d_M_goes_20 rfl (lv_at hl 0 rfl) ?_
    refine lv_iload_n hx hb d_M_goes_21 rfl (lv_at hl 1 rfl) ?_
    refine lv_iload_n hx hb d_M_goes_22 rfl (lv_at hl 2 rfl) ?_
    refine bnd h (fun q13 k14 h => ?_)
    refine clI0 (v := q13) C hw (invV (As := [.int p1, .int q1.1]) C hw (c_M_amount g c0 hc0 p1 q1.1 q5 q13 k14 l) rfl wc_M_316 nd_M_amount ⟨by decide, by decide⟩ (rc_M C hw hc0) rfl hl.1 rfl (Nat.le_of_ble_eq_true rfl) d_M_goes_23 ⟨Nat.le_refl _, Nat.le_refl _⟩) (fun H locs hw => ?_)
    refine lv_istore_n (lv' := [(3, .int q13), (0, .ref (g.2.1 c0)), (1, .int p1), (2, .int q1.1)]) hx hb d_M_goes_26 rfl hl (by decide) rfl (fun ls hl => ?_)
    refine lv_aload_n hx hb d_M_goes_27 rfl (lv_at hl 1 rfl) ?_
    refine lv_dup hx hb d_M_goes_28 rfl ?_
    refine fg_M_13 C hw hc0 d_M_goes_29 ?_
    refine lv_iload_n hx hb d_M_goes_32 rfl (lv_at hl 0 rfl) ?_
    refine lv_isub hx hb d_M_goes_33 ?_
    refine ste h (fun s16 e35 h => ?_)
    refine fp_M_13 C hw hc0 d_M_goes_34 (fun H locs hw => ?_)
    replace hw := HWe hw e35
    refine lv_aload_n hx hb d_M_goes_37 rfl (lv_at hl 1 rfl) ?_
    refine fg_M_29 C hw hc0 d_M_goes_38 ?_
    refine lv_iload_n hx hb d_M_goes_41 rfl (lv_at hl 2 rfl) ?_
    refine lv_dup2_11 hx hb d_M_goes_42 rfl rfl ?_
    refine gde h (fun g17 h => ?_)
    refine ldI (n := 6) C hw tM_4 (by decide) g17 d_M_goes_43 ?_
    refine lv_iload_n hx hb d_M_goes_44 rfl (lv_at hl 0 rfl) ?_
    refine bnd h (fun q18 h19 h => ?_)
    have J20 : ∀ (H : Heap) (locs : List Loc) (ls : Array Slot), HW BM g A s s16 H locs → lv_has ls 4 [(0, .ref (g.2.1 c0)), (1, .int p1), (3, .int q13)] → W p l e (rmL 6) s m args below meth c H locs 0 0 (MQ below (QI BM g q A) args s 0 0 A) (F0 m 53 ls [.int (b2i q18), .int (vJ s16 4 (nx p1)), .int p1, .ref (g.2.1 4)]) := by
      intro H locs ls hw hl
      refine lv_iadd hx hb d_M_goes_53 ?_
      refine gde h (fun g24 h => ?_)
      refine ste h (fun s25 e34 h => ?_)
      refine stI (n := 6) C hw tM_4 (by decide) g24 d_M_goes_54 (fun H locs hw => ?_)
      replace hw := HWe hw e34
      refine lv_aload_n hx hb d_M_goes_55 rfl (lv_at hl 0 rfl) ?_
      refine lv_aload_n hx hb d_M_goes_56 rfl (lv_at hl 0 rfl) ?_
      refine fg_M_13 C hw hc0 d_M_goes_57 ?_
      refine ste h (fun s27 e33 h => ?_)
      refine fp_M_102 C hw hc0 d_M_goes_60 (fun H locs hw => ?_)
      replace hw := HWe hw e33
      refine lv_aload_n hx hb d_M_goes_63 rfl (lv_at hl 0 rfl) ?_
      refine fg_M_13 C hw hc0 d_M_goes_64 ?_
      refine lv_aload_n hx hb d_M_goes_67 rfl (lv_at hl 0 rfl) ?_
      refine bnd h (fun q28 k29 h => ?_)
      refine clI0 (v := q28) C hw (invV (As := []) C hw (c_M_leastNow g c0 hc0 s27 q28 k29 l) rfl wc_M_295 nd_M_leastNow ⟨by decide, by decide⟩ (rc_M C hw hc0) rfl hl.1 rfl (Nat.le_of_ble_eq_true rfl) d_M_goes_68 ⟨Nat.le_refl _, Nat.le_refl _⟩) (fun H locs hw => ?_)
      refine lv_icmp_ge (tgt := 79) hx hb d_M_goes_71 (by decide) (fun b30 => ?_) (fun b30 => ?_)
      · replace h := ifp b30 h
        refine lv_iload_n hx hb d_M_goes_79 rfl (lv_at hl 2 rfl) ?_
        exact retI C hw rfl (Option.some.inj h) d_M_goes_80
      · replace h := ifn b30 h
        refine lv_aload_n hx hb d_M_goes_74 rfl (lv_at hl 0 rfl) ?_
        refine lv_iload_n hx hb d_M_goes_75 rfl (lv_at hl 1 rfl) ?_
        refine bnd h (fun q31 k32 h => ?_)
        refine clV C hw (invV (As := [.int p1]) C hw (c_M_fetches g c0 hc0 p1 s27 q31 k32 l) rfl wc_M_314 nd_M_fetches ⟨by decide, by decide⟩ (rc_M C hw hc0) rfl hl.1 rfl (Nat.le_of_ble_eq_true rfl) d_M_goes_76 ⟨Nat.le_refl _, Nat.le_refl _⟩) (fun H locs hw => ?_)
        refine lv_iload_n hx hb d_M_goes_79 rfl (lv_at hl 2 rfl) ?_
        exact retI C hw rfl (Option.some.inj h) d_M_goes_80
    refine lv_if_le (tgt := 52) hx hb d_M_goes_45 (by decide) (fun b21 => ?_) (fun b21 => ?_)
    · replace h19 := ifp b21 h19
      refine lv_iconst (v := 0) hx hb d_M_goes_52 (by decide) ?_
      have e22 := Option.some.inj h19
      subst e22
      exact J20 H locs ls hw (lv_sub hl [1, 2, 0] rfl)
    · replace h19 := ifn b21 h19
      refine lv_iconst (v := 1) hx hb d_M_goes_48 (by decide) ?_
      refine lv_goto (tgt := 53) hx hb d_M_goes_49 (by decide) ?_
      have e23 := Option.some.inj h19
      subst e23
      exact J20 H locs ls hw (lv_sub hl [1, 2, 0] rfl)
  refine ifB (tgt := 20) C d_M_goes_12 (by decide) (fun b8 => ?_) (fun b8 => ?_)
  · replace h6 := ifp b8 h6
    have e9 := Option.some.inj h6
    subst e9
    exact J7 H locs ls hw (lv_sub hl [1, 2, 0] rfl)
  · replace h6 := ifn b8 h6
    refine lv_aload_n hx hb d_M_goes_15 rfl (lv_at hl 1 rfl) ?_
    refine lv_iload_n hx hb d_M_goes_16 rfl (lv_at hl 2 rfl) ?_
    refine bnd h6 (fun q10 k11 h6 => ?_)
    refine clV C hw (invV (As := [.int p1]) C hw (c_M_fetches g c0 hc0 p1 q1.2 q10 k11 l) rfl wc_M_314 nd_M_fetches ⟨by decide, by decide⟩ (rc_M C hw hc0) rfl hl.1 rfl (Nat.le_of_ble_eq_true rfl) d_M_goes_17 ⟨Nat.le_refl _, Nat.le_refl _⟩) (fun H locs hw => ?_)
    have e12 := Option.some.inj h6
    subst e12
    exact J7 H locs ls hw (lv_sub hl [1, 2, 0] rfl)
def f_M_takes (c0 : Nat) (p1 : Int32) (σ : St) : Option (Int32 × St) := (if (f_M_isTaker c0 p1 σ) = false then some ((-1), σ) else ((f_M_goes c0 p1 σ).bind fun q2 => some (q2.1, q2.2)))
set_option maxHeartbeats 400000 in
set_option maxRecDepth 20000 in
theorem c_M_takes (g : GX) (c0 : Nat) (hc0 : tg BM c0 20) (p1 : Int32) (σ : St) (q : Int32 × St) (h : f_M_takes c0 p1 σ = some q) (l : Launch) : CT BM l y_M_takes (v_M_takes :: lwG) 7 [.ref (g.2.1 c0), .int p1] g σ (QI BM g q) := by
  refine mkC (cc := b_M_takes) (maxL := 2) (ret := (some .int)) rfl (by decide) rfl (Nat.le_of_ble_eq_true rfl) ?_
  intro p e s m args below meth c A ls C hl hw
  obtain ⟨hx, hb, hr, hml, hown, hts, hK, hE, hA, hlk⟩ := id C
  replace hl : lv_has ls 2 [(0, .ref (g.2.1 c0)), (1, .int p1)] := hl
  obtain ⟨H, hH⟩ : ∃ z, z = s.heap := ⟨_, rfl⟩
  rw [← hH] at hw ⊢
  obtain ⟨locs, hlo⟩ : ∃ z : List Loc, z = [] := ⟨_, rfl⟩
  rw [← hlo] at hw ⊢
  unfold f_M_takes at h
  refine lv_aload_n hx hb d_M_takes_0 rfl (lv_at hl 0 rfl) ?_
  refine lv_iload_n hx hb d_M_takes_1 rfl (lv_at hl 1 rfl) ?_
  refine clZ0 (v := (f_M_isTaker c0 p1 σ)) C hw (invV (As := [.int p1]) C hw (c_M_isTaker g c0 hc0 p1 σ l) rfl wc_M_222 nd_M_isTaker ⟨by decide, by decide⟩ (rc_M C hw hc0) rfl hl.1 rfl (Nat.le_of_ble_eq_true rfl) d_M_takes_2 ⟨Nat.le_refl _, Nat.le_refl _⟩) (fun H locs hw => ?_)
  refine ifB (tgt := 16) C d_M_takes_5 (by decide) (fun b1 => ?_) (fun b1 => ?_)
  · replace h := ifp b1 h
    refine lv_iconst (v := (-1)) hx hb d_M_takes_16 (by decide) ?_
    exact retI C hw rfl (Option.some.inj h) d_M_takes_17
  · replace h := ifn b1 h
    refine lv_aload_n hx hb d_M_takes_8 rfl (lv_at hl 0 rfl) ?_
    refine lv_iload_n hx hb d_M_takes_9 rfl (lv_at hl 1 rfl) ?_
    refine bnd h (fun q2 k3 h => ?_)
    refine clI C hw (invV (As := [.int p1]) C hw (c_M_goes g c0 hc0 p1 σ q2 k3 l) rfl wc_M_319 nd_M_goes ⟨by decide, by decide⟩ (rc_M C hw hc0) rfl hl.1 rfl (Nat.le_of_ble_eq_true rfl) d_M_takes_10 ⟨Nat.le_refl _, Nat.le_refl _⟩) (fun H locs hw => ?_)
    refine lv_goto (tgt := 17) hx hb d_M_takes_13 (by decide) ?_
    exact retI C hw rfl (Option.some.inj h) d_M_takes_17
def f_M_goDay_l18 : Nat → Nat → Int32 → St → Option (St)
  | 0, _, _, _ => none
  | n + 1, c0, x1, σ => (if (vI σ c0 0) ≤ x1 then some σ else (if x1 = (vI σ c0 31) then (f_M_goDay_l18 n c0 (x1 + 1) σ) else (if x1 = (vI σ c0 32) then (f_M_goDay_l18 n c0 (x1 + 1) σ) else ((f_M_goes c0 x1 σ).bind fun q13 => (f_M_goDay_l18 n c0 (x1 + 1) q13.2)))))
def f_M_goDay (c0 : Nat) (σ : St) : Option (St) := (((if (vI σ c0 32) < 0 then some σ else ((f_M_goes c0 (vI σ c0 32) σ).bind fun q6 => some q6.2)) : Option (St)).bind fun q1 => ((f_M_goDay_l18 FU c0 0 q1).bind fun x_15 => (st (sI x_15 c0 2 ((vI x_15 c0 2) + 1)) fun s19 => some s19)))
set_option maxHeartbeats 400000 in
set_option maxRecDepth 20000 in
theorem c_M_goDay (g : GX) (c0 : Nat) (hc0 : tg BM c0 20) (σ : St) (q : St) (h : f_M_goDay c0 σ = some q) (l : Launch) : CT BM l y_M_goDay (v_M_goDay :: lwG) 7 [.ref (g.2.1 c0)] g σ (QV BM g q) := by
  refine mkC (cc := b_M_goDay) (maxL := 3) (ret := none) rfl (by decide) rfl (Nat.le_of_ble_eq_true rfl) ?_
  intro p e s m args below meth c A ls C hl hw
  obtain ⟨hx, hb, hr, hml, hown, hts, hK, hE, hA, hlk⟩ := id C
  replace hl : lv_has ls 3 [(0, .ref (g.2.1 c0))] := hl
  obtain ⟨H, hH⟩ : ∃ z, z = s.heap := ⟨_, rfl⟩
  rw [← hH] at hw ⊢
  obtain ⟨locs, hlo⟩ : ∃ z : List Loc, z = [] := ⟨_, rfl⟩
  rw [← hlo] at hw ⊢
  unfold f_M_goDay at h
  refine lv_aload_n hx hb d_M_goDay_0 rfl (lv_at hl 0 rfl) ?_
  refine fg_M_108 C hw hc0 d_M_goDay_1 ?_
  refine bnd h (fun q1 h2 h => ?_)
  have J3 : ∀ (H : Heap) (locs : List Loc) (ls : Array Slot), HW BM g A s q1 H locs → lv_has ls 3 [(0, .ref (g.2.1 c0))] → W p l e (rmL 7) s m args below meth c H locs 0 0 (MQ below (QV BM g q A) args s 0 0 A) (F0 m 16 ls []) := by
    intro H locs ls hw hl
    refine lv_iconst (v := 0) hx hb d_M_goDay_16 (by decide) ?_
    refine lv_istore_n (lv' := [(1, .int 0), (0, .ref (g.2.1 c0))]) hx hb d_M_goDay_17 rfl hl (by decide) rfl (fun ls hl => ?_)
    have L9 : ∀ (c0 : Nat) (hc0 : tg BM c0 20) (n : Nat) (x1 : Int32) (σ : St) (H : Heap) (locs : List Loc) (ls : Array Slot), HW BM g A s σ H locs → lv_has ls 3 [(0, .ref (g.2.1 c0)), (1, .int x1)] → ∀ (ex : St), f_M_goDay_l18 n c0 x1 σ = some ex → (∀ (y : St), ex = y → ∀ (H : Heap) (locs : List Loc) (ls : Array Slot), HW BM g A s y H locs → lv_has ls 3 [(0, .ref (g.2.1 c0))] → W p l e (rmL 7) s m args below meth c H locs 0 0 (MQ below (QV BM g q A) args s 0 0 A) (F0 m 57 ls [])) → (True) → W p l e (rmL 7) s m args below meth c H locs 0 0 (MQ below (QV BM g q A) args s 0 0 A) (F0 m 18 ls []) := by
      intro c0 hc0 n
      induction n with
      | zero =>
        intro x1 σ H locs ls hw hl ex h kx9 kr9
        cases h
      | succ n ih =>
        intro x1 σ H locs ls hw hl ex h kx9 kr9
        rw [f_M_goDay_l18] at h
        refine lv_iload_n hx hb d_M_goDay_18 rfl (lv_at hl 1 rfl) ?_
        refine lv_aload_n hx hb d_M_goDay_19 rfl (lv_at hl 0 rfl) ?_
        refine fg_M_7 C hw hc0 d_M_goDay_20 ?_
        refine lv_icmp_ge (tgt := 57) hx hb d_M_goDay_23 (by decide) (fun b10 => ?_) (fun b10 => ?_)
        · replace h := ifp b10 h
          exact kx9 _ (Option.some.inj h).symm H locs ls hw (lv_sub hl [0] rfl)
        · replace h := ifn b10 h
          refine lv_iload_n hx hb d_M_goDay_26 rfl (lv_at hl 1 rfl) ?_
          refine lv_aload_n hx hb d_M_goDay_27 rfl (lv_at hl 0 rfl) ?_
          refine fg_M_105 C hw hc0 d_M_goDay_28 ?_
          refine lv_icmp_eq (tgt := 51) hx hb d_M_goDay_31 (by decide) (fun b11 => ?_) (fun b11 => ?_)
          · replace h := ifp b11 h
            refine lv_iinc (v := (x1 + 1)) (lv' := [(1, .int (x1 + 1)), (0, .ref (g.2.1 c0))]) hx hb d_M_goDay_51 hl (k := 1) rfl rfl (by decide) rfl (fun ls hl => ?_)
            refine lv_goto (tgt := 18) hx hb d_M_goDay_54 (by decide) ?_
            exact ih (x1 + 1) σ H locs ls hw (lv_sub hl [1, 0] rfl) ex h kx9 kr9
          · replace h := ifn b11 h
            refine lv_iload_n hx hb d_M_goDay_34 rfl (lv_at hl 1 rfl) ?_
            refine lv_aload_n hx hb d_M_goDay_35 rfl (lv_at hl 0 rfl) ?_
            refine fg_M_108 C hw hc0 d_M_goDay_36 ?_
            refine lv_icmp_ne (tgt := 45) hx hb d_M_goDay_39 (by decide) (fun b12 => ?_) (fun b12 => ?_)
            · replace h := ifn b12 h
              refine lv_aload_n hx hb d_M_goDay_45 rfl (lv_at hl 0 rfl) ?_
              refine lv_iload_n hx hb d_M_goDay_46 rfl (lv_at hl 1 rfl) ?_
              refine bnd h (fun q13 k14 h => ?_)
              refine clI C hw (invV (As := [.int x1]) C hw (c_M_goes g c0 hc0 x1 σ q13 k14 l) rfl wc_M_319 nd_M_goes ⟨by decide, by decide⟩ (rc_M C hw hc0) rfl hl.1 rfl (Nat.le_of_ble_eq_true rfl) d_M_goDay_47 ⟨Nat.le_refl _, Nat.le_refl _⟩) (fun H locs hw => ?_)
              refine lv_istore_n (lv' := [(2, .int q13.1), (0, .ref (g.2.1 c0)), (1, .int x1)]) hx hb d_M_goDay_50 rfl hl (by decide) rfl (fun ls hl => ?_)
              refine lv_iinc (v := (x1 + 1)) (lv' := [(1, .int (x1 + 1)), (2, .int q13.1), (0, .ref (g.2.1 c0))]) hx hb d_M_goDay_51 hl (k := 2) rfl rfl (by decide) rfl (fun ls hl => ?_)
              refine lv_goto (tgt := 18) hx hb d_M_goDay_54 (by decide) ?_
              exact ih (x1 + 1) q13.2 H locs ls hw (lv_sub hl [2, 0] rfl) ex h kx9 kr9
            · replace h := ifp b12 h
              refine lv_goto (tgt := 51) hx hb d_M_goDay_42 (by decide) ?_
              refine lv_iinc (v := (x1 + 1)) (lv' := [(1, .int (x1 + 1)), (0, .ref (g.2.1 c0))]) hx hb d_M_goDay_51 hl (k := 1) rfl rfl (by decide) rfl (fun ls hl => ?_)
              refine lv_goto (tgt := 18) hx hb d_M_goDay_54 (by decide) ?_
              exact ih (x1 + 1) σ H locs ls hw (lv_sub hl [1, 0] rfl) ex h kx9 kr9
    refine bnd h (fun x_15 k16 h => ?_)
    refine L9 c0 hc0 FU 0 q1 H locs ls hw (lv_sub hl [1, 0] rfl) x_15 k16 (fun y21 e22 H locs ls hw hl => ?_) trivial
    subst e22
    refine lv_aload_n hx hb d_M_goDay_57 rfl (lv_at hl 0 rfl) ?_
    refine lv_dup hx hb d_M_goDay_58 rfl ?_
    refine fg_M_16 C hw hc0 d_M_goDay_59 ?_
    refine lv_iconst (v := 1) hx hb d_M_goDay_62 (by decide) ?_
    refine lv_iadd hx hb d_M_goDay_63 ?_
    refine ste h (fun s19 e20 h => ?_)
    refine fp_M_16 C hw hc0 d_M_goDay_64 (fun H locs hw => ?_)
    replace hw := HWe hw e20
    exact retV C hw rfl (Option.some.inj h) d_M_goDay_67
  refine lv_if_lt (tgt := 16) hx hb d_M_goDay_4 (by decide) (fun b4 => ?_) (fun b4 => ?_)
  · replace h2 := ifp b4 h2
    have e5 := Option.some.inj h2
    subst e5
    exact J3 H locs ls hw (lv_sub hl [0] rfl)
  · replace h2 := ifn b4 h2
    refine lv_aload_n hx hb d_M_goDay_7 rfl (lv_at hl 0 rfl) ?_
    refine lv_aload_n hx hb d_M_goDay_8 rfl (lv_at hl 0 rfl) ?_
    refine fg_M_108 C hw hc0 d_M_goDay_9 ?_
    refine bnd h2 (fun q6 k7 h2 => ?_)
    refine clI C hw (invV (As := [.int (vI σ c0 32)]) C hw (c_M_goes g c0 hc0 (vI σ c0 32) σ q6 k7 l) rfl wc_M_319 nd_M_goes ⟨by decide, by decide⟩ (rc_M C hw hc0) rfl hl.1 rfl (Nat.le_of_ble_eq_true rfl) d_M_goDay_12 ⟨Nat.le_refl _, Nat.le_refl _⟩) (fun H locs hw => ?_)
    refine lv_istore_n (lv' := [(1, .int q6.1), (0, .ref (g.2.1 c0))]) hx hb d_M_goDay_15 rfl hl (by decide) rfl (fun ls hl => ?_)
    have e8 := Option.some.inj h2
    subst e8
    exact J3 H locs ls hw (lv_sub hl [1] rfl)
def f_M_day (c0 : Nat) (σ : St) : Option (Int32 × St) := (if (vI σ c0 2) = 9999 then some ((-3), σ) else ((f_M_sum c0 0 σ).bind fun q2 => ((f_M_goDay c0 σ).bind fun q4 => ((f_M_sum c0 0 q4).bind fun q6 => some ((q6 - q2), q4)))))
set_option maxHeartbeats 400000 in
set_option maxRecDepth 20000 in
theorem c_M_day (g : GX) (c0 : Nat) (hc0 : tg BM c0 20) (σ : St) (q : Int32 × St) (h : f_M_day c0 σ = some q) (l : Launch) : CT BM l y_M_day (v_M_day :: lwG) 8 [.ref (g.2.1 c0)] g σ (QI BM g q) := by
  refine mkC (cc := b_M_day) (maxL := 2) (ret := (some .int)) rfl (by decide) rfl (Nat.le_of_ble_eq_true rfl) ?_
  intro p e s m args below meth c A ls C hl hw
  obtain ⟨hx, hb, hr, hml, hown, hts, hK, hE, hA, hlk⟩ := id C
  replace hl : lv_has ls 2 [(0, .ref (g.2.1 c0))] := hl
  obtain ⟨H, hH⟩ : ∃ z, z = s.heap := ⟨_, rfl⟩
  rw [← hH] at hw ⊢
  obtain ⟨locs, hlo⟩ : ∃ z : List Loc, z = [] := ⟨_, rfl⟩
  rw [← hlo] at hw ⊢
  unfold f_M_day at h
  refine lv_aload_n hx hb d_M_day_0 rfl (lv_at hl 0 rfl) ?_
  refine fg_M_16 C hw hc0 d_M_day_1 ?_
  refine lv_sipush (v := 9999) hx hb d_M_day_4 (by decide) ?_
  refine lv_icmp_ne (tgt := 13) hx hb d_M_day_7 (by decide) (fun b1 => ?_) (fun b1 => ?_)
  · replace h := ifn b1 h
    refine lv_aload_n hx hb d_M_day_13 rfl (lv_at hl 0 rfl) ?_
    refine lv_iconst (v := 0) hx hb d_M_day_14 (by decide) ?_
    refine bnd h (fun q2 k3 h => ?_)
    refine clI0 (v := q2) C hw (invV (As := [.int 0]) C hw (c_M_sum g c0 hc0 0 σ q2 k3 l) rfl wc_M_301 nd_M_sum ⟨by decide, by decide⟩ (rc_M C hw hc0) rfl hl.1 rfl (Nat.le_of_ble_eq_true rfl) d_M_day_15 ⟨Nat.le_refl _, Nat.le_refl _⟩) (fun H locs hw => ?_)
    refine lv_istore_n (lv' := [(1, .int q2), (0, .ref (g.2.1 c0))]) hx hb d_M_day_18 rfl hl (by decide) rfl (fun ls hl => ?_)
    refine lv_aload_n hx hb d_M_day_19 rfl (lv_at hl 1 rfl) ?_
    refine bnd h (fun q4 k5 h => ?_)
    refine clV C hw (invV (As := []) C hw (c_M_goDay g c0 hc0 σ q4 k5 l) rfl wc_M_322 nd_M_goDay ⟨by decide, by decide⟩ (rc_M C hw hc0) rfl hl.1 rfl (Nat.le_of_ble_eq_true rfl) d_M_day_20 ⟨Nat.le_refl _, Nat.le_refl _⟩) (fun H locs hw => ?_)
    refine lv_aload_n hx hb d_M_day_23 rfl (lv_at hl 1 rfl) ?_
    refine lv_iconst (v := 0) hx hb d_M_day_24 (by decide) ?_
    refine bnd h (fun q6 k7 h => ?_)
    refine clI0 (v := q6) C hw (invV (As := [.int 0]) C hw (c_M_sum g c0 hc0 0 q4 q6 k7 l) rfl wc_M_301 nd_M_sum ⟨by decide, by decide⟩ (rc_M C hw hc0) rfl hl.1 rfl (Nat.le_of_ble_eq_true rfl) d_M_day_25 ⟨Nat.le_refl _, Nat.le_refl _⟩) (fun H locs hw => ?_)
    refine lv_iload_n hx hb d_M_day_28 rfl (lv_at hl 0 rfl) ?_
    refine lv_isub hx hb d_M_day_29 ?_
    exact retI C hw rfl (Option.some.inj h) d_M_day_30
  · replace h := ifp b1 h
    refine lv_bipush (v := (-3)) hx hb d_M_day_10 (by decide) ?_
    exact retI C hw rfl (Option.some.inj h) d_M_day_12
def f_M_keep_l18 : Nat → Nat → Int32 → St → Option (St)
  | 0, _, _, _ => none
  | n + 1, c0, x1, σ => (if 6 ≤ x1 then some σ else (if ok x1 6 = true then (if ok x1 6 = true then (st (sJ σ 18 (upd (vJ σ 18) (nx x1) (vJ σ 4 (nx x1)))) fun s9 => (if ok x1 6 = true then (if ok x1 6 = true then (st (sJ s9 19 (upd (vJ s9 19) (nx x1) (vJ s9 5 (nx x1)))) fun s12 => (if ok x1 6 = true then (if ok x1 6 = true then (st (sJ s12 20 (upd (vJ s12 20) (nx x1) (vJ s12 6 (nx x1)))) fun s15 => (f_M_keep_l18 n c0 (x1 + 1) s15)) else none) else none)) else none) else none)) else none) else none))
def f_M_keep (c0 : Nat) (σ : St) : Option (St) := (st (sI σ c0 33 (vI σ c0 1)) fun s2 => (st (sI s2 c0 34 (vI s2 c0 2)) fun s4 => ((f_M_keep_l18 FU c0 0 s4).bind fun x_19 => some x_19)))
set_option maxHeartbeats 400000 in
set_option maxRecDepth 20000 in
theorem c_M_keep (g : GX) (c0 : Nat) (hc0 : tg BM c0 20) (σ : St) (q : St) (h : f_M_keep c0 σ = some q) (l : Launch) : CT BM l y_M_keep (v_M_keep :: lwG) 1 [.ref (g.2.1 c0)] g σ (QV BM g q) := by
  refine mkC (cc := b_M_keep) (maxL := 2) (ret := none) rfl (by decide) rfl (Nat.le_of_ble_eq_true rfl) ?_
  intro p e s m args below meth c A ls C hl hw
  obtain ⟨hx, hb, hr, hml, hown, hts, hK, hE, hA, hlk⟩ := id C
  replace hl : lv_has ls 2 [(0, .ref (g.2.1 c0))] := hl
  obtain ⟨H, hH⟩ : ∃ z, z = s.heap := ⟨_, rfl⟩
  rw [← hH] at hw ⊢
  obtain ⟨locs, hlo⟩ : ∃ z : List Loc, z = [] := ⟨_, rfl⟩
  rw [← hlo] at hw ⊢
  unfold f_M_keep at h
  refine lv_aload_n hx hb d_M_keep_0 rfl (lv_at hl 0 rfl) ?_
  refine lv_aload_n hx hb d_M_keep_1 rfl (lv_at hl 0 rfl) ?_
  refine fg_M_13 C hw hc0 d_M_keep_2 ?_
  refine ste h (fun s2 e25 h => ?_)
  refine fp_M_111 C hw hc0 d_M_keep_5 (fun H locs hw => ?_)
  replace hw := HWe hw e25
  refine lv_aload_n hx hb d_M_keep_8 rfl (lv_at hl 0 rfl) ?_
  refine lv_aload_n hx hb d_M_keep_9 rfl (lv_at hl 0 rfl) ?_
  refine fg_M_16 C hw hc0 d_M_keep_10 ?_
  refine ste h (fun s4 e24 h => ?_)
  refine fp_M_114 C hw hc0 d_M_keep_13 (fun H locs hw => ?_)
  replace hw := HWe hw e24
  refine lv_iconst (v := 0) hx hb d_M_keep_16 (by decide) ?_
  refine lv_istore_n (lv' := [(1, .int 0), (0, .ref (g.2.1 c0))]) hx hb d_M_keep_17 rfl hl (by decide) rfl (fun ls hl => ?_)
  have L5 : ∀ (c0 : Nat) (hc0 : tg BM c0 20) (n : Nat) (x1 : Int32) (σ : St) (H : Heap) (locs : List Loc) (ls : Array Slot), HW BM g A s σ H locs → lv_has ls 2 [(0, .ref (g.2.1 c0)), (1, .int x1)] → ∀ (ex : St), f_M_keep_l18 n c0 x1 σ = some ex → (∀ (y : St), ex = y → ∀ (H : Heap) (locs : List Loc) (ls : Array Slot), HW BM g A s y H locs → lv_has ls 2 [] → W p l e (rmL 1) s m args below meth c H locs 0 0 (MQ below (QV BM g q A) args s 0 0 A) (F0 m 66 ls [])) → (True) → W p l e (rmL 1) s m args below meth c H locs 0 0 (MQ below (QV BM g q A) args s 0 0 A) (F0 m 18 ls []) := by
    intro c0 hc0 n
    induction n with
    | zero =>
      intro x1 σ H locs ls hw hl ex h kx5 kr5
      cases h
    | succ n ih =>
      intro x1 σ H locs ls hw hl ex h kx5 kr5
      rw [f_M_keep_l18] at h
      refine lv_iload_n hx hb d_M_keep_18 rfl (lv_at hl 1 rfl) ?_
      refine lv_bipush (v := 6) hx hb d_M_keep_19 (by decide) ?_
      refine lv_icmp_ge (tgt := 66) hx hb d_M_keep_21 (by decide) (fun b6 => ?_) (fun b6 => ?_)
      · replace h := ifp b6 h
        exact kx5 _ (Option.some.inj h).symm H locs ls hw (lv_sub hl [] rfl)
      · replace h := ifn b6 h
        refine lv_aload_n hx hb d_M_keep_24 rfl (lv_at hl 0 rfl) ?_
        refine fg_M_117 C hw hc0 d_M_keep_25 ?_
        refine lv_iload_n hx hb d_M_keep_28 rfl (lv_at hl 1 rfl) ?_
        refine lv_aload_n hx hb d_M_keep_29 rfl (lv_at hl 0 rfl) ?_
        refine fg_M_29 C hw hc0 d_M_keep_30 ?_
        refine lv_iload_n hx hb d_M_keep_33 rfl (lv_at hl 1 rfl) ?_
        refine gde h (fun g7 h => ?_)
        refine ldI (n := 6) C hw tM_4 (by decide) g7 d_M_keep_34 ?_
        refine gde h (fun g8 h => ?_)
        refine ste h (fun s9 e18 h => ?_)
        refine stI (n := 6) C hw tM_18 (by decide) g8 d_M_keep_35 (fun H locs hw => ?_)
        replace hw := HWe hw e18
        refine lv_aload_n hx hb d_M_keep_36 rfl (lv_at hl 0 rfl) ?_
        refine fg_M_120 C hw hc0 d_M_keep_37 ?_
        refine lv_iload_n hx hb d_M_keep_40 rfl (lv_at hl 1 rfl) ?_
        refine lv_aload_n hx hb d_M_keep_41 rfl (lv_at hl 0 rfl) ?_
        refine fg_M_32 C hw hc0 d_M_keep_42 ?_
        refine lv_iload_n hx hb d_M_keep_45 rfl (lv_at hl 1 rfl) ?_
        refine gde h (fun g10 h => ?_)
        refine ldI (n := 6) C hw tM_5 (by decide) g10 d_M_keep_46 ?_
        refine gde h (fun g11 h => ?_)
        refine ste h (fun s12 e17 h => ?_)
        refine stI (n := 6) C hw tM_19 (by decide) g11 d_M_keep_47 (fun H locs hw => ?_)
        replace hw := HWe hw e17
        refine lv_aload_n hx hb d_M_keep_48 rfl (lv_at hl 0 rfl) ?_
        refine fg_M_123 C hw hc0 d_M_keep_49 ?_
        refine lv_iload_n hx hb d_M_keep_52 rfl (lv_at hl 1 rfl) ?_
        refine lv_aload_n hx hb d_M_keep_53 rfl (lv_at hl 0 rfl) ?_
        refine fg_M_35 C hw hc0 d_M_keep_54 ?_
        refine lv_iload_n hx hb d_M_keep_57 rfl (lv_at hl 1 rfl) ?_
        refine gde h (fun g13 h => ?_)
        refine ldI (n := 6) C hw tM_6 (by decide) g13 d_M_keep_58 ?_
        refine gde h (fun g14 h => ?_)
        refine ste h (fun s15 e16 h => ?_)
        refine stI (n := 6) C hw tM_20 (by decide) g14 d_M_keep_59 (fun H locs hw => ?_)
        replace hw := HWe hw e16
        refine lv_iinc (v := (x1 + 1)) (lv' := [(1, .int (x1 + 1)), (0, .ref (g.2.1 c0))]) hx hb d_M_keep_60 hl (k := 1) rfl rfl (by decide) rfl (fun ls hl => ?_)
        refine lv_goto (tgt := 18) hx hb d_M_keep_63 (by decide) ?_
        exact ih (x1 + 1) s15 H locs ls hw (lv_sub hl [1, 0] rfl) ex h kx5 kr5
  refine bnd h (fun x_19 k20 h => ?_)
  refine L5 c0 hc0 FU 0 s4 H locs ls hw (lv_sub hl [1, 0] rfl) x_19 k20 (fun y22 e23 H locs ls hw hl => ?_) trivial
  subst e23
  exact retV C hw rfl (Option.some.inj h) d_M_keep_66
def f_M_putBack_l18 : Nat → Nat → Int32 → St → Option (St)
  | 0, _, _, _ => none
  | n + 1, c0, x1, σ => (if 6 ≤ x1 then some σ else (if ok x1 6 = true then (if ok x1 6 = true then (st (sJ σ 4 (upd (vJ σ 4) (nx x1) (vJ σ 18 (nx x1)))) fun s9 => (if ok x1 6 = true then (if ok x1 6 = true then (st (sJ s9 5 (upd (vJ s9 5) (nx x1) (vJ s9 19 (nx x1)))) fun s12 => (if ok x1 6 = true then (if ok x1 6 = true then (st (sJ s12 6 (upd (vJ s12 6) (nx x1) (vJ s12 20 (nx x1)))) fun s15 => (f_M_putBack_l18 n c0 (x1 + 1) s15)) else none) else none)) else none) else none)) else none) else none))
def f_M_putBack (c0 : Nat) (σ : St) : Option (St) := (st (sI σ c0 1 (vI σ c0 33)) fun s2 => (st (sI s2 c0 2 (vI s2 c0 34)) fun s4 => ((f_M_putBack_l18 FU c0 0 s4).bind fun x_19 => some x_19)))
set_option maxHeartbeats 400000 in
set_option maxRecDepth 20000 in
theorem c_M_putBack (g : GX) (c0 : Nat) (hc0 : tg BM c0 20) (σ : St) (q : St) (h : f_M_putBack c0 σ = some q) (l : Launch) : CT BM l y_M_putBack (v_M_putBack :: lwG) 1 [.ref (g.2.1 c0)] g σ (QV BM g q) := by
  refine mkC (cc := b_M_putBack) (maxL := 2) (ret := none) rfl (by decide) rfl (Nat.le_of_ble_eq_true rfl) ?_
  intro p e s m args below meth c A ls C hl hw
  obtain ⟨hx, hb, hr, hml, hown, hts, hK, hE, hA, hlk⟩ := id C
  replace hl : lv_has ls 2 [(0, .ref (g.2.1 c0))] := hl
  obtain ⟨H, hH⟩ : ∃ z, z = s.heap := ⟨_, rfl⟩
  rw [← hH] at hw ⊢
  obtain ⟨locs, hlo⟩ : ∃ z : List Loc, z = [] := ⟨_, rfl⟩
  rw [← hlo] at hw ⊢
  unfold f_M_putBack at h
  refine lv_aload_n hx hb d_M_putBack_0 rfl (lv_at hl 0 rfl) ?_
  refine lv_aload_n hx hb d_M_putBack_1 rfl (lv_at hl 0 rfl) ?_
  refine fg_M_111 C hw hc0 d_M_putBack_2 ?_
  refine ste h (fun s2 e25 h => ?_)
  refine fp_M_13 C hw hc0 d_M_putBack_5 (fun H locs hw => ?_)
  replace hw := HWe hw e25
  refine lv_aload_n hx hb d_M_putBack_8 rfl (lv_at hl 0 rfl) ?_
  refine lv_aload_n hx hb d_M_putBack_9 rfl (lv_at hl 0 rfl) ?_
  refine fg_M_114 C hw hc0 d_M_putBack_10 ?_
  refine ste h (fun s4 e24 h => ?_)
  refine fp_M_16 C hw hc0 d_M_putBack_13 (fun H locs hw => ?_)
  replace hw := HWe hw e24
  refine lv_iconst (v := 0) hx hb d_M_putBack_16 (by decide) ?_
  refine lv_istore_n (lv' := [(1, .int 0), (0, .ref (g.2.1 c0))]) hx hb d_M_putBack_17 rfl hl (by decide) rfl (fun ls hl => ?_)
  have L5 : ∀ (c0 : Nat) (hc0 : tg BM c0 20) (n : Nat) (x1 : Int32) (σ : St) (H : Heap) (locs : List Loc) (ls : Array Slot), HW BM g A s σ H locs → lv_has ls 2 [(0, .ref (g.2.1 c0)), (1, .int x1)] → ∀ (ex : St), f_M_putBack_l18 n c0 x1 σ = some ex → (∀ (y : St), ex = y → ∀ (H : Heap) (locs : List Loc) (ls : Array Slot), HW BM g A s y H locs → lv_has ls 2 [] → W p l e (rmL 1) s m args below meth c H locs 0 0 (MQ below (QV BM g q A) args s 0 0 A) (F0 m 66 ls [])) → (True) → W p l e (rmL 1) s m args below meth c H locs 0 0 (MQ below (QV BM g q A) args s 0 0 A) (F0 m 18 ls []) := by
    intro c0 hc0 n
    induction n with
    | zero =>
      intro x1 σ H locs ls hw hl ex h kx5 kr5
      cases h
    | succ n ih =>
      intro x1 σ H locs ls hw hl ex h kx5 kr5
      rw [f_M_putBack_l18] at h
      refine lv_iload_n hx hb d_M_putBack_18 rfl (lv_at hl 1 rfl) ?_
      refine lv_bipush (v := 6) hx hb d_M_putBack_19 (by decide) ?_
      refine lv_icmp_ge (tgt := 66) hx hb d_M_putBack_21 (by decide) (fun b6 => ?_) (fun b6 => ?_)
      · replace h := ifp b6 h
        exact kx5 _ (Option.some.inj h).symm H locs ls hw (lv_sub hl [] rfl)
      · replace h := ifn b6 h
        refine lv_aload_n hx hb d_M_putBack_24 rfl (lv_at hl 0 rfl) ?_
        refine fg_M_29 C hw hc0 d_M_putBack_25 ?_
        refine lv_iload_n hx hb d_M_putBack_28 rfl (lv_at hl 1 rfl) ?_
        refine lv_aload_n hx hb d_M_putBack_29 rfl (lv_at hl 0 rfl) ?_
        refine fg_M_117 C hw hc0 d_M_putBack_30 ?_
        refine lv_iload_n hx hb d_M_putBack_33 rfl (lv_at hl 1 rfl) ?_
        refine gde h (fun g7 h => ?_)
        refine ldI (n := 6) C hw tM_18 (by decide) g7 d_M_putBack_34 ?_
        refine gde h (fun g8 h => ?_)
        refine ste h (fun s9 e18 h => ?_)
        refine stI (n := 6) C hw tM_4 (by decide) g8 d_M_putBack_35 (fun H locs hw => ?_)
        replace hw := HWe hw e18
        refine lv_aload_n hx hb d_M_putBack_36 rfl (lv_at hl 0 rfl) ?_
        refine fg_M_32 C hw hc0 d_M_putBack_37 ?_
        refine lv_iload_n hx hb d_M_putBack_40 rfl (lv_at hl 1 rfl) ?_
        refine lv_aload_n hx hb d_M_putBack_41 rfl (lv_at hl 0 rfl) ?_
        refine fg_M_120 C hw hc0 d_M_putBack_42 ?_
        refine lv_iload_n hx hb d_M_putBack_45 rfl (lv_at hl 1 rfl) ?_
        refine gde h (fun g10 h => ?_)
        refine ldI (n := 6) C hw tM_19 (by decide) g10 d_M_putBack_46 ?_
        refine gde h (fun g11 h => ?_)
        refine ste h (fun s12 e17 h => ?_)
        refine stI (n := 6) C hw tM_5 (by decide) g11 d_M_putBack_47 (fun H locs hw => ?_)
        replace hw := HWe hw e17
        refine lv_aload_n hx hb d_M_putBack_48 rfl (lv_at hl 0 rfl) ?_
        refine fg_M_35 C hw hc0 d_M_putBack_49 ?_
        refine lv_iload_n hx hb d_M_putBack_52 rfl (lv_at hl 1 rfl) ?_
        refine lv_aload_n hx hb d_M_putBack_53 rfl (lv_at hl 0 rfl) ?_
        refine fg_M_123 C hw hc0 d_M_putBack_54 ?_
        refine lv_iload_n hx hb d_M_putBack_57 rfl (lv_at hl 1 rfl) ?_
        refine gde h (fun g13 h => ?_)
        refine ldI (n := 6) C hw tM_20 (by decide) g13 d_M_putBack_58 ?_
        refine gde h (fun g14 h => ?_)
        refine ste h (fun s15 e16 h => ?_)
        refine stI (n := 6) C hw tM_6 (by decide) g14 d_M_putBack_59 (fun H locs hw => ?_)
        replace hw := HWe hw e16
        refine lv_iinc (v := (x1 + 1)) (lv' := [(1, .int (x1 + 1)), (0, .ref (g.2.1 c0))]) hx hb d_M_putBack_60 hl (k := 1) rfl rfl (by decide) rfl (fun ls hl => ?_)
        refine lv_goto (tgt := 18) hx hb d_M_putBack_63 (by decide) ?_
        exact ih (x1 + 1) s15 H locs ls hw (lv_sub hl [1, 0] rfl) ex h kx5 kr5
  refine bnd h (fun x_19 k20 h => ?_)
  refine L5 c0 hc0 FU 0 s4 H locs ls hw (lv_sub hl [1, 0] rfl) x_19 k20 (fun y22 e23 H locs ls hw hl => ?_) trivial
  subst e23
  exact retV C hw rfl (Option.some.inj h) d_M_putBack_66
def f_M_goDays_l2 : Nat → Nat → Int32 → Int32 → St → Option (St)
  | 0, _, _, _, _ => none
  | n + 1, c0, x1, x2, σ => (if x1 ≤ x2 then some σ else ((f_M_goDay c0 σ).bind fun q3 => (f_M_goDays_l2 n c0 x1 (x2 + 1) q3)))
def f_M_goDays (c0 : Nat) (p1 : Int32) (σ : St) : Option (St) := ((f_M_goDays_l2 FU c0 p1 0 σ).bind fun x_5 => some x_5)
set_option maxHeartbeats 400000 in
set_option maxRecDepth 20000 in
theorem c_M_goDays (g : GX) (c0 : Nat) (hc0 : tg BM c0 20) (p1 : Int32) (σ : St) (q : St) (h : f_M_goDays c0 p1 σ = some q) (l : Launch) : CT BM l y_M_goDays (v_M_goDays :: lwG) 8 [.ref (g.2.1 c0), .int p1] g σ (QV BM g q) := by
  refine mkC (cc := b_M_goDays) (maxL := 3) (ret := none) rfl (by decide) rfl (Nat.le_of_ble_eq_true rfl) ?_
  intro p e s m args below meth c A ls C hl hw
  obtain ⟨hx, hb, hr, hml, hown, hts, hK, hE, hA, hlk⟩ := id C
  replace hl : lv_has ls 3 [(0, .ref (g.2.1 c0)), (1, .int p1)] := hl
  obtain ⟨H, hH⟩ : ∃ z, z = s.heap := ⟨_, rfl⟩
  rw [← hH] at hw ⊢
  obtain ⟨locs, hlo⟩ : ∃ z : List Loc, z = [] := ⟨_, rfl⟩
  rw [← hlo] at hw ⊢
  unfold f_M_goDays at h
  refine lv_iconst (v := 0) hx hb d_M_goDays_0 (by decide) ?_
  refine lv_istore_n (lv' := [(2, .int 0), (0, .ref (g.2.1 c0)), (1, .int p1)]) hx hb d_M_goDays_1 rfl hl (by decide) rfl (fun ls hl => ?_)
  have L1 : ∀ (c0 : Nat) (hc0 : tg BM c0 20) (x1 : Int32) (n : Nat) (x2 : Int32) (σ : St) (H : Heap) (locs : List Loc) (ls : Array Slot), HW BM g A s σ H locs → lv_has ls 3 [(0, .ref (g.2.1 c0)), (1, .int x1), (2, .int x2)] → ∀ (ex : St), f_M_goDays_l2 n c0 x1 x2 σ = some ex → (∀ (y : St), ex = y → ∀ (H : Heap) (locs : List Loc) (ls : Array Slot), HW BM g A s y H locs → lv_has ls 3 [] → W p l e (rmL 8) s m args below meth c H locs 0 0 (MQ below (QV BM g q A) args s 0 0 A) (F0 m 17 ls [])) → (True) → W p l e (rmL 8) s m args below meth c H locs 0 0 (MQ below (QV BM g q A) args s 0 0 A) (F0 m 2 ls []) := by
    intro c0 hc0 x1 n
    induction n with
    | zero =>
      intro x2 σ H locs ls hw hl ex h kx1 kr1
      cases h
    | succ n ih =>
      intro x2 σ H locs ls hw hl ex h kx1 kr1
      rw [f_M_goDays_l2] at h
      refine lv_iload_n hx hb d_M_goDays_2 rfl (lv_at hl 2 rfl) ?_
      refine lv_iload_n hx hb d_M_goDays_3 rfl (lv_at hl 1 rfl) ?_
      refine lv_icmp_ge (tgt := 17) hx hb d_M_goDays_4 (by decide) (fun b2 => ?_) (fun b2 => ?_)
      · replace h := ifp b2 h
        exact kx1 _ (Option.some.inj h).symm H locs ls hw (lv_sub hl [] rfl)
      · replace h := ifn b2 h
        refine lv_aload_n hx hb d_M_goDays_7 rfl (lv_at hl 0 rfl) ?_
        refine bnd h (fun q3 k4 h => ?_)
        refine clV C hw (invV (As := []) C hw (c_M_goDay g c0 hc0 σ q3 k4 l) rfl wc_M_322 nd_M_goDay ⟨by decide, by decide⟩ (rc_M C hw hc0) rfl hl.1 rfl (Nat.le_of_ble_eq_true rfl) d_M_goDays_8 ⟨Nat.le_refl _, Nat.le_refl _⟩) (fun H locs hw => ?_)
        refine lv_iinc (v := (x2 + 1)) (lv' := [(2, .int (x2 + 1)), (0, .ref (g.2.1 c0)), (1, .int x1)]) hx hb d_M_goDays_11 hl (k := 2) rfl rfl (by decide) rfl (fun ls hl => ?_)
        refine lv_goto (tgt := 2) hx hb d_M_goDays_14 (by decide) ?_
        exact ih (x2 + 1) q3 H locs ls hw (lv_sub hl [1, 2, 0] rfl) ex h kx1 kr1
  refine bnd h (fun x_5 k6 h => ?_)
  refine L1 c0 hc0 p1 FU 0 σ H locs ls hw (lv_sub hl [1, 2, 0] rfl) x_5 k6 (fun y8 e9 H locs ls hw hl => ?_) trivial
  subst e9
  exact retV C hw rfl (Option.some.inj h) d_M_goDays_17
def f_M_moreOf (c0 : Nat) (p1 : Int32) (σ : St) : Option (Int32) := (if 20 ≤ p1 then (if ok (p1 - 20) 6 = true then (if ok (p1 - 20) 6 = true then some ((vJ σ 5 (nx (p1 - 20))) - (vJ σ 19 (nx (p1 - 20)))) else none) else none) else (if ok (p1 - 10) 6 = true then (if ok (p1 - 10) 6 = true then some ((vJ σ 4 (nx (p1 - 10))) - (vJ σ 18 (nx (p1 - 10)))) else none) else none))
set_option maxHeartbeats 400000 in
set_option maxRecDepth 20000 in
theorem c_M_moreOf (g : GX) (c0 : Nat) (hc0 : tg BM c0 20) (p1 : Int32) (σ : St) (q : Int32) (h : f_M_moreOf c0 p1 σ = some q) (l : Launch) : CT BM l y_M_moreOf (v_M_moreOf :: lwG) 1 [.ref (g.2.1 c0), .int p1] g σ (QI BM g (q, σ)) := by
  refine mkC (cc := b_M_moreOf) (maxL := 2) (ret := (some .int)) rfl (by decide) rfl (Nat.le_of_ble_eq_true rfl) ?_
  intro p e s m args below meth c A ls C hl hw
  obtain ⟨hx, hb, hr, hml, hown, hts, hK, hE, hA, hlk⟩ := id C
  replace hl : lv_has ls 2 [(0, .ref (g.2.1 c0)), (1, .int p1)] := hl
  obtain ⟨H, hH⟩ : ∃ z, z = s.heap := ⟨_, rfl⟩
  rw [← hH] at hw ⊢
  obtain ⟨locs, hlo⟩ : ∃ z : List Loc, z = [] := ⟨_, rfl⟩
  rw [← hlo] at hw ⊢
  unfold f_M_moreOf at h
  refine lv_iload_n hx hb d_M_moreOf_0 rfl (lv_at hl 1 rfl) ?_
  refine lv_bipush (v := 20) hx hb d_M_moreOf_1 (by decide) ?_
  refine lv_icmp_ge (tgt := 26) hx hb d_M_moreOf_3 (by decide) (fun b1 => ?_) (fun b1 => ?_)
  · replace h := ifp b1 h
    refine lv_aload_n hx hb d_M_moreOf_26 rfl (lv_at hl 0 rfl) ?_
    refine fg_M_32 C hw hc0 d_M_moreOf_27 ?_
    refine lv_iload_n hx hb d_M_moreOf_30 rfl (lv_at hl 1 rfl) ?_
    refine lv_bipush (v := 20) hx hb d_M_moreOf_31 (by decide) ?_
    refine lv_isub hx hb d_M_moreOf_33 ?_
    refine gde h (fun g2 h => ?_)
    refine ldI (n := 6) C hw tM_5 (by decide) g2 d_M_moreOf_34 ?_
    refine lv_aload_n hx hb d_M_moreOf_35 rfl (lv_at hl 0 rfl) ?_
    refine fg_M_120 C hw hc0 d_M_moreOf_36 ?_
    refine lv_iload_n hx hb d_M_moreOf_39 rfl (lv_at hl 1 rfl) ?_
    refine lv_bipush (v := 20) hx hb d_M_moreOf_40 (by decide) ?_
    refine lv_isub hx hb d_M_moreOf_42 ?_
    refine gde h (fun g3 h => ?_)
    refine ldI (n := 6) C hw tM_19 (by decide) g3 d_M_moreOf_43 ?_
    refine lv_isub hx hb d_M_moreOf_44 ?_
    exact retI C hw rfl (congrArg (fun z => (z, σ)) (Option.some.inj h)) d_M_moreOf_45
  · replace h := ifn b1 h
    refine lv_aload_n hx hb d_M_moreOf_6 rfl (lv_at hl 0 rfl) ?_
    refine fg_M_29 C hw hc0 d_M_moreOf_7 ?_
    refine lv_iload_n hx hb d_M_moreOf_10 rfl (lv_at hl 1 rfl) ?_
    refine lv_bipush (v := 10) hx hb d_M_moreOf_11 (by decide) ?_
    refine lv_isub hx hb d_M_moreOf_13 ?_
    refine gde h (fun g4 h => ?_)
    refine ldI (n := 6) C hw tM_4 (by decide) g4 d_M_moreOf_14 ?_
    refine lv_aload_n hx hb d_M_moreOf_15 rfl (lv_at hl 0 rfl) ?_
    refine fg_M_117 C hw hc0 d_M_moreOf_16 ?_
    refine lv_iload_n hx hb d_M_moreOf_19 rfl (lv_at hl 1 rfl) ?_
    refine lv_bipush (v := 10) hx hb d_M_moreOf_20 (by decide) ?_
    refine lv_isub hx hb d_M_moreOf_22 ?_
    refine gde h (fun g5 h => ?_)
    refine ldI (n := 6) C hw tM_18 (by decide) g5 d_M_moreOf_23 ?_
    refine lv_isub hx hb d_M_moreOf_24 ?_
    exact retI C hw rfl (congrArg (fun z => (z, σ)) (Option.some.inj h)) d_M_moreOf_25
def f_M_on (c0 : Nat) (p1 : Int32) (p2 : Int32) (σ : St) : Option (Int32 × St) := (if (f_M_in c0 p2 0 2) = false then (if (f_M_in c0 p2 10 (9 + (vI σ c0 0))) = false then (if (f_M_in c0 p2 20 (19 + (vI σ c0 0))) = false then some ((-1), σ) else (if (f_M_in c0 p1 0 60) = false then some ((-2), σ) else ((f_M_sum c0 0 σ).bind fun q59 => ((f_M_sum c0 1 σ).bind fun q61 => ((f_M_keep c0 σ).bind fun q63 => ((f_M_goDays c0 p1 q63).bind fun q65 => (((if p2 = 0 then some (vI q65 c0 1) else (if p2 = 1 then ((f_M_sum c0 0 q65).bind fun q79 => some (q79 - q59)) else (if p2 = 2 then ((f_M_sum c0 1 q65).bind fun q76 => some (q76 - q61)) else ((f_M_moreOf c0 p2 q65).bind fun q73 => some q73)))) : Option (Int32)).bind fun q67 => ((f_M_putBack c0 q65).bind fun q83 => some (q67, q83))))))))) else (if (f_M_in c0 p1 0 60) = false then some ((-2), σ) else ((f_M_sum c0 0 σ).bind fun q31 => ((f_M_sum c0 1 σ).bind fun q33 => ((f_M_keep c0 σ).bind fun q35 => ((f_M_goDays c0 p1 q35).bind fun q37 => (((if p2 = 0 then some (vI q37 c0 1) else (if p2 = 1 then ((f_M_sum c0 0 q37).bind fun q51 => some (q51 - q31)) else (if p2 = 2 then ((f_M_sum c0 1 q37).bind fun q48 => some (q48 - q33)) else ((f_M_moreOf c0 p2 q37).bind fun q45 => some q45)))) : Option (Int32)).bind fun q39 => ((f_M_putBack c0 q37).bind fun q55 => some (q39, q55))))))))) else (if (f_M_in c0 p1 0 60) = false then some ((-2), σ) else ((f_M_sum c0 0 σ).bind fun q3 => ((f_M_sum c0 1 σ).bind fun q5 => ((f_M_keep c0 σ).bind fun q7 => ((f_M_goDays c0 p1 q7).bind fun q9 => (((if p2 = 0 then some (vI q9 c0 1) else (if p2 = 1 then ((f_M_sum c0 0 q9).bind fun q23 => some (q23 - q3)) else (if p2 = 2 then ((f_M_sum c0 1 q9).bind fun q20 => some (q20 - q5)) else ((f_M_moreOf c0 p2 q9).bind fun q17 => some q17)))) : Option (Int32)).bind fun q11 => ((f_M_putBack c0 q9).bind fun q27 => some (q11, q27)))))))))
set_option maxHeartbeats 400000 in
set_option maxRecDepth 20000 in
theorem c_M_on (g : GX) (c0 : Nat) (hc0 : tg BM c0 20) (p1 : Int32) (p2 : Int32) (σ : St) (q : Int32 × St) (h : f_M_on c0 p1 p2 σ = some q) (l : Launch) : CT BM l y_M_on (v_M_on :: lwG) 9 [.ref (g.2.1 c0), .int p1, .int p2] g σ (QI BM g q) := by
  refine mkC (cc := b_M_on) (maxL := 6) (ret := (some .int)) rfl (by decide) rfl (Nat.le_of_ble_eq_true rfl) ?_
  intro p e s m args below meth c A ls C hl hw
  obtain ⟨hx, hb, hr, hml, hown, hts, hK, hE, hA, hlk⟩ := id C
  replace hl : lv_has ls 6 [(0, .ref (g.2.1 c0)), (1, .int p1), (2, .int p2)] := hl
  obtain ⟨H, hH⟩ : ∃ z, z = s.heap := ⟨_, rfl⟩
  rw [← hH] at hw ⊢
  obtain ⟨locs, hlo⟩ : ∃ z : List Loc, z = [] := ⟨_, rfl⟩
  rw [← hlo] at hw ⊢
  unfold f_M_on at h
  refine lv_aload_n hx hb d_M_on_0 rfl (lv_at hl 0 rfl) ?_
  refine lv_iload_n hx hb d_M_on_1 rfl (lv_at hl 2 rfl) ?_
  refine lv_iconst (v := 0) hx hb d_M_on_2 (by decide) ?_
  refine lv_iconst (v := 2) hx hb d_M_on_3 (by decide) ?_
  refine clZ0 (v := (f_M_in c0 p2 0 2)) C hw (invV (As := [.int p2, .int 0, .int 2]) C hw (c_M_in g c0 hc0 p2 0 2 σ l) rfl wc_M_218 nd_M_in ⟨by decide, by decide⟩ (rc_M C hw hc0) rfl hl.1 rfl (Nat.le_of_ble_eq_true rfl) d_M_on_4 ⟨Nat.le_refl _, Nat.le_refl _⟩) (fun H locs hw => ?_)
  refine ifnB (tgt := 46) C d_M_on_7 (by decide) (fun b1 => ?_) (fun b1 => ?_)
  · replace h := ifn b1 h
    refine lv_aload_n hx hb d_M_on_46 rfl (lv_at hl 0 rfl) ?_
    refine lv_iload_n hx hb d_M_on_47 rfl (lv_at hl 1 rfl) ?_
    refine lv_iconst (v := 0) hx hb d_M_on_48 (by decide) ?_
    refine lv_bipush (v := 60) hx hb d_M_on_49 (by decide) ?_
    refine clZ0 (v := (f_M_in c0 p1 0 60)) C hw (invV (As := [.int p1, .int 0, .int 60]) C hw (c_M_in g c0 hc0 p1 0 60 σ l) rfl wc_M_218 nd_M_in ⟨by decide, by decide⟩ (rc_M C hw hc0) rfl hl.1 rfl (Nat.le_of_ble_eq_true rfl) d_M_on_51 ⟨Nat.le_refl _, Nat.le_refl _⟩) (fun H locs hw => ?_)
    refine ifnB (tgt := 60) C d_M_on_54 (by decide) (fun b2 => ?_) (fun b2 => ?_)
    · replace h := ifn b2 h
      refine lv_aload_n hx hb d_M_on_60 rfl (lv_at hl 0 rfl) ?_
      refine lv_iconst (v := 0) hx hb d_M_on_61 (by decide) ?_
      refine bnd h (fun q3 k4 h => ?_)
      refine clI0 (v := q3) C hw (invV (As := [.int 0]) C hw (c_M_sum g c0 hc0 0 σ q3 k4 l) rfl wc_M_301 nd_M_sum ⟨by decide, by decide⟩ (rc_M C hw hc0) rfl hl.1 rfl (Nat.le_of_ble_eq_true rfl) d_M_on_62 ⟨Nat.le_refl _, Nat.le_refl _⟩) (fun H locs hw => ?_)
      refine lv_istore_n (lv' := [(3, .int q3), (0, .ref (g.2.1 c0)), (1, .int p1), (2, .int p2)]) hx hb d_M_on_65 rfl hl (by decide) rfl (fun ls hl => ?_)
      refine lv_aload_n hx hb d_M_on_66 rfl (lv_at hl 1 rfl) ?_
      refine lv_iconst (v := 1) hx hb d_M_on_67 (by decide) ?_
      refine bnd h (fun q5 k6 h => ?_)
      refine clI0 (v := q5) C hw (invV (As := [.int 1]) C hw (c_M_sum g c0 hc0 1 σ q5 k6 l) rfl wc_M_301 nd_M_sum ⟨by decide, by decide⟩ (rc_M C hw hc0) rfl hl.1 rfl (Nat.le_of_ble_eq_true rfl) d_M_on_68 ⟨Nat.le_refl _, Nat.le_refl _⟩) (fun H locs hw => ?_)
      refine lv_istore (lv' := [(4, .int q5), (3, .int q3), (0, .ref (g.2.1 c0)), (1, .int p1), (2, .int p2)]) hx hb d_M_on_71 hl (by decide) rfl (fun ls hl => ?_)
      refine lv_aload_n hx hb d_M_on_73 rfl (lv_at hl 2 rfl) ?_
      refine bnd h (fun q7 k8 h => ?_)
      refine clV C hw (invV (As := []) C hw (c_M_keep g c0 hc0 σ q7 k8 l) rfl wc_M_325 nd_M_keep ⟨by decide, by decide⟩ (rc_M C hw hc0) rfl hl.1 rfl (Nat.le_of_ble_eq_true rfl) d_M_on_74 ⟨Nat.le_refl _, Nat.le_refl _⟩) (fun H locs hw => ?_)
      refine lv_aload_n hx hb d_M_on_77 rfl (lv_at hl 2 rfl) ?_
      refine lv_iload_n hx hb d_M_on_78 rfl (lv_at hl 3 rfl) ?_
      refine bnd h (fun q9 k10 h => ?_)
      refine clV C hw (invV (As := [.int p1]) C hw (c_M_goDays g c0 hc0 p1 q7 q9 k10 l) rfl wc_M_328 nd_M_goDays ⟨by decide, by decide⟩ (rc_M C hw hc0) rfl hl.1 rfl (Nat.le_of_ble_eq_true rfl) d_M_on_79 ⟨Nat.le_refl _, Nat.le_refl _⟩) (fun H locs hw => ?_)
      refine lv_iload_n hx hb d_M_on_82 rfl (lv_at hl 4 rfl) ?_
      refine bnd h (fun q11 h12 h => ?_)
      have J13 : ∀ (H : Heap) (locs : List Loc) (ls : Array Slot), HW BM g A s q9 H locs → lv_has ls 6 [(0, .ref (g.2.1 c0))] → W p l e (rmL 9) s m args below meth c H locs 0 0 (MQ below (QI BM g q A) args s 0 0 A) (F0 m 129 ls [.int q11]) := by
        intro H locs ls hw hl
        refine lv_istore (lv' := [(5, .int q11), (0, .ref (g.2.1 c0))]) hx hb d_M_on_129 hl (by decide) rfl (fun ls hl => ?_)
        refine lv_aload_n hx hb d_M_on_131 rfl (lv_at hl 1 rfl) ?_
        refine bnd h (fun q27 k28 h => ?_)
        refine clV C hw (invV (As := []) C hw (c_M_putBack g c0 hc0 q9 q27 k28 l) rfl wc_M_334 nd_M_putBack ⟨by decide, by decide⟩ (rc_M C hw hc0) rfl hl.1 rfl (Nat.le_of_ble_eq_true rfl) d_M_on_132 ⟨Nat.le_refl _, Nat.le_refl _⟩) (fun H locs hw => ?_)
        refine lv_iload hx hb d_M_on_135 (lv_at hl 0 rfl) ?_
        exact retI C hw rfl (Option.some.inj h) d_M_on_137
      refine lv_if_ne (tgt := 93) hx hb d_M_on_83 (by decide) (fun b14 => ?_) (fun b14 => ?_)
      · replace h12 := ifn b14 h12
        refine lv_iload_n hx hb d_M_on_93 rfl (lv_at hl 4 rfl) ?_
        refine lv_iconst (v := 1) hx hb d_M_on_94 (by decide) ?_
        refine lv_icmp_ne (tgt := 108) hx hb d_M_on_95 (by decide) (fun b15 => ?_) (fun b15 => ?_)
        · replace h12 := ifn b15 h12
          refine lv_iload_n hx hb d_M_on_108 rfl (lv_at hl 4 rfl) ?_
          refine lv_iconst (v := 2) hx hb d_M_on_109 (by decide) ?_
          refine lv_icmp_ne (tgt := 124) hx hb d_M_on_110 (by decide) (fun b16 => ?_) (fun b16 => ?_)
          · replace h12 := ifn b16 h12
            refine lv_aload_n hx hb d_M_on_124 rfl (lv_at hl 2 rfl) ?_
            refine lv_iload_n hx hb d_M_on_125 rfl (lv_at hl 4 rfl) ?_
            refine bnd h12 (fun q17 k18 h12 => ?_)
            refine clI0 (v := q17) C hw (invV (As := [.int p2]) C hw (c_M_moreOf g c0 hc0 p2 q9 q17 k18 l) rfl wc_M_331 nd_M_moreOf ⟨by decide, by decide⟩ (rc_M C hw hc0) rfl hl.1 rfl (Nat.le_of_ble_eq_true rfl) d_M_on_126 ⟨Nat.le_refl _, Nat.le_refl _⟩) (fun H locs hw => ?_)
            have e19 := Option.some.inj h12
            subst e19
            exact J13 H locs ls hw (lv_sub hl [2] rfl)
          · replace h12 := ifp b16 h12
            refine lv_aload_n hx hb d_M_on_113 rfl (lv_at hl 2 rfl) ?_
            refine lv_iconst (v := 1) hx hb d_M_on_114 (by decide) ?_
            refine bnd h12 (fun q20 k21 h12 => ?_)
            refine clI0 (v := q20) C hw (invV (As := [.int 1]) C hw (c_M_sum g c0 hc0 1 q9 q20 k21 l) rfl wc_M_301 nd_M_sum ⟨by decide, by decide⟩ (rc_M C hw hc0) rfl hl.1 rfl (Nat.le_of_ble_eq_true rfl) d_M_on_115 ⟨Nat.le_refl _, Nat.le_refl _⟩) (fun H locs hw => ?_)
            refine lv_iload hx hb d_M_on_118 (lv_at hl 0 rfl) ?_
            refine lv_isub hx hb d_M_on_120 ?_
            refine lv_goto (tgt := 129) hx hb d_M_on_121 (by decide) ?_
            have e22 := Option.some.inj h12
            subst e22
            exact J13 H locs ls hw (lv_sub hl [2] rfl)
        · replace h12 := ifp b15 h12
          refine lv_aload_n hx hb d_M_on_98 rfl (lv_at hl 2 rfl) ?_
          refine lv_iconst (v := 0) hx hb d_M_on_99 (by decide) ?_
          refine bnd h12 (fun q23 k24 h12 => ?_)
          refine clI0 (v := q23) C hw (invV (As := [.int 0]) C hw (c_M_sum g c0 hc0 0 q9 q23 k24 l) rfl wc_M_301 nd_M_sum ⟨by decide, by decide⟩ (rc_M C hw hc0) rfl hl.1 rfl (Nat.le_of_ble_eq_true rfl) d_M_on_100 ⟨Nat.le_refl _, Nat.le_refl _⟩) (fun H locs hw => ?_)
          refine lv_iload_n hx hb d_M_on_103 rfl (lv_at hl 1 rfl) ?_
          refine lv_isub hx hb d_M_on_104 ?_
          refine lv_goto (tgt := 129) hx hb d_M_on_105 (by decide) ?_
          have e25 := Option.some.inj h12
          subst e25
          exact J13 H locs ls hw (lv_sub hl [2] rfl)
      · replace h12 := ifp b14 h12
        refine lv_aload_n hx hb d_M_on_86 rfl (lv_at hl 2 rfl) ?_
        refine fg_M_13 C hw hc0 d_M_on_87 ?_
        refine lv_goto (tgt := 129) hx hb d_M_on_90 (by decide) ?_
        have e26 := Option.some.inj h12
        subst e26
        exact J13 H locs ls hw (lv_sub hl [2] rfl)
    · replace h := ifp b2 h
      refine lv_bipush (v := (-2)) hx hb d_M_on_57 (by decide) ?_
      exact retI C hw rfl (Option.some.inj h) d_M_on_59
  · replace h := ifp b1 h
    refine lv_aload_n hx hb d_M_on_10 rfl (lv_at hl 0 rfl) ?_
    refine lv_iload_n hx hb d_M_on_11 rfl (lv_at hl 2 rfl) ?_
    refine lv_bipush (v := 10) hx hb d_M_on_12 (by decide) ?_
    refine lv_bipush (v := 9) hx hb d_M_on_14 (by decide) ?_
    refine lv_aload_n hx hb d_M_on_16 rfl (lv_at hl 0 rfl) ?_
    refine fg_M_7 C hw hc0 d_M_on_17 ?_
    refine lv_iadd hx hb d_M_on_20 ?_
    refine clZ0 (v := (f_M_in c0 p2 10 (9 + (vI σ c0 0)))) C hw (invV (As := [.int p2, .int 10, .int (9 + (vI σ c0 0))]) C hw (c_M_in g c0 hc0 p2 10 (9 + (vI σ c0 0)) σ l) rfl wc_M_218 nd_M_in ⟨by decide, by decide⟩ (rc_M C hw hc0) rfl hl.1 rfl (Nat.le_of_ble_eq_true rfl) d_M_on_21 ⟨Nat.le_refl _, Nat.le_refl _⟩) (fun H locs hw => ?_)
    refine ifnB (tgt := 46) C d_M_on_24 (by decide) (fun b29 => ?_) (fun b29 => ?_)
    · replace h := ifn b29 h
      refine lv_aload_n hx hb d_M_on_46 rfl (lv_at hl 0 rfl) ?_
      refine lv_iload_n hx hb d_M_on_47 rfl (lv_at hl 1 rfl) ?_
      refine lv_iconst (v := 0) hx hb d_M_on_48 (by decide) ?_
      refine lv_bipush (v := 60) hx hb d_M_on_49 (by decide) ?_
      refine clZ0 (v := (f_M_in c0 p1 0 60)) C hw (invV (As := [.int p1, .int 0, .int 60]) C hw (c_M_in g c0 hc0 p1 0 60 σ l) rfl wc_M_218 nd_M_in ⟨by decide, by decide⟩ (rc_M C hw hc0) rfl hl.1 rfl (Nat.le_of_ble_eq_true rfl) d_M_on_51 ⟨Nat.le_refl _, Nat.le_refl _⟩) (fun H locs hw => ?_)
      refine ifnB (tgt := 60) C d_M_on_54 (by decide) (fun b30 => ?_) (fun b30 => ?_)
      · replace h := ifn b30 h
        refine lv_aload_n hx hb d_M_on_60 rfl (lv_at hl 0 rfl) ?_
        refine lv_iconst (v := 0) hx hb d_M_on_61 (by decide) ?_
        refine bnd h (fun q31 k32 h => ?_)
        refine clI0 (v := q31) C hw (invV (As := [.int 0]) C hw (c_M_sum g c0 hc0 0 σ q31 k32 l) rfl wc_M_301 nd_M_sum ⟨by decide, by decide⟩ (rc_M C hw hc0) rfl hl.1 rfl (Nat.le_of_ble_eq_true rfl) d_M_on_62 ⟨Nat.le_refl _, Nat.le_refl _⟩) (fun H locs hw => ?_)
        refine lv_istore_n (lv' := [(3, .int q31), (0, .ref (g.2.1 c0)), (1, .int p1), (2, .int p2)]) hx hb d_M_on_65 rfl hl (by decide) rfl (fun ls hl => ?_)
        refine lv_aload_n hx hb d_M_on_66 rfl (lv_at hl 1 rfl) ?_
        refine lv_iconst (v := 1) hx hb d_M_on_67 (by decide) ?_
        refine bnd h (fun q33 k34 h => ?_)
        refine clI0 (v := q33) C hw (invV (As := [.int 1]) C hw (c_M_sum g c0 hc0 1 σ q33 k34 l) rfl wc_M_301 nd_M_sum ⟨by decide, by decide⟩ (rc_M C hw hc0) rfl hl.1 rfl (Nat.le_of_ble_eq_true rfl) d_M_on_68 ⟨Nat.le_refl _, Nat.le_refl _⟩) (fun H locs hw => ?_)
        refine lv_istore (lv' := [(4, .int q33), (3, .int q31), (0, .ref (g.2.1 c0)), (1, .int p1), (2, .int p2)]) hx hb d_M_on_71 hl (by decide) rfl (fun ls hl => ?_)
        refine lv_aload_n hx hb d_M_on_73 rfl (lv_at hl 2 rfl) ?_
        refine bnd h (fun q35 k36 h => ?_)
        refine clV C hw (invV (As := []) C hw (c_M_keep g c0 hc0 σ q35 k36 l) rfl wc_M_325 nd_M_keep ⟨by decide, by decide⟩ (rc_M C hw hc0) rfl hl.1 rfl (Nat.le_of_ble_eq_true rfl) d_M_on_74 ⟨Nat.le_refl _, Nat.le_refl _⟩) (fun H locs hw => ?_)
        refine lv_aload_n hx hb d_M_on_77 rfl (lv_at hl 2 rfl) ?_
        refine lv_iload_n hx hb d_M_on_78 rfl (lv_at hl 3 rfl) ?_
        refine bnd h (fun q37 k38 h => ?_)
        refine clV C hw (invV (As := [.int p1]) C hw (c_M_goDays g c0 hc0 p1 q35 q37 k38 l) rfl wc_M_328 nd_M_goDays ⟨by decide, by decide⟩ (rc_M C hw hc0) rfl hl.1 rfl (Nat.le_of_ble_eq_true rfl) d_M_on_79 ⟨Nat.le_refl _, Nat.le_refl _⟩) (fun H locs hw => ?_)
        refine lv_iload_n hx hb d_M_on_82 rfl (lv_at hl 4 rfl) ?_
        refine bnd h (fun q39 h40 h => ?_)
        have J41 : ∀ (H : Heap) (locs : List Loc) (ls : Array Slot), HW BM g A s q37 H locs → lv_has ls 6 [(0, .ref (g.2.1 c0))] → W p l e (rmL 9) s m args below meth c H locs 0 0 (MQ below (QI BM g q A) args s 0 0 A) (F0 m 129 ls [.int q39]) := by
          intro H locs ls hw hl
          refine lv_istore (lv' := [(5, .int q39), (0, .ref (g.2.1 c0))]) hx hb d_M_on_129 hl (by decide) rfl (fun ls hl => ?_)
          refine lv_aload_n hx hb d_M_on_131 rfl (lv_at hl 1 rfl) ?_
          refine bnd h (fun q55 k56 h => ?_)
          refine clV C hw (invV (As := []) C hw (c_M_putBack g c0 hc0 q37 q55 k56 l) rfl wc_M_334 nd_M_putBack ⟨by decide, by decide⟩ (rc_M C hw hc0) rfl hl.1 rfl (Nat.le_of_ble_eq_true rfl) d_M_on_132 ⟨Nat.le_refl _, Nat.le_refl _⟩) (fun H locs hw => ?_)
          refine lv_iload hx hb d_M_on_135 (lv_at hl 0 rfl) ?_
          exact retI C hw rfl (Option.some.inj h) d_M_on_137
        refine lv_if_ne (tgt := 93) hx hb d_M_on_83 (by decide) (fun b42 => ?_) (fun b42 => ?_)
        · replace h40 := ifn b42 h40
          refine lv_iload_n hx hb d_M_on_93 rfl (lv_at hl 4 rfl) ?_
          refine lv_iconst (v := 1) hx hb d_M_on_94 (by decide) ?_
          refine lv_icmp_ne (tgt := 108) hx hb d_M_on_95 (by decide) (fun b43 => ?_) (fun b43 => ?_)
          · replace h40 := ifn b43 h40
            refine lv_iload_n hx hb d_M_on_108 rfl (lv_at hl 4 rfl) ?_
            refine lv_iconst (v := 2) hx hb d_M_on_109 (by decide) ?_
            refine lv_icmp_ne (tgt := 124) hx hb d_M_on_110 (by decide) (fun b44 => ?_) (fun b44 => ?_)
            · replace h40 := ifn b44 h40
              refine lv_aload_n hx hb d_M_on_124 rfl (lv_at hl 2 rfl) ?_
              refine lv_iload_n hx hb d_M_on_125 rfl (lv_at hl 4 rfl) ?_
              refine bnd h40 (fun q45 k46 h40 => ?_)
              refine clI0 (v := q45) C hw (invV (As := [.int p2]) C hw (c_M_moreOf g c0 hc0 p2 q37 q45 k46 l) rfl wc_M_331 nd_M_moreOf ⟨by decide, by decide⟩ (rc_M C hw hc0) rfl hl.1 rfl (Nat.le_of_ble_eq_true rfl) d_M_on_126 ⟨Nat.le_refl _, Nat.le_refl _⟩) (fun H locs hw => ?_)
              have e47 := Option.some.inj h40
              subst e47
              exact J41 H locs ls hw (lv_sub hl [2] rfl)
            · replace h40 := ifp b44 h40
              refine lv_aload_n hx hb d_M_on_113 rfl (lv_at hl 2 rfl) ?_
              refine lv_iconst (v := 1) hx hb d_M_on_114 (by decide) ?_
              refine bnd h40 (fun q48 k49 h40 => ?_)
              refine clI0 (v := q48) C hw (invV (As := [.int 1]) C hw (c_M_sum g c0 hc0 1 q37 q48 k49 l) rfl wc_M_301 nd_M_sum ⟨by decide, by decide⟩ (rc_M C hw hc0) rfl hl.1 rfl (Nat.le_of_ble_eq_true rfl) d_M_on_115 ⟨Nat.le_refl _, Nat.le_refl _⟩) (fun H locs hw => ?_)
              refine lv_iload hx hb d_M_on_118 (lv_at hl 0 rfl) ?_
              refine lv_isub hx hb d_M_on_120 ?_
              refine lv_goto (tgt := 129) hx hb d_M_on_121 (by decide) ?_
              have e50 := Option.some.inj h40
              subst e50
              exact J41 H locs ls hw (lv_sub hl [2] rfl)
          · replace h40 := ifp b43 h40
            refine lv_aload_n hx hb d_M_on_98 rfl (lv_at hl 2 rfl) ?_
            refine lv_iconst (v := 0) hx hb d_M_on_99 (by decide) ?_
            refine bnd h40 (fun q51 k52 h40 => ?_)
            refine clI0 (v := q51) C hw (invV (As := [.int 0]) C hw (c_M_sum g c0 hc0 0 q37 q51 k52 l) rfl wc_M_301 nd_M_sum ⟨by decide, by decide⟩ (rc_M C hw hc0) rfl hl.1 rfl (Nat.le_of_ble_eq_true rfl) d_M_on_100 ⟨Nat.le_refl _, Nat.le_refl _⟩) (fun H locs hw => ?_)
            refine lv_iload_n hx hb d_M_on_103 rfl (lv_at hl 1 rfl) ?_
            refine lv_isub hx hb d_M_on_104 ?_
            refine lv_goto (tgt := 129) hx hb d_M_on_105 (by decide) ?_
            have e53 := Option.some.inj h40
            subst e53
            exact J41 H locs ls hw (lv_sub hl [2] rfl)
        · replace h40 := ifp b42 h40
          refine lv_aload_n hx hb d_M_on_86 rfl (lv_at hl 2 rfl) ?_
          refine fg_M_13 C hw hc0 d_M_on_87 ?_
          refine lv_goto (tgt := 129) hx hb d_M_on_90 (by decide) ?_
          have e54 := Option.some.inj h40
          subst e54
          exact J41 H locs ls hw (lv_sub hl [2] rfl)
      · replace h := ifp b30 h
        refine lv_bipush (v := (-2)) hx hb d_M_on_57 (by decide) ?_
        exact retI C hw rfl (Option.some.inj h) d_M_on_59
    · replace h := ifp b29 h
      refine lv_aload_n hx hb d_M_on_27 rfl (lv_at hl 0 rfl) ?_
      refine lv_iload_n hx hb d_M_on_28 rfl (lv_at hl 2 rfl) ?_
      refine lv_bipush (v := 20) hx hb d_M_on_29 (by decide) ?_
      refine lv_bipush (v := 19) hx hb d_M_on_31 (by decide) ?_
      refine lv_aload_n hx hb d_M_on_33 rfl (lv_at hl 0 rfl) ?_
      refine fg_M_7 C hw hc0 d_M_on_34 ?_
      refine lv_iadd hx hb d_M_on_37 ?_
      refine clZ0 (v := (f_M_in c0 p2 20 (19 + (vI σ c0 0)))) C hw (invV (As := [.int p2, .int 20, .int (19 + (vI σ c0 0))]) C hw (c_M_in g c0 hc0 p2 20 (19 + (vI σ c0 0)) σ l) rfl wc_M_218 nd_M_in ⟨by decide, by decide⟩ (rc_M C hw hc0) rfl hl.1 rfl (Nat.le_of_ble_eq_true rfl) d_M_on_38 ⟨Nat.le_refl _, Nat.le_refl _⟩) (fun H locs hw => ?_)
      refine ifnB (tgt := 46) C d_M_on_41 (by decide) (fun b57 => ?_) (fun b57 => ?_)
      · replace h := ifn b57 h
        refine lv_aload_n hx hb d_M_on_46 rfl (lv_at hl 0 rfl) ?_
        refine lv_iload_n hx hb d_M_on_47 rfl (lv_at hl 1 rfl) ?_
        refine lv_iconst (v := 0) hx hb d_M_on_48 (by decide) ?_
        refine lv_bipush (v := 60) hx hb d_M_on_49 (by decide) ?_
        refine clZ0 (v := (f_M_in c0 p1 0 60)) C hw (invV (As := [.int p1, .int 0, .int 60]) C hw (c_M_in g c0 hc0 p1 0 60 σ l) rfl wc_M_218 nd_M_in ⟨by decide, by decide⟩ (rc_M C hw hc0) rfl hl.1 rfl (Nat.le_of_ble_eq_true rfl) d_M_on_51 ⟨Nat.le_refl _, Nat.le_refl _⟩) (fun H locs hw => ?_)
        refine ifnB (tgt := 60) C d_M_on_54 (by decide) (fun b58 => ?_) (fun b58 => ?_)
        · replace h := ifn b58 h
          refine lv_aload_n hx hb d_M_on_60 rfl (lv_at hl 0 rfl) ?_
          refine lv_iconst (v := 0) hx hb d_M_on_61 (by decide) ?_
          refine bnd h (fun q59 k60 h => ?_)
          refine clI0 (v := q59) C hw (invV (As := [.int 0]) C hw (c_M_sum g c0 hc0 0 σ q59 k60 l) rfl wc_M_301 nd_M_sum ⟨by decide, by decide⟩ (rc_M C hw hc0) rfl hl.1 rfl (Nat.le_of_ble_eq_true rfl) d_M_on_62 ⟨Nat.le_refl _, Nat.le_refl _⟩) (fun H locs hw => ?_)
          refine lv_istore_n (lv' := [(3, .int q59), (0, .ref (g.2.1 c0)), (1, .int p1), (2, .int p2)]) hx hb d_M_on_65 rfl hl (by decide) rfl (fun ls hl => ?_)
          refine lv_aload_n hx hb d_M_on_66 rfl (lv_at hl 1 rfl) ?_
          refine lv_iconst (v := 1) hx hb d_M_on_67 (by decide) ?_
          refine bnd h (fun q61 k62 h => ?_)
          refine clI0 (v := q61) C hw (invV (As := [.int 1]) C hw (c_M_sum g c0 hc0 1 σ q61 k62 l) rfl wc_M_301 nd_M_sum ⟨by decide, by decide⟩ (rc_M C hw hc0) rfl hl.1 rfl (Nat.le_of_ble_eq_true rfl) d_M_on_68 ⟨Nat.le_refl _, Nat.le_refl _⟩) (fun H locs hw => ?_)
          refine lv_istore (lv' := [(4, .int q61), (3, .int q59), (0, .ref (g.2.1 c0)), (1, .int p1), (2, .int p2)]) hx hb d_M_on_71 hl (by decide) rfl (fun ls hl => ?_)
          refine lv_aload_n hx hb d_M_on_73 rfl (lv_at hl 2 rfl) ?_
          refine bnd h (fun q63 k64 h => ?_)
          refine clV C hw (invV (As := []) C hw (c_M_keep g c0 hc0 σ q63 k64 l) rfl wc_M_325 nd_M_keep ⟨by decide, by decide⟩ (rc_M C hw hc0) rfl hl.1 rfl (Nat.le_of_ble_eq_true rfl) d_M_on_74 ⟨Nat.le_refl _, Nat.le_refl _⟩) (fun H locs hw => ?_)
          refine lv_aload_n hx hb d_M_on_77 rfl (lv_at hl 2 rfl) ?_
          refine lv_iload_n hx hb d_M_on_78 rfl (lv_at hl 3 rfl) ?_
          refine bnd h (fun q65 k66 h => ?_)
          refine clV C hw (invV (As := [.int p1]) C hw (c_M_goDays g c0 hc0 p1 q63 q65 k66 l) rfl wc_M_328 nd_M_goDays ⟨by decide, by decide⟩ (rc_M C hw hc0) rfl hl.1 rfl (Nat.le_of_ble_eq_true rfl) d_M_on_79 ⟨Nat.le_refl _, Nat.le_refl _⟩) (fun H locs hw => ?_)
          refine lv_iload_n hx hb d_M_on_82 rfl (lv_at hl 4 rfl) ?_
          refine bnd h (fun q67 h68 h => ?_)
          have J69 : ∀ (H : Heap) (locs : List Loc) (ls : Array Slot), HW BM g A s q65 H locs → lv_has ls 6 [(0, .ref (g.2.1 c0))] → W p l e (rmL 9) s m args below meth c H locs 0 0 (MQ below (QI BM g q A) args s 0 0 A) (F0 m 129 ls [.int q67]) := by
            intro H locs ls hw hl
            refine lv_istore (lv' := [(5, .int q67), (0, .ref (g.2.1 c0))]) hx hb d_M_on_129 hl (by decide) rfl (fun ls hl => ?_)
            refine lv_aload_n hx hb d_M_on_131 rfl (lv_at hl 1 rfl) ?_
            refine bnd h (fun q83 k84 h => ?_)
            refine clV C hw (invV (As := []) C hw (c_M_putBack g c0 hc0 q65 q83 k84 l) rfl wc_M_334 nd_M_putBack ⟨by decide, by decide⟩ (rc_M C hw hc0) rfl hl.1 rfl (Nat.le_of_ble_eq_true rfl) d_M_on_132 ⟨Nat.le_refl _, Nat.le_refl _⟩) (fun H locs hw => ?_)
            refine lv_iload hx hb d_M_on_135 (lv_at hl 0 rfl) ?_
            exact retI C hw rfl (Option.some.inj h) d_M_on_137
          refine lv_if_ne (tgt := 93) hx hb d_M_on_83 (by decide) (fun b70 => ?_) (fun b70 => ?_)
          · replace h68 := ifn b70 h68
            refine lv_iload_n hx hb d_M_on_93 rfl (lv_at hl 4 rfl) ?_
            refine lv_iconst (v := 1) hx hb d_M_on_94 (by decide) ?_
            refine lv_icmp_ne (tgt := 108) hx hb d_M_on_95 (by decide) (fun b71 => ?_) (fun b71 => ?_)
            · replace h68 := ifn b71 h68
              refine lv_iload_n hx hb d_M_on_108 rfl (lv_at hl 4 rfl) ?_
              refine lv_iconst (v := 2) hx hb d_M_on_109 (by decide) ?_
              refine lv_icmp_ne (tgt := 124) hx hb d_M_on_110 (by decide) (fun b72 => ?_) (fun b72 => ?_)
              · replace h68 := ifn b72 h68
                refine lv_aload_n hx hb d_M_on_124 rfl (lv_at hl 2 rfl) ?_
                refine lv_iload_n hx hb d_M_on_125 rfl (lv_at hl 4 rfl) ?_
                refine bnd h68 (fun q73 k74 h68 => ?_)
                refine clI0 (v := q73) C hw (invV (As := [.int p2]) C hw (c_M_moreOf g c0 hc0 p2 q65 q73 k74 l) rfl wc_M_331 nd_M_moreOf ⟨by decide, by decide⟩ (rc_M C hw hc0) rfl hl.1 rfl (Nat.le_of_ble_eq_true rfl) d_M_on_126 ⟨Nat.le_refl _, Nat.le_refl _⟩) (fun H locs hw => ?_)
                have e75 := Option.some.inj h68
                subst e75
                exact J69 H locs ls hw (lv_sub hl [2] rfl)
              · replace h68 := ifp b72 h68
                refine lv_aload_n hx hb d_M_on_113 rfl (lv_at hl 2 rfl) ?_
                refine lv_iconst (v := 1) hx hb d_M_on_114 (by decide) ?_
                refine bnd h68 (fun q76 k77 h68 => ?_)
                refine clI0 (v := q76) C hw (invV (As := [.int 1]) C hw (c_M_sum g c0 hc0 1 q65 q76 k77 l) rfl wc_M_301 nd_M_sum ⟨by decide, by decide⟩ (rc_M C hw hc0) rfl hl.1 rfl (Nat.le_of_ble_eq_true rfl) d_M_on_115 ⟨Nat.le_refl _, Nat.le_refl _⟩) (fun H locs hw => ?_)
                refine lv_iload hx hb d_M_on_118 (lv_at hl 0 rfl) ?_
                refine lv_isub hx hb d_M_on_120 ?_
                refine lv_goto (tgt := 129) hx hb d_M_on_121 (by decide) ?_
                have e78 := Option.some.inj h68
                subst e78
                exact J69 H locs ls hw (lv_sub hl [2] rfl)
            · replace h68 := ifp b71 h68
              refine lv_aload_n hx hb d_M_on_98 rfl (lv_at hl 2 rfl) ?_
              refine lv_iconst (v := 0) hx hb d_M_on_99 (by decide) ?_
              refine bnd h68 (fun q79 k80 h68 => ?_)
              refine clI0 (v := q79) C hw (invV (As := [.int 0]) C hw (c_M_sum g c0 hc0 0 q65 q79 k80 l) rfl wc_M_301 nd_M_sum ⟨by decide, by decide⟩ (rc_M C hw hc0) rfl hl.1 rfl (Nat.le_of_ble_eq_true rfl) d_M_on_100 ⟨Nat.le_refl _, Nat.le_refl _⟩) (fun H locs hw => ?_)
              refine lv_iload_n hx hb d_M_on_103 rfl (lv_at hl 1 rfl) ?_
              refine lv_isub hx hb d_M_on_104 ?_
              refine lv_goto (tgt := 129) hx hb d_M_on_105 (by decide) ?_
              have e81 := Option.some.inj h68
              subst e81
              exact J69 H locs ls hw (lv_sub hl [2] rfl)
          · replace h68 := ifp b70 h68
            refine lv_aload_n hx hb d_M_on_86 rfl (lv_at hl 2 rfl) ?_
            refine fg_M_13 C hw hc0 d_M_on_87 ?_
            refine lv_goto (tgt := 129) hx hb d_M_on_90 (by decide) ?_
            have e82 := Option.some.inj h68
            subst e82
            exact J69 H locs ls hw (lv_sub hl [2] rfl)
        · replace h := ifp b58 h
          refine lv_bipush (v := (-2)) hx hb d_M_on_57 (by decide) ?_
          exact retI C hw rfl (Option.some.inj h) d_M_on_59
      · replace h := ifp b57 h
        refine lv_iconst (v := (-1)) hx hb d_M_on_44 (by decide) ?_
        exact retI C hw rfl (Option.some.inj h) d_M_on_45
def f_M_would (c0 : Nat) (p1 : Int32) (p2 : Int32) (σ : St) : Option (Int32 × St) := (if (f_M_isTaker c0 p1 σ) = false then some ((-1), σ) else (if (f_M_in c0 p2 0 2) = false then some ((-1), σ) else ((f_M_keep c0 σ).bind fun q3 => ((f_M_goes c0 p1 q3).bind fun q5 => (((if p2 = 0 then some q5.1 else (if p2 = 1 then some (vI q5.2 c0 1) else (if ok p1 6 = true then (if ok p1 6 = true then some ((vJ q5.2 5 (nx p1)) - (vJ q5.2 19 (nx p1))) else none) else none))) : Option (Int32)).bind fun q7 => ((f_M_putBack c0 q5.2).bind fun q17 => some (q7, q17)))))))
set_option maxHeartbeats 400000 in
set_option maxRecDepth 20000 in
theorem c_M_would (g : GX) (c0 : Nat) (hc0 : tg BM c0 20) (p1 : Int32) (p2 : Int32) (σ : St) (q : Int32 × St) (h : f_M_would c0 p1 p2 σ = some q) (l : Launch) : CT BM l y_M_would (v_M_would :: lwG) 7 [.ref (g.2.1 c0), .int p1, .int p2] g σ (QI BM g q) := by
  refine mkC (cc := b_M_would) (maxL := 5) (ret := (some .int)) rfl (by decide) rfl (Nat.le_of_ble_eq_true rfl) ?_
  intro p e s m args below meth c A ls C hl hw
  obtain ⟨hx, hb, hr, hml, hown, hts, hK, hE, hA, hlk⟩ := id C
  replace hl : lv_has ls 5 [(0, .ref (g.2.1 c0)), (1, .int p1), (2, .int p2)] := hl
  obtain ⟨H, hH⟩ : ∃ z, z = s.heap := ⟨_, rfl⟩
  rw [← hH] at hw ⊢
  obtain ⟨locs, hlo⟩ : ∃ z : List Loc, z = [] := ⟨_, rfl⟩
  rw [← hlo] at hw ⊢
  unfold f_M_would at h
  refine lv_aload_n hx hb d_M_would_0 rfl (lv_at hl 0 rfl) ?_
  refine lv_iload_n hx hb d_M_would_1 rfl (lv_at hl 1 rfl) ?_
  refine clZ0 (v := (f_M_isTaker c0 p1 σ)) C hw (invV (As := [.int p1]) C hw (c_M_isTaker g c0 hc0 p1 σ l) rfl wc_M_222 nd_M_isTaker ⟨by decide, by decide⟩ (rc_M C hw hc0) rfl hl.1 rfl (Nat.le_of_ble_eq_true rfl) d_M_would_2 ⟨Nat.le_refl _, Nat.le_refl _⟩) (fun H locs hw => ?_)
  refine ifB (tgt := 18) C d_M_would_5 (by decide) (fun b1 => ?_) (fun b1 => ?_)
  · replace h := ifp b1 h
    refine lv_iconst (v := (-1)) hx hb d_M_would_18 (by decide) ?_
    exact retI C hw rfl (Option.some.inj h) d_M_would_19
  · replace h := ifn b1 h
    refine lv_aload_n hx hb d_M_would_8 rfl (lv_at hl 0 rfl) ?_
    refine lv_iload_n hx hb d_M_would_9 rfl (lv_at hl 2 rfl) ?_
    refine lv_iconst (v := 0) hx hb d_M_would_10 (by decide) ?_
    refine lv_iconst (v := 2) hx hb d_M_would_11 (by decide) ?_
    refine clZ0 (v := (f_M_in c0 p2 0 2)) C hw (invV (As := [.int p2, .int 0, .int 2]) C hw (c_M_in g c0 hc0 p2 0 2 σ l) rfl wc_M_218 nd_M_in ⟨by decide, by decide⟩ (rc_M C hw hc0) rfl hl.1 rfl (Nat.le_of_ble_eq_true rfl) d_M_would_12 ⟨Nat.le_refl _, Nat.le_refl _⟩) (fun H locs hw => ?_)
    refine ifnB (tgt := 20) C d_M_would_15 (by decide) (fun b2 => ?_) (fun b2 => ?_)
    · replace h := ifn b2 h
      refine lv_aload_n hx hb d_M_would_20 rfl (lv_at hl 0 rfl) ?_
      refine bnd h (fun q3 k4 h => ?_)
      refine clV C hw (invV (As := []) C hw (c_M_keep g c0 hc0 σ q3 k4 l) rfl wc_M_325 nd_M_keep ⟨by decide, by decide⟩ (rc_M C hw hc0) rfl hl.1 rfl (Nat.le_of_ble_eq_true rfl) d_M_would_21 ⟨Nat.le_refl _, Nat.le_refl _⟩) (fun H locs hw => ?_)
      refine lv_aload_n hx hb d_M_would_24 rfl (lv_at hl 0 rfl) ?_
      refine lv_iload_n hx hb d_M_would_25 rfl (lv_at hl 1 rfl) ?_
      refine bnd h (fun q5 k6 h => ?_)
      refine clI C hw (invV (As := [.int p1]) C hw (c_M_goes g c0 hc0 p1 q3 q5 k6 l) rfl wc_M_319 nd_M_goes ⟨by decide, by decide⟩ (rc_M C hw hc0) rfl hl.1 rfl (Nat.le_of_ble_eq_true rfl) d_M_would_26 ⟨Nat.le_refl _, Nat.le_refl _⟩) (fun H locs hw => ?_)
      refine lv_istore_n (lv' := [(3, .int q5.1), (0, .ref (g.2.1 c0)), (1, .int p1), (2, .int p2)]) hx hb d_M_would_29 rfl hl (by decide) rfl (fun ls hl => ?_)
      refine lv_iload_n hx hb d_M_would_30 rfl (lv_at hl 3 rfl) ?_
      refine bnd h (fun q7 h8 h => ?_)
      have J9 : ∀ (H : Heap) (locs : List Loc) (ls : Array Slot), HW BM g A s q5.2 H locs → lv_has ls 5 [(0, .ref (g.2.1 c0))] → W p l e (rmL 7) s m args below meth c H locs 0 0 (MQ below (QI BM g q A) args s 0 0 A) (F0 m 63 ls [.int q7]) := by
        intro H locs ls hw hl
        refine lv_istore (lv' := [(4, .int q7), (0, .ref (g.2.1 c0))]) hx hb d_M_would_63 hl (by decide) rfl (fun ls hl => ?_)
        refine lv_aload_n hx hb d_M_would_65 rfl (lv_at hl 1 rfl) ?_
        refine bnd h (fun q17 k18 h => ?_)
        refine clV C hw (invV (As := []) C hw (c_M_putBack g c0 hc0 q5.2 q17 k18 l) rfl wc_M_334 nd_M_putBack ⟨by decide, by decide⟩ (rc_M C hw hc0) rfl hl.1 rfl (Nat.le_of_ble_eq_true rfl) d_M_would_66 ⟨Nat.le_refl _, Nat.le_refl _⟩) (fun H locs hw => ?_)
        refine lv_iload hx hb d_M_would_69 (lv_at hl 0 rfl) ?_
        exact retI C hw rfl (Option.some.inj h) d_M_would_71
      refine lv_if_ne (tgt := 38) hx hb d_M_would_31 (by decide) (fun b10 => ?_) (fun b10 => ?_)
      · replace h8 := ifn b10 h8
        refine lv_iload_n hx hb d_M_would_38 rfl (lv_at hl 3 rfl) ?_
        refine lv_iconst (v := 1) hx hb d_M_would_39 (by decide) ?_
        refine lv_icmp_ne (tgt := 50) hx hb d_M_would_40 (by decide) (fun b11 => ?_) (fun b11 => ?_)
        · replace h8 := ifn b11 h8
          refine lv_aload_n hx hb d_M_would_50 rfl (lv_at hl 1 rfl) ?_
          refine fg_M_32 C hw hc0 d_M_would_51 ?_
          refine lv_iload_n hx hb d_M_would_54 rfl (lv_at hl 2 rfl) ?_
          refine gde h8 (fun g12 h8 => ?_)
          refine ldI (n := 6) C hw tM_5 (by decide) g12 d_M_would_55 ?_
          refine lv_aload_n hx hb d_M_would_56 rfl (lv_at hl 1 rfl) ?_
          refine fg_M_120 C hw hc0 d_M_would_57 ?_
          refine lv_iload_n hx hb d_M_would_60 rfl (lv_at hl 2 rfl) ?_
          refine gde h8 (fun g13 h8 => ?_)
          refine ldI (n := 6) C hw tM_19 (by decide) g13 d_M_would_61 ?_
          refine lv_isub hx hb d_M_would_62 ?_
          have e14 := Option.some.inj h8
          subst e14
          exact J9 H locs ls hw (lv_sub hl [1] rfl)
        · replace h8 := ifp b11 h8
          refine lv_aload_n hx hb d_M_would_43 rfl (lv_at hl 1 rfl) ?_
          refine fg_M_13 C hw hc0 d_M_would_44 ?_
          refine lv_goto (tgt := 63) hx hb d_M_would_47 (by decide) ?_
          have e15 := Option.some.inj h8
          subst e15
          exact J9 H locs ls hw (lv_sub hl [1] rfl)
      · replace h8 := ifp b10 h8
        refine lv_iload_n hx hb d_M_would_34 rfl (lv_at hl 0 rfl) ?_
        refine lv_goto (tgt := 63) hx hb d_M_would_35 (by decide) ?_
        have e16 := Option.some.inj h8
        subst e16
        exact J9 H locs ls hw (lv_sub hl [1] rfl)
    · replace h := ifp b2 h
      refine lv_iconst (v := (-1)) hx hb d_M_would_18 (by decide) ?_
      exact retI C hw rfl (Option.some.inj h) d_M_would_19
def f_M_next_l39 : Nat → Nat → Int32 → Int32 → Int32 → Int32 → Int32 → St → Option (Int32 × Int32 × St)
  | 0, _, _, _, _, _, _, _ => none
  | n + 1, c0, x1, x4, x2, x3, x5, σ => (if (vI σ c0 0) ≤ x5 then some (x2, x3, σ) else (if 0 ≤ x2 then some (x2, x3, σ) else ((f_M_goes c0 x5 σ).bind fun q10 => (if ok x5 6 = true then (if ok x5 6 = true then (if (vJ q10.2 5 (nx x5)) = (vJ q10.2 19 (nx x5)) then (f_M_next_l39 n c0 x1 x4 x2 x3 (x5 + 1) q10.2) else (f_M_next_l39 n c0 x1 x4 x5 x4 (x5 + 1) q10.2)) else none) else none))))
def f_M_next_l25 : Nat → Nat → Int32 → Int32 → Int32 → Int32 → St → Option (Int32 × Int32 × St)
  | 0, _, _, _, _, _, _ => none
  | n + 1, c0, x1, x2, x3, x4, σ => (if 60 ≤ x4 then some (x2, x3, σ) else (if 0 ≤ x2 then some (x2, x3, σ) else ((f_M_next_l39 FU c0 x1 x4 x2 x3 0 σ).bind fun x_15 => (st (sI x_15.2.2 c0 2 ((vI x_15.2.2 c0 2) + 1)) fun s19 => (f_M_next_l25 n c0 x1 x_15.1 x_15.2.1 (x4 + 1) s19)))))
def f_M_next (c0 : Nat) (p1 : Int32) (σ : St) : Option (Int32 × St) := (if (f_M_in c0 p1 0 1) = false then some ((-1), σ) else ((f_M_keep c0 σ).bind fun q2 => ((f_M_next_l25 FU c0 p1 (-5) (-5) 0 q2).bind fun x_23 => ((f_M_putBack c0 x_23.2.2).bind fun q26 => (if p1 = 0 then some (x_23.1, q26) else some (x_23.2.1, q26))))))
set_option maxHeartbeats 400000 in
set_option maxRecDepth 20000 in
theorem c_M_next (g : GX) (c0 : Nat) (hc0 : tg BM c0 20) (p1 : Int32) (σ : St) (q : Int32 × St) (h : f_M_next c0 p1 σ = some q) (l : Launch) : CT BM l y_M_next (v_M_next :: lwG) 7 [.ref (g.2.1 c0), .int p1] g σ (QI BM g q) := by
  refine mkC (cc := b_M_next) (maxL := 7) (ret := (some .int)) rfl (by decide) rfl (Nat.le_of_ble_eq_true rfl) ?_
  intro p e s m args below meth c A ls C hl hw
  obtain ⟨hx, hb, hr, hml, hown, hts, hK, hE, hA, hlk⟩ := id C
  replace hl : lv_has ls 7 [(0, .ref (g.2.1 c0)), (1, .int p1)] := hl
  obtain ⟨H, hH⟩ : ∃ z, z = s.heap := ⟨_, rfl⟩
  rw [← hH] at hw ⊢
  obtain ⟨locs, hlo⟩ : ∃ z : List Loc, z = [] := ⟨_, rfl⟩
  rw [← hlo] at hw ⊢
  unfold f_M_next at h
  refine lv_aload_n hx hb d_M_next_0 rfl (lv_at hl 0 rfl) ?_
  refine lv_iload_n hx hb d_M_next_1 rfl (lv_at hl 1 rfl) ?_
  refine lv_iconst (v := 0) hx hb d_M_next_2 (by decide) ?_
  refine lv_iconst (v := 1) hx hb d_M_next_3 (by decide) ?_
  refine clZ0 (v := (f_M_in c0 p1 0 1)) C hw (invV (As := [.int p1, .int 0, .int 1]) C hw (c_M_in g c0 hc0 p1 0 1 σ l) rfl wc_M_218 nd_M_in ⟨by decide, by decide⟩ (rc_M C hw hc0) rfl hl.1 rfl (Nat.le_of_ble_eq_true rfl) d_M_next_4 ⟨Nat.le_refl _, Nat.le_refl _⟩) (fun H locs hw => ?_)
  refine ifnB (tgt := 12) C d_M_next_7 (by decide) (fun b1 => ?_) (fun b1 => ?_)
  · replace h := ifn b1 h
    refine lv_aload_n hx hb d_M_next_12 rfl (lv_at hl 0 rfl) ?_
    refine bnd h (fun q2 k3 h => ?_)
    refine clV C hw (invV (As := []) C hw (c_M_keep g c0 hc0 σ q2 k3 l) rfl wc_M_325 nd_M_keep ⟨by decide, by decide⟩ (rc_M C hw hc0) rfl hl.1 rfl (Nat.le_of_ble_eq_true rfl) d_M_next_13 ⟨Nat.le_refl _, Nat.le_refl _⟩) (fun H locs hw => ?_)
    refine lv_bipush (v := (-5)) hx hb d_M_next_16 (by decide) ?_
    refine lv_istore_n (lv' := [(2, .int (-5)), (0, .ref (g.2.1 c0)), (1, .int p1)]) hx hb d_M_next_18 rfl hl (by decide) rfl (fun ls hl => ?_)
    refine lv_bipush (v := (-5)) hx hb d_M_next_19 (by decide) ?_
    refine lv_istore_n (lv' := [(3, .int (-5)), (2, .int (-5)), (0, .ref (g.2.1 c0)), (1, .int p1)]) hx hb d_M_next_21 rfl hl (by decide) rfl (fun ls hl => ?_)
    refine lv_iconst (v := 0) hx hb d_M_next_22 (by decide) ?_
    refine lv_istore (lv' := [(4, .int 0), (3, .int (-5)), (2, .int (-5)), (0, .ref (g.2.1 c0)), (1, .int p1)]) hx hb d_M_next_23 hl (by decide) rfl (fun ls hl => ?_)
    have L4 : ∀ (c0 : Nat) (hc0 : tg BM c0 20) (x1 : Int32) (n : Nat) (x2 : Int32) (x3 : Int32) (x4 : Int32) (σ : St) (H : Heap) (locs : List Loc) (ls : Array Slot), HW BM g A s σ H locs → lv_has ls 7 [(0, .ref (g.2.1 c0)), (1, .int x1), (2, .int x2), (3, .int x3), (4, .int x4)] → ∀ (ex : Int32 × Int32 × St), f_M_next_l25 n c0 x1 x2 x3 x4 σ = some ex → (∀ (y : Int32 × Int32 × St), ex = y → ∀ (H : Heap) (locs : List Loc) (ls : Array Slot), HW BM g A s y.2.2 H locs → lv_has ls 7 [(0, .ref (g.2.1 c0)), (1, .int x1), (2, .int y.1), (3, .int y.2.1)] → W p l e (rmL 7) s m args below meth c H locs 0 0 (MQ below (QI BM g q A) args s 0 0 A) (F0 m 108 ls [])) → (True) → W p l e (rmL 7) s m args below meth c H locs 0 0 (MQ below (QI BM g q A) args s 0 0 A) (F0 m 25 ls []) := by
      intro c0 hc0 x1 n
      induction n with
      | zero =>
        intro x2 x3 x4 σ H locs ls hw hl ex h kx4 kr4
        cases h
      | succ n ih =>
        intro x2 x3 x4 σ H locs ls hw hl ex h kx4 kr4
        rw [f_M_next_l25] at h
        refine lv_iload hx hb d_M_next_25 (lv_at hl 4 rfl) ?_
        refine lv_bipush (v := 60) hx hb d_M_next_27 (by decide) ?_
        refine lv_icmp_ge (tgt := 108) hx hb d_M_next_29 (by decide) (fun b5 => ?_) (fun b5 => ?_)
        · replace h := ifp b5 h
          exact kx4 _ (Option.some.inj h).symm H locs ls hw (lv_sub hl [0, 1, 2, 3] rfl)
        · replace h := ifn b5 h
          refine lv_iload_n hx hb d_M_next_32 rfl (lv_at hl 2 rfl) ?_
          refine lv_if_ge (tgt := 108) hx hb d_M_next_33 (by decide) (fun b6 => ?_) (fun b6 => ?_)
          · replace h := ifp b6 h
            exact kx4 _ (Option.some.inj h).symm H locs ls hw (lv_sub hl [0, 1, 2, 3] rfl)
          · replace h := ifn b6 h
            refine lv_iconst (v := 0) hx hb d_M_next_36 (by decide) ?_
            refine lv_istore (lv' := [(5, .int 0), (0, .ref (g.2.1 c0)), (1, .int x1), (2, .int x2), (3, .int x3), (4, .int x4)]) hx hb d_M_next_37 hl (by decide) rfl (fun ls hl => ?_)
            have L7 : ∀ (c0 : Nat) (hc0 : tg BM c0 20) (x1 : Int32) (x4 : Int32) (n : Nat) (x2 : Int32) (x3 : Int32) (x5 : Int32) (σ : St) (H : Heap) (locs : List Loc) (ls : Array Slot), HW BM g A s σ H locs → lv_has ls 7 [(0, .ref (g.2.1 c0)), (1, .int x1), (2, .int x2), (3, .int x3), (4, .int x4), (5, .int x5)] → ∀ (ex : Int32 × Int32 × St), f_M_next_l39 n c0 x1 x4 x2 x3 x5 σ = some ex → (∀ (y : Int32 × Int32 × St), ex = y → ∀ (H : Heap) (locs : List Loc) (ls : Array Slot), HW BM g A s y.2.2 H locs → lv_has ls 7 [(0, .ref (g.2.1 c0)), (1, .int x1), (2, .int y.1), (3, .int y.2.1), (4, .int x4)] → W p l e (rmL 7) s m args below meth c H locs 0 0 (MQ below (QI BM g q A) args s 0 0 A) (F0 m 92 ls [])) → (True) → W p l e (rmL 7) s m args below meth c H locs 0 0 (MQ below (QI BM g q A) args s 0 0 A) (F0 m 39 ls []) := by
              intro c0 hc0 x1 x4 n
              induction n with
              | zero =>
                intro x2 x3 x5 σ H locs ls hw hl ex h kx7 kr7
                cases h
              | succ n ih =>
                intro x2 x3 x5 σ H locs ls hw hl ex h kx7 kr7
                rw [f_M_next_l39] at h
                refine lv_iload hx hb d_M_next_39 (lv_at hl 5 rfl) ?_
                refine lv_aload_n hx hb d_M_next_41 rfl (lv_at hl 0 rfl) ?_
                refine fg_M_7 C hw hc0 d_M_next_42 ?_
                refine lv_icmp_ge (tgt := 92) hx hb d_M_next_45 (by decide) (fun b8 => ?_) (fun b8 => ?_)
                · replace h := ifp b8 h
                  exact kx7 _ (Option.some.inj h).symm H locs ls hw (lv_sub hl [0, 1, 2, 3, 4] rfl)
                · replace h := ifn b8 h
                  refine lv_iload_n hx hb d_M_next_48 rfl (lv_at hl 2 rfl) ?_
                  refine lv_if_ge (tgt := 92) hx hb d_M_next_49 (by decide) (fun b9 => ?_) (fun b9 => ?_)
                  · replace h := ifp b9 h
                    exact kx7 _ (Option.some.inj h).symm H locs ls hw (lv_sub hl [0, 1, 2, 3, 4] rfl)
                  · replace h := ifn b9 h
                    refine lv_aload_n hx hb d_M_next_52 rfl (lv_at hl 0 rfl) ?_
                    refine lv_iload hx hb d_M_next_53 (lv_at hl 5 rfl) ?_
                    refine bnd h (fun q10 k11 h => ?_)
                    refine clI C hw (invV (As := [.int x5]) C hw (c_M_goes g c0 hc0 x5 σ q10 k11 l) rfl wc_M_319 nd_M_goes ⟨by decide, by decide⟩ (rc_M C hw hc0) rfl hl.1 rfl (Nat.le_of_ble_eq_true rfl) d_M_next_55 ⟨Nat.le_refl _, Nat.le_refl _⟩) (fun H locs hw => ?_)
                    refine lv_istore (lv' := [(6, .int q10.1), (0, .ref (g.2.1 c0)), (1, .int x1), (2, .int x2), (3, .int x3), (4, .int x4), (5, .int x5)]) hx hb d_M_next_58 hl (by decide) rfl (fun ls hl => ?_)
                    refine lv_aload_n hx hb d_M_next_60 rfl (lv_at hl 1 rfl) ?_
                    refine fg_M_32 C hw hc0 d_M_next_61 ?_
                    refine lv_iload hx hb d_M_next_64 (lv_at hl 6 rfl) ?_
                    refine gde h (fun g12 h => ?_)
                    refine ldI (n := 6) C hw tM_5 (by decide) g12 d_M_next_66 ?_
                    refine lv_aload_n hx hb d_M_next_67 rfl (lv_at hl 1 rfl) ?_
                    refine fg_M_120 C hw hc0 d_M_next_68 ?_
                    refine lv_iload hx hb d_M_next_71 (lv_at hl 6 rfl) ?_
                    refine gde h (fun g13 h => ?_)
                    refine ldI (n := 6) C hw tM_19 (by decide) g13 d_M_next_73 ?_
                    refine lv_icmp_ne (tgt := 80) hx hb d_M_next_74 (by decide) (fun b14 => ?_) (fun b14 => ?_)
                    · replace h := ifn b14 h
                      refine lv_iload hx hb d_M_next_80 (lv_at hl 6 rfl) ?_
                      refine lv_istore_n (lv' := [(2, .int x5), (6, .int q10.1), (0, .ref (g.2.1 c0)), (1, .int x1), (3, .int x3), (4, .int x4), (5, .int x5)]) hx hb d_M_next_82 rfl hl (by decide) rfl (fun ls hl => ?_)
                      refine lv_iload hx hb d_M_next_83 (lv_at hl 5 rfl) ?_
                      refine lv_istore_n (lv' := [(3, .int x4), (2, .int x5), (6, .int q10.1), (0, .ref (g.2.1 c0)), (1, .int x1), (4, .int x4), (5, .int x5)]) hx hb d_M_next_85 rfl hl (by decide) rfl (fun ls hl => ?_)
                      refine lv_iinc (v := (x5 + 1)) (lv' := [(5, .int (x5 + 1)), (3, .int x4), (2, .int x5), (6, .int q10.1), (0, .ref (g.2.1 c0)), (1, .int x1), (4, .int x4)]) hx hb d_M_next_86 hl (k := 6) rfl rfl (by decide) rfl (fun ls hl => ?_)
                      refine lv_goto (tgt := 39) hx hb d_M_next_89 (by decide) ?_
                      exact ih x5 x4 (x5 + 1) q10.2 H locs ls hw (lv_sub hl [4, 5, 2, 1, 6, 0] rfl) ex h kx7 kr7
                    · replace h := ifp b14 h
                      refine lv_goto (tgt := 86) hx hb d_M_next_77 (by decide) ?_
                      refine lv_iinc (v := (x5 + 1)) (lv' := [(5, .int (x5 + 1)), (6, .int q10.1), (0, .ref (g.2.1 c0)), (1, .int x1), (2, .int x2), (3, .int x3), (4, .int x4)]) hx hb d_M_next_86 hl (k := 6) rfl rfl (by decide) rfl (fun ls hl => ?_)
                      refine lv_goto (tgt := 39) hx hb d_M_next_89 (by decide) ?_
                      exact ih x2 x3 (x5 + 1) q10.2 H locs ls hw (lv_sub hl [2, 3, 4, 5, 6, 0] rfl) ex h kx7 kr7
            refine bnd h (fun x_15 k16 h => ?_)
            refine L7 c0 hc0 x1 x4 FU x2 x3 0 σ H locs ls hw (lv_sub hl [1, 2, 3, 4, 5, 0] rfl) x_15 k16 (fun y21 e22 H locs ls hw hl => ?_) trivial
            subst e22
            refine lv_aload_n hx hb d_M_next_92 rfl (lv_at hl 0 rfl) ?_
            refine lv_dup hx hb d_M_next_93 rfl ?_
            refine fg_M_16 C hw hc0 d_M_next_94 ?_
            refine lv_iconst (v := 1) hx hb d_M_next_97 (by decide) ?_
            refine lv_iadd hx hb d_M_next_98 ?_
            refine ste h (fun s19 e20 h => ?_)
            refine fp_M_16 C hw hc0 d_M_next_99 (fun H locs hw => ?_)
            replace hw := HWe hw e20
            refine lv_iinc (v := (x4 + 1)) (lv' := [(4, .int (x4 + 1)), (0, .ref (g.2.1 c0)), (1, .int x1), (2, .int x_15.1), (3, .int x_15.2.1)]) hx hb d_M_next_102 hl (k := 4) rfl rfl (by decide) rfl (fun ls hl => ?_)
            refine lv_goto (tgt := 25) hx hb d_M_next_105 (by decide) ?_
            exact ih x_15.1 x_15.2.1 (x4 + 1) s19 H locs ls hw (lv_sub hl [1, 2, 3, 4, 0] rfl) ex h kx4 kr4
    refine bnd h (fun x_23 k24 h => ?_)
    refine L4 c0 hc0 p1 FU (-5) (-5) 0 q2 H locs ls hw (lv_sub hl [3, 4, 2, 1, 0] rfl) x_23 k24 (fun y29 e30 H locs ls hw hl => ?_) trivial
    subst e30
    refine lv_aload_n hx hb d_M_next_108 rfl (lv_at hl 0 rfl) ?_
    refine bnd h (fun q26 k27 h => ?_)
    refine clV C hw (invV (As := []) C hw (c_M_putBack g c0 hc0 x_23.2.2 q26 k27 l) rfl wc_M_334 nd_M_putBack ⟨by decide, by decide⟩ (rc_M C hw hc0) rfl hl.1 rfl (Nat.le_of_ble_eq_true rfl) d_M_next_109 ⟨Nat.le_refl _, Nat.le_refl _⟩) (fun H locs hw => ?_)
    refine lv_iload_n hx hb d_M_next_112 rfl (lv_at hl 1 rfl) ?_
    refine lv_if_ne (tgt := 120) hx hb d_M_next_113 (by decide) (fun b28 => ?_) (fun b28 => ?_)
    · replace h := ifn b28 h
      refine lv_iload_n hx hb d_M_next_120 rfl (lv_at hl 3 rfl) ?_
      exact retI C hw rfl (Option.some.inj h) d_M_next_121
    · replace h := ifp b28 h
      refine lv_iload_n hx hb d_M_next_116 rfl (lv_at hl 2 rfl) ?_
      refine lv_goto (tgt := 121) hx hb d_M_next_117 (by decide) ?_
      exact retI C hw rfl (Option.some.inj h) d_M_next_121
  · replace h := ifp b1 h
    refine lv_iconst (v := (-1)) hx hb d_M_next_10 (by decide) ?_
    exact retI C hw rfl (Option.some.inj h) d_M_next_11
def f_M_fetchesIn (c0 : Nat) (p1 : Int32) (σ : St) : Option (Int32 × St) := ((f_M_sum c0 0 σ).bind fun q1 => ((f_M_keep c0 σ).bind fun q3 => ((f_M_goDays c0 p1 q3).bind fun q5 => ((f_M_sum c0 0 q5).bind fun q7 => ((f_M_putBack c0 q5).bind fun q9 => some ((q7 - q1), q9))))))
set_option maxHeartbeats 400000 in
set_option maxRecDepth 20000 in
theorem c_M_fetchesIn (g : GX) (c0 : Nat) (hc0 : tg BM c0 20) (p1 : Int32) (σ : St) (q : Int32 × St) (h : f_M_fetchesIn c0 p1 σ = some q) (l : Launch) : CT BM l y_M_fetchesIn (v_M_fetchesIn :: lwG) 9 [.ref (g.2.1 c0), .int p1] g σ (QI BM g q) := by
  refine mkC (cc := b_M_fetchesIn) (maxL := 4) (ret := (some .int)) rfl (by decide) rfl (Nat.le_of_ble_eq_true rfl) ?_
  intro p e s m args below meth c A ls C hl hw
  obtain ⟨hx, hb, hr, hml, hown, hts, hK, hE, hA, hlk⟩ := id C
  replace hl : lv_has ls 4 [(0, .ref (g.2.1 c0)), (1, .int p1)] := hl
  obtain ⟨H, hH⟩ : ∃ z, z = s.heap := ⟨_, rfl⟩
  rw [← hH] at hw ⊢
  obtain ⟨locs, hlo⟩ : ∃ z : List Loc, z = [] := ⟨_, rfl⟩
  rw [← hlo] at hw ⊢
  unfold f_M_fetchesIn at h
  refine lv_aload_n hx hb d_M_fetchesIn_0 rfl (lv_at hl 0 rfl) ?_
  refine lv_iconst (v := 0) hx hb d_M_fetchesIn_1 (by decide) ?_
  refine bnd h (fun q1 k2 h => ?_)
  refine clI0 (v := q1) C hw (invV (As := [.int 0]) C hw (c_M_sum g c0 hc0 0 σ q1 k2 l) rfl wc_M_301 nd_M_sum ⟨by decide, by decide⟩ (rc_M C hw hc0) rfl hl.1 rfl (Nat.le_of_ble_eq_true rfl) d_M_fetchesIn_2 ⟨Nat.le_refl _, Nat.le_refl _⟩) (fun H locs hw => ?_)
  refine lv_istore_n (lv' := [(2, .int q1), (0, .ref (g.2.1 c0)), (1, .int p1)]) hx hb d_M_fetchesIn_5 rfl hl (by decide) rfl (fun ls hl => ?_)
  refine lv_aload_n hx hb d_M_fetchesIn_6 rfl (lv_at hl 1 rfl) ?_
  refine bnd h (fun q3 k4 h => ?_)
  refine clV C hw (invV (As := []) C hw (c_M_keep g c0 hc0 σ q3 k4 l) rfl wc_M_325 nd_M_keep ⟨by decide, by decide⟩ (rc_M C hw hc0) rfl hl.1 rfl (Nat.le_of_ble_eq_true rfl) d_M_fetchesIn_7 ⟨Nat.le_refl _, Nat.le_refl _⟩) (fun H locs hw => ?_)
  refine lv_aload_n hx hb d_M_fetchesIn_10 rfl (lv_at hl 1 rfl) ?_
  refine lv_iload_n hx hb d_M_fetchesIn_11 rfl (lv_at hl 2 rfl) ?_
  refine bnd h (fun q5 k6 h => ?_)
  refine clV C hw (invV (As := [.int p1]) C hw (c_M_goDays g c0 hc0 p1 q3 q5 k6 l) rfl wc_M_328 nd_M_goDays ⟨by decide, by decide⟩ (rc_M C hw hc0) rfl hl.1 rfl (Nat.le_of_ble_eq_true rfl) d_M_fetchesIn_12 ⟨Nat.le_refl _, Nat.le_refl _⟩) (fun H locs hw => ?_)
  refine lv_aload_n hx hb d_M_fetchesIn_15 rfl (lv_at hl 1 rfl) ?_
  refine lv_iconst (v := 0) hx hb d_M_fetchesIn_16 (by decide) ?_
  refine bnd h (fun q7 k8 h => ?_)
  refine clI0 (v := q7) C hw (invV (As := [.int 0]) C hw (c_M_sum g c0 hc0 0 q5 q7 k8 l) rfl wc_M_301 nd_M_sum ⟨by decide, by decide⟩ (rc_M C hw hc0) rfl hl.1 rfl (Nat.le_of_ble_eq_true rfl) d_M_fetchesIn_17 ⟨Nat.le_refl _, Nat.le_refl _⟩) (fun H locs hw => ?_)
  refine lv_iload_n hx hb d_M_fetchesIn_20 rfl (lv_at hl 0 rfl) ?_
  refine lv_isub hx hb d_M_fetchesIn_21 ?_
  refine lv_istore_n (lv' := [(3, .int (q7 - q1)), (2, .int q1), (0, .ref (g.2.1 c0)), (1, .int p1)]) hx hb d_M_fetchesIn_22 rfl hl (by decide) rfl (fun ls hl => ?_)
  refine lv_aload_n hx hb d_M_fetchesIn_23 rfl (lv_at hl 2 rfl) ?_
  refine bnd h (fun q9 k10 h => ?_)
  refine clV C hw (invV (As := []) C hw (c_M_putBack g c0 hc0 q5 q9 k10 l) rfl wc_M_334 nd_M_putBack ⟨by decide, by decide⟩ (rc_M C hw hc0) rfl hl.1 rfl (Nat.le_of_ble_eq_true rfl) d_M_fetchesIn_24 ⟨Nat.le_refl _, Nat.le_refl _⟩) (fun H locs hw => ?_)
  refine lv_iload_n hx hb d_M_fetchesIn_27 rfl (lv_at hl 0 rfl) ?_
  exact retI C hw rfl (Option.some.inj h) d_M_fetchesIn_28
