/-! ===== THE LAW: its loop ===== -/
set_option maxHeartbeats 2000000 in
set_option maxRecDepth 20000 in
theorem law_step {gx gm : GX} {b L : Nat} {xs : Nat → Int32} {p : Program} {l : Launch} {e : Env} {s : State} {m : MethodId} {below : List Frame} {meth : Method} {c : Code} {H : Heap} {locs : List Loc} {Q : State → Prop} {ls : Array Slot} {σ τ : St} {i N : Nat} {v : Int32} (X : LAt gx gm L b xs p s m meth c) (hi : i + 6 ≤ L) (hN : N ≤ 100000) (hR : Rl N σ τ) (hw : LSt gx gm s σ τ H locs) (hl : lv_has ls 4 [(0, .ref b), (1, .ref (gx.2.1 0)), (2, .ref (gm.2.1 0)), (3, .int (nI i))])
    (K : ∀ (σ' τ' : St) (H1 : Heap) (locs1 : List Loc), Rl (N + 14) σ' τ' → LSt gx gm s σ' τ' H1 locs1 → W p l e room_1 s m #[Value.ref b] below meth c H1 locs1 145 3915 Q (F0 m 1283 ls [])) : W p l e room_1 s m #[Value.ref b] below meth c H locs 145 3915 Q (F0 m 33 ls [.int v]) := by
  have Cx := X.1
  by_cases h0 : v = 0
  · exact swIn (tgt := 192) (k := 0) Cx h0 d_L_law_33 (by decide) rfl (by decide) (lc_0 X hi hN hR hw hl K)
  by_cases h1 : v = 1
  · exact swIn (tgt := 235) (k := 1) Cx h1 d_L_law_33 (by decide) rfl (by decide) (lc_1 X hi hN hR hw hl K)
  by_cases h2 : v = 2
  · exact swIn (tgt := 268) (k := 2) Cx h2 d_L_law_33 (by decide) rfl (by decide) (lc_2 X hi hN hR hw hl K)
  by_cases h3 : v = 3
  · exact swIn (tgt := 301) (k := 3) Cx h3 d_L_law_33 (by decide) rfl (by decide) (lc_3 X hi hN hR hw hl K)
  by_cases h4 : v = 4
  · exact swIn (tgt := 324) (k := 4) Cx h4 d_L_law_33 (by decide) rfl (by decide) (lc_4 X hi hN hR hw hl K)
  by_cases h5 : v = 5
  · exact swIn (tgt := 367) (k := 5) Cx h5 d_L_law_33 (by decide) rfl (by decide) (lc_5 X hi hN hR hw hl K)
  by_cases h6 : v = 6
  · exact swIn (tgt := 390) (k := 6) Cx h6 d_L_law_33 (by decide) rfl (by decide) (lc_6 X hi hN hR hw hl K)
  by_cases h7 : v = 7
  · exact swIn (tgt := 403) (k := 7) Cx h7 d_L_law_33 (by decide) rfl (by decide) (lc_7 X hi hN hR hw hl K)
  by_cases h8 : v = 8
  · exact swIn (tgt := 426) (k := 8) Cx h8 d_L_law_33 (by decide) rfl (by decide) (lc_8 X hi hN hR hw hl K)
  by_cases h9 : v = 9
  · exact swIn (tgt := 449) (k := 9) Cx h9 d_L_law_33 (by decide) rfl (by decide) (lc_9 X hi hN hR hw hl K)
  by_cases h10 : v = 10
  · exact swIn (tgt := 462) (k := 10) Cx h10 d_L_law_33 (by decide) rfl (by decide) (lc_10 X hi hN hR hw hl K)
  by_cases h11 : v = 11
  · exact swIn (tgt := 495) (k := 11) Cx h11 d_L_law_33 (by decide) rfl (by decide) (lc_11 X hi hN hR hw hl K)
  by_cases h12 : v = 12
  · exact swIn (tgt := 528) (k := 12) Cx h12 d_L_law_33 (by decide) rfl (by decide) (lc_12 X hi hN hR hw hl K)
  by_cases h13 : v = 13
  · exact swIn (tgt := 551) (k := 13) Cx h13 d_L_law_33 (by decide) rfl (by decide) (lc_13 X hi hN hR hw hl K)
  by_cases h14 : v = 14
  · exact swIn (tgt := 584) (k := 14) Cx h14 d_L_law_33 (by decide) rfl (by decide) (lc_14 X hi hN hR hw hl K)
  by_cases h15 : v = 15
  · exact swIn (tgt := 617) (k := 15) Cx h15 d_L_law_33 (by decide) rfl (by decide) (lc_15 X hi hN hR hw hl K)
  by_cases h16 : v = 16
  · exact swIn (tgt := 640) (k := 16) Cx h16 d_L_law_33 (by decide) rfl (by decide) (lc_16 X hi hN hR hw hl K)
  by_cases h17 : v = 17
  · exact swIn (tgt := 673) (k := 17) Cx h17 d_L_law_33 (by decide) rfl (by decide) (lc_17 X hi hN hR hw hl K)
  by_cases h18 : v = 18
  · exact swIn (tgt := 706) (k := 18) Cx h18 d_L_law_33 (by decide) rfl (by decide) (lc_18 X hi hN hR hw hl K)
  by_cases h19 : v = 19
  · exact swIn (tgt := 729) (k := 19) Cx h19 d_L_law_33 (by decide) rfl (by decide) (lc_19 X hi hN hR hw hl K)
  by_cases h20 : v = 20
  · exact swIn (tgt := 762) (k := 20) Cx h20 d_L_law_33 (by decide) rfl (by decide) (lc_20 X hi hN hR hw hl K)
  by_cases h21 : v = 21
  · exact swIn (tgt := 775) (k := 21) Cx h21 d_L_law_33 (by decide) rfl (by decide) (lc_21 X hi hN hR hw hl K)
  by_cases h22 : v = 22
  · exact swIn (tgt := 819) (k := 22) Cx h22 d_L_law_33 (by decide) rfl (by decide) (lc_22 X hi hN hR hw hl K)
  by_cases h23 : v = 23
  · exact swIn (tgt := 853) (k := 23) Cx h23 d_L_law_33 (by decide) rfl (by decide) (lc_23 X hi hN hR hw hl K)
  by_cases h24 : v = 24
  · exact swIn (tgt := 876) (k := 24) Cx h24 d_L_law_33 (by decide) rfl (by decide) (lc_24 X hi hN hR hw hl K)
  by_cases h25 : v = 25
  · exact swIn (tgt := 889) (k := 25) Cx h25 d_L_law_33 (by decide) rfl (by decide) (lc_25 X hi hN hR hw hl K)
  by_cases h26 : v = 26
  · exact swIn (tgt := 922) (k := 26) Cx h26 d_L_law_33 (by decide) rfl (by decide) (lc_26 X hi hN hR hw hl K)
  by_cases h27 : v = 27
  · exact swIn (tgt := 935) (k := 27) Cx h27 d_L_law_33 (by decide) rfl (by decide) (lc_27 X hi hN hR hw hl K)
  by_cases h28 : v = 28
  · exact swIn (tgt := 948) (k := 28) Cx h28 d_L_law_33 (by decide) rfl (by decide) (lc_28 X hi hN hR hw hl K)
  by_cases h29 : v = 29
  · exact swIn (tgt := 991) (k := 29) Cx h29 d_L_law_33 (by decide) rfl (by decide) (lc_29 X hi hN hR hw hl K)
  by_cases h30 : v = 30
  · exact swIn (tgt := 1014) (k := 30) Cx h30 d_L_law_33 (by decide) rfl (by decide) (lc_30 X hi hN hR hw hl K)
  by_cases h31 : v = 31
  · exact swIn (tgt := 1047) (k := 31) Cx h31 d_L_law_33 (by decide) rfl (by decide) (lc_31 X hi hN hR hw hl K)
  by_cases h32 : v = 32
  · exact swIn (tgt := 1070) (k := 32) Cx h32 d_L_law_33 (by decide) rfl (by decide) (lc_32 X hi hN hR hw hl K)
  by_cases h33 : v = 33
  · exact swIn (tgt := 1113) (k := 33) Cx h33 d_L_law_33 (by decide) rfl (by decide) (lc_33 X hi hN hR hw hl K)
  by_cases h34 : v = 34
  · exact swIn (tgt := 1186) (k := 34) Cx h34 d_L_law_33 (by decide) rfl (by decide) (lc_34 X hi hN hR hw hl K)
  by_cases h35 : v = 35
  · exact swIn (tgt := 1220) (k := 35) Cx h35 d_L_law_33 (by decide) rfl (by decide) (lc_35 X hi hN hR hw hl K)
  refine swOut (tgt := 1283) Cx d_L_law_33 (fun z z1 z2 hz => ?_) (by decide) (K σ τ H locs (hR.le (by omega)) hw)
  have hv : v = nI z.toNat := by
    apply Int32.toInt_inj.mp
    rw [nI_toInt (by omega), hz]
    omega
  have hk : z.toNat < 36 := by omega
  generalize z.toNat = k at hv hk
  have all : ∀ k, k < 36 → v = nI k → False := by
    intro k hk hv
    match k, hk, hv with
    | 0, _, hv => exact h0 hv
    | 1, _, hv => exact h1 hv
    | 2, _, hv => exact h2 hv
    | 3, _, hv => exact h3 hv
    | 4, _, hv => exact h4 hv
    | 5, _, hv => exact h5 hv
    | 6, _, hv => exact h6 hv
    | 7, _, hv => exact h7 hv
    | 8, _, hv => exact h8 hv
    | 9, _, hv => exact h9 hv
    | 10, _, hv => exact h10 hv
    | 11, _, hv => exact h11 hv
    | 12, _, hv => exact h12 hv
    | 13, _, hv => exact h13 hv
    | 14, _, hv => exact h14 hv
    | 15, _, hv => exact h15 hv
    | 16, _, hv => exact h16 hv
    | 17, _, hv => exact h17 hv
    | 18, _, hv => exact h18 hv
    | 19, _, hv => exact h19 hv
    | 20, _, hv => exact h20 hv
    | 21, _, hv => exact h21 hv
    | 22, _, hv => exact h22 hv
    | 23, _, hv => exact h23 hv
    | 24, _, hv => exact h24 hv
    | 25, _, hv => exact h25 hv
    | 26, _, hv => exact h26 hv
    | 27, _, hv => exact h27 hv
    | 28, _, hv => exact h28 hv
    | 29, _, hv => exact h29 hv
    | 30, _, hv => exact h30 hv
    | 31, _, hv => exact h31 hv
    | 32, _, hv => exact h32 hv
    | 33, _, hv => exact h33 hv
    | 34, _, hv => exact h34 hv
    | 35, _, hv => exact h35 hv
    | k + 36, hk, _ => omega
  exact all k hk hv
set_option maxHeartbeats 2000000 in
set_option maxRecDepth 20000 in
theorem law_loop {gx gm : GX} {b L : Nat} {xs : Nat → Int32} {p : Program} {l : Launch} {e : Env} {s : State} {m : MethodId} {below : List Frame} {meth : Method} {c : Code} {Q : State → Prop} (X : LAt gx gm L b xs p s m meth c) (hend : ∀ (H : Heap) (locs : List Loc) (ls : Array Slot), (∀ q ∈ locs, s.heap.size ≤ q.base) → W p l e room_1 s m #[Value.ref b] below meth c H locs 145 3915 Q (F0 m 1289 ls [])) : ∀ (n i N : Nat) (σ τ : St) (H : Heap) (locs : List Loc) (ls : Array Slot), L < i + n → i ≤ L → N ≤ 14 * i → Rl N σ τ → LSt gx gm s σ τ H locs → lv_has ls 4 [(0, .ref b), (1, .ref (gx.2.1 0)), (2, .ref (gm.2.1 0)), (3, .int (nI i))] → W p l e room_1 s m #[Value.ref b] below meth c H locs 145 3915 Q (F0 m 18 ls []) := by
  obtain ⟨Cx, Cm, hg, hX, hbl, hL⟩ := id X
  have hbA : ¬ (fun q : Nat => s.heap.size ≤ q) b := Nat.not_le.mpr hbl
  have hx := Cx.1
  have hb := Cx.2.1
  intro n
  induction n with
  | zero => intro i N σ τ H locs ls h1 h2; exact absurd h1 (by omega)
  | succ n ih =>
    intro i N σ τ H locs ls hin hiL hN hR hw hl
    refine lv_iload_n hx hb d_L_law_18 rfl (lv_at hl 3 rfl) ?_
    refine lv_aload_n hx hb d_L_law_19 rfl (lv_at hl 0 rfl) ?_
    refine va_slen hx hb hX hbl hbA hw.2.2 d_L_law_20 ?_
    refine lv_bipush (v := 6) hx hb d_L_law_21 (by decide) ?_
    refine lv_isub hx hb d_L_law_23 ?_
    refine lv_icmp_gt (tgt := 1289) hx hb d_L_law_24 (by decide) (fun c9 => ?_) (fun c9 => ?_)
    · exact hend H locs ls (fun q hq => hw.2.2.2.2 q hq)
    · have hi6 : i + 6 ≤ L := by
        have e1 : (Int32.ofNat L - 6).toInt = (L : Int) - 6 := by
          have := sub_ti (a := L) (b := 6) (by omega) (by decide)
          exact this
        have c8 : ¬ (Int32.ofNat L - 6 < nI i) := c9
        rw [Int32.lt_iff_toInt_lt, e1, nI_toInt (by omega)] at c8
        omega
      refine lv_aload_n hx hb d_L_law_27 rfl (lv_at hl 0 rfl) ?_
      refine lv_iload_n hx hb d_L_law_28 rfl (lv_at hl 3 rfl) ?_
      refine va_sld hx hb hX hbl hbA hw.2.2 (vp_in_nI (by omega) (by omega)) d_L_law_29 ?_
      refine lv_bipush (v := 63) hx hb d_L_law_30 (by decide) ?_
      refine lv_iand hx hb d_L_law_32 ?_
      refine law_step X hi6 (by omega) hR hw hl (fun σ' τ' H1 locs1 hR1 hw1 => ?_)
      refine lv_iinc (v := nI (i + 6)) (lv' := [(3, .int (nI (i + 6))), (0, .ref b), (1, .ref (gx.2.1 0)), (2, .ref (gm.2.1 0))]) hx hb d_L_law_1283 hl (k := 3) rfl (by rw [← nI_add]; rfl) (by decide) rfl (fun ls hl => ?_)
      refine lv_goto (tgt := 18) hx hb d_L_law_1286 (by decide) ?_
      exact ih (i + 6) (N + 14) σ' τ' H1 locs1 ls (by omega) (by omega) (by omega) hR1 hw1 (lv_sub hl [1, 2, 3, 0] rfl)
