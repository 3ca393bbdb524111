/-! ===== THE LAW: each call of a script ===== -/
set_option maxHeartbeats 1000000 in
set_option maxRecDepth 20000 in
theorem lc_12 {gx gm : GX} {b L : Nat} {xs : Nat → Int32} {p : Program} {l : Launch} {e : Env} {s : State} {m : MethodId} {below : List Frame} {meth : Method} {c : Code} {H : Heap} {locs : List Loc} {Q : State → Prop} {ls : Array Slot} {σ τ : St} {i N : Nat} (X : LAt gx gm L b xs p s m meth c) (hi : i + 6 ≤ L) (hN : N ≤ 100000) (hR : Rl N σ τ) (hw : LSt gx gm s σ τ H locs) (hl : lv_has ls 4 [(0, .ref b), (1, .ref (gx.2.1 0)), (2, .ref (gm.2.1 0)), (3, .int (nI i))])
    (K : ∀ (σ' τ' : St) (H1 : Heap) (locs1 : List Loc), Rl (N + 14) σ' τ' → LSt gx gm s σ' τ' H1 locs1 → W p l e room_1 s m #[Value.ref b] below meth c H1 locs1 145 3915 Q (F0 m 1283 ls [])) : W p l e room_1 s m #[Value.ref b] below meth c H locs 145 3915 Q (F0 m 528 ls []) := by
  obtain ⟨Cx, Cm, hg, hX, hbl, hL⟩ := X
  have hbA : ¬ (fun q : Nat => s.heap.size ≤ q) b := Nat.not_le.mpr hbl
  have hx := Cx.1
  have hb := Cx.2.1
  have hown := Cx.2.2.2.2.1
  have hts := Cx.2.2.2.2.2.1
  obtain ⟨t, d, CL, CLs, s9, hRR⟩ := hR
  obtain ⟨r, σ', τ', e1, e2, hR'⟩ := op_next hRR (xs (nI i + 1).toNatClampNeg)
  refine lv_aload_n hx hb d_L_law_528 rfl (lv_at hl 1 rfl) ?_
  refine lv_aload_n hx hb d_L_law_529 rfl (lv_at hl 0 rfl) ?_
  refine lv_iload_n hx hb d_L_law_530 rfl (lv_at hl 3 rfl) ?_
  refine lv_iconst (v := 1) hx hb d_L_law_531 (by decide) ?_
  refine lv_iadd hx hb d_L_law_532 ?_
  refine va_sld hx hb hX hbl hbA hw.2.2 (vin (k := 1) (by omega) hL (by decide)) d_L_law_533 ?_
  refine clJ (q := (r, σ')) Cx hw (invV (As := [.int (xs (nI i + 1).toNatClampNeg)]) Cx (lhw hw) (c_X_next gx 0 tX_0 (xs (nI i + 1).toNatClampNeg) σ (r, σ') e1 l) rfl wc_L_65 nd_X_next ⟨by decide, by decide⟩ (rc_X Cx (lhw hw) tX_0) rfl hl.1 rfl (Nat.le_of_ble_eq_true rfl) d_L_law_534 ⟨by decide, by decide⟩) (fun H locs hw => ?_)
  replace hw := HV.other (g' := gm) hg hw
  have hm := hw
  refine lv_aload_n hx hb d_L_law_537 rfl (lv_at hl 2 rfl) ?_
  refine lv_aload_n hx hb d_L_law_538 rfl (lv_at hl 0 rfl) ?_
  refine lv_iload_n hx hb d_L_law_539 rfl (lv_at hl 3 rfl) ?_
  refine lv_iconst (v := 1) hx hb d_L_law_540 (by decide) ?_
  refine lv_iadd hx hb d_L_law_541 ?_
  refine va_sld hx hb hX hbl hbA hm.2.2 (vin (k := 1) (by omega) hL (by decide)) d_L_law_542 ?_
  refine clJ (q := (r, τ')) Cm hm (invV (As := [.int (xs (nI i + 1).toNatClampNeg)]) Cm (lhw hm) (c_M_next gm 0 tM_0 (xs (nI i + 1).toNatClampNeg) τ (r, τ') e2 l) rfl wc_L_68 nd_M_next ⟨by decide, by decide⟩ (rc_M Cm (lhw hm) tM_0) rfl hl.1 rfl (Nat.le_of_ble_eq_true rfl) d_L_law_543 ⟨by decide, by decide⟩) (fun H locs hm => ?_)
  refine lv_icmp_eq (tgt := 1283) hx hb d_L_law_546 (by decide) (fun _ => ?_) (fun c9 => absurd rfl c9)
  have hz := HV.other (g' := gx) hg.symm hm
  exact K σ' τ' H locs (hR'.le (by omega)) hz
set_option maxHeartbeats 1000000 in
set_option maxRecDepth 20000 in
theorem lc_13 {gx gm : GX} {b L : Nat} {xs : Nat → Int32} {p : Program} {l : Launch} {e : Env} {s : State} {m : MethodId} {below : List Frame} {meth : Method} {c : Code} {H : Heap} {locs : List Loc} {Q : State → Prop} {ls : Array Slot} {σ τ : St} {i N : Nat} (X : LAt gx gm L b xs p s m meth c) (hi : i + 6 ≤ L) (hN : N ≤ 100000) (hR : Rl N σ τ) (hw : LSt gx gm s σ τ H locs) (hl : lv_has ls 4 [(0, .ref b), (1, .ref (gx.2.1 0)), (2, .ref (gm.2.1 0)), (3, .int (nI i))])
    (K : ∀ (σ' τ' : St) (H1 : Heap) (locs1 : List Loc), Rl (N + 14) σ' τ' → LSt gx gm s σ' τ' H1 locs1 → W p l e room_1 s m #[Value.ref b] below meth c H1 locs1 145 3915 Q (F0 m 1283 ls [])) : W p l e room_1 s m #[Value.ref b] below meth c H locs 145 3915 Q (F0 m 551 ls []) := by
  obtain ⟨Cx, Cm, hg, hX, hbl, hL⟩ := X
  have hbA : ¬ (fun q : Nat => s.heap.size ≤ q) b := Nat.not_le.mpr hbl
  have hx := Cx.1
  have hb := Cx.2.1
  have hown := Cx.2.2.2.2.1
  have hts := Cx.2.2.2.2.2.1
  obtain ⟨t, d, CL, CLs, s9, hRR⟩ := hR
  obtain ⟨r, σ', τ', e1, e2, hR'⟩ := op_least hRR (xs (nI i + 1).toNatClampNeg) (xs (nI i + 2).toNatClampNeg)
  refine lv_aload_n hx hb d_L_law_551 rfl (lv_at hl 1 rfl) ?_
  refine lv_aload_n hx hb d_L_law_552 rfl (lv_at hl 0 rfl) ?_
  refine lv_iload_n hx hb d_L_law_553 rfl (lv_at hl 3 rfl) ?_
  refine lv_iconst (v := 1) hx hb d_L_law_554 (by decide) ?_
  refine lv_iadd hx hb d_L_law_555 ?_
  refine va_sld hx hb hX hbl hbA hw.2.2 (vin (k := 1) (by omega) hL (by decide)) d_L_law_556 ?_
  refine lv_aload_n hx hb d_L_law_557 rfl (lv_at hl 0 rfl) ?_
  refine lv_iload_n hx hb d_L_law_558 rfl (lv_at hl 3 rfl) ?_
  refine lv_iconst (v := 2) hx hb d_L_law_559 (by decide) ?_
  refine lv_iadd hx hb d_L_law_560 ?_
  refine va_sld hx hb hX hbl hbA hw.2.2 (vin (k := 2) (by omega) hL (by decide)) d_L_law_561 ?_
  refine clJ (q := (r, σ')) Cx hw (invV (As := [.int (xs (nI i + 1).toNatClampNeg), .int (xs (nI i + 2).toNatClampNeg)]) Cx (lhw hw) (c_X_least gx 0 tX_0 (xs (nI i + 1).toNatClampNeg) (xs (nI i + 2).toNatClampNeg) σ (r, σ') e1 l) rfl wc_L_69 nd_X_least ⟨by decide, by decide⟩ (rc_X Cx (lhw hw) tX_0) rfl hl.1 rfl (Nat.le_of_ble_eq_true rfl) d_L_law_562 ⟨by decide, by decide⟩) (fun H locs hw => ?_)
  replace hw := HV.other (g' := gm) hg hw
  have hm := hw
  refine lv_aload_n hx hb d_L_law_565 rfl (lv_at hl 2 rfl) ?_
  refine lv_aload_n hx hb d_L_law_566 rfl (lv_at hl 0 rfl) ?_
  refine lv_iload_n hx hb d_L_law_567 rfl (lv_at hl 3 rfl) ?_
  refine lv_iconst (v := 1) hx hb d_L_law_568 (by decide) ?_
  refine lv_iadd hx hb d_L_law_569 ?_
  refine va_sld hx hb hX hbl hbA hm.2.2 (vin (k := 1) (by omega) hL (by decide)) d_L_law_570 ?_
  refine lv_aload_n hx hb d_L_law_571 rfl (lv_at hl 0 rfl) ?_
  refine lv_iload_n hx hb d_L_law_572 rfl (lv_at hl 3 rfl) ?_
  refine lv_iconst (v := 2) hx hb d_L_law_573 (by decide) ?_
  refine lv_iadd hx hb d_L_law_574 ?_
  refine va_sld hx hb hX hbl hbA hm.2.2 (vin (k := 2) (by omega) hL (by decide)) d_L_law_575 ?_
  refine clJ (q := (r, τ')) Cm hm (invV (As := [.int (xs (nI i + 1).toNatClampNeg), .int (xs (nI i + 2).toNatClampNeg)]) Cm (lhw hm) (c_M_least gm 0 tM_0 (xs (nI i + 1).toNatClampNeg) (xs (nI i + 2).toNatClampNeg) τ (r, τ') e2 l) rfl wc_L_72 nd_M_least ⟨by decide, by decide⟩ (rc_M Cm (lhw hm) tM_0) rfl hl.1 rfl (Nat.le_of_ble_eq_true rfl) d_L_law_576 ⟨by decide, by decide⟩) (fun H locs hm => ?_)
  refine lv_icmp_eq (tgt := 1283) hx hb d_L_law_579 (by decide) (fun _ => ?_) (fun c9 => absurd rfl c9)
  have hz := HV.other (g' := gx) hg.symm hm
  exact K σ' τ' H locs (hR'.le (by omega)) hz
set_option maxHeartbeats 1000000 in
set_option maxRecDepth 20000 in
theorem lc_14 {gx gm : GX} {b L : Nat} {xs : Nat → Int32} {p : Program} {l : Launch} {e : Env} {s : State} {m : MethodId} {below : List Frame} {meth : Method} {c : Code} {H : Heap} {locs : List Loc} {Q : State → Prop} {ls : Array Slot} {σ τ : St} {i N : Nat} (X : LAt gx gm L b xs p s m meth c) (hi : i + 6 ≤ L) (hN : N ≤ 100000) (hR : Rl N σ τ) (hw : LSt gx gm s σ τ H locs) (hl : lv_has ls 4 [(0, .ref b), (1, .ref (gx.2.1 0)), (2, .ref (gm.2.1 0)), (3, .int (nI i))])
    (K : ∀ (σ' τ' : St) (H1 : Heap) (locs1 : List Loc), Rl (N + 14) σ' τ' → LSt gx gm s σ' τ' H1 locs1 → W p l e room_1 s m #[Value.ref b] below meth c H1 locs1 145 3915 Q (F0 m 1283 ls [])) : W p l e room_1 s m #[Value.ref b] below meth c H locs 145 3915 Q (F0 m 584 ls []) := by
  obtain ⟨Cx, Cm, hg, hX, hbl, hL⟩ := X
  have hbA : ¬ (fun q : Nat => s.heap.size ≤ q) b := Nat.not_le.mpr hbl
  have hx := Cx.1
  have hb := Cx.2.1
  have hown := Cx.2.2.2.2.1
  have hts := Cx.2.2.2.2.2.1
  obtain ⟨t, d, CL, CLs, s9, hRR⟩ := hR
  obtain ⟨r, σ', τ', e1, e2, hR'⟩ := op_full hRR (xs (nI i + 1).toNatClampNeg) (xs (nI i + 2).toNatClampNeg)
  refine lv_aload_n hx hb d_L_law_584 rfl (lv_at hl 1 rfl) ?_
  refine lv_aload_n hx hb d_L_law_585 rfl (lv_at hl 0 rfl) ?_
  refine lv_iload_n hx hb d_L_law_586 rfl (lv_at hl 3 rfl) ?_
  refine lv_iconst (v := 1) hx hb d_L_law_587 (by decide) ?_
  refine lv_iadd hx hb d_L_law_588 ?_
  refine va_sld hx hb hX hbl hbA hw.2.2 (vin (k := 1) (by omega) hL (by decide)) d_L_law_589 ?_
  refine lv_aload_n hx hb d_L_law_590 rfl (lv_at hl 0 rfl) ?_
  refine lv_iload_n hx hb d_L_law_591 rfl (lv_at hl 3 rfl) ?_
  refine lv_iconst (v := 2) hx hb d_L_law_592 (by decide) ?_
  refine lv_iadd hx hb d_L_law_593 ?_
  refine va_sld hx hb hX hbl hbA hw.2.2 (vin (k := 2) (by omega) hL (by decide)) d_L_law_594 ?_
  refine clJ (q := (r, σ')) Cx hw (invV (As := [.int (xs (nI i + 1).toNatClampNeg), .int (xs (nI i + 2).toNatClampNeg)]) Cx (lhw hw) (c_X_full gx 0 tX_0 (xs (nI i + 1).toNatClampNeg) (xs (nI i + 2).toNatClampNeg) σ (r, σ') e1 l) rfl wc_L_73 nd_X_full ⟨by decide, by decide⟩ (rc_X Cx (lhw hw) tX_0) rfl hl.1 rfl (Nat.le_of_ble_eq_true rfl) d_L_law_595 ⟨by decide, by decide⟩) (fun H locs hw => ?_)
  replace hw := HV.other (g' := gm) hg hw
  have hm := hw
  refine lv_aload_n hx hb d_L_law_598 rfl (lv_at hl 2 rfl) ?_
  refine lv_aload_n hx hb d_L_law_599 rfl (lv_at hl 0 rfl) ?_
  refine lv_iload_n hx hb d_L_law_600 rfl (lv_at hl 3 rfl) ?_
  refine lv_iconst (v := 1) hx hb d_L_law_601 (by decide) ?_
  refine lv_iadd hx hb d_L_law_602 ?_
  refine va_sld hx hb hX hbl hbA hm.2.2 (vin (k := 1) (by omega) hL (by decide)) d_L_law_603 ?_
  refine lv_aload_n hx hb d_L_law_604 rfl (lv_at hl 0 rfl) ?_
  refine lv_iload_n hx hb d_L_law_605 rfl (lv_at hl 3 rfl) ?_
  refine lv_iconst (v := 2) hx hb d_L_law_606 (by decide) ?_
  refine lv_iadd hx hb d_L_law_607 ?_
  refine va_sld hx hb hX hbl hbA hm.2.2 (vin (k := 2) (by omega) hL (by decide)) d_L_law_608 ?_
  refine clJ (q := (r, τ')) Cm hm (invV (As := [.int (xs (nI i + 1).toNatClampNeg), .int (xs (nI i + 2).toNatClampNeg)]) Cm (lhw hm) (c_M_full gm 0 tM_0 (xs (nI i + 1).toNatClampNeg) (xs (nI i + 2).toNatClampNeg) τ (r, τ') e2 l) rfl wc_L_76 nd_M_full ⟨by decide, by decide⟩ (rc_M Cm (lhw hm) tM_0) rfl hl.1 rfl (Nat.le_of_ble_eq_true rfl) d_L_law_609 ⟨by decide, by decide⟩) (fun H locs hm => ?_)
  refine lv_icmp_eq (tgt := 1283) hx hb d_L_law_612 (by decide) (fun _ => ?_) (fun c9 => absurd rfl c9)
  have hz := HV.other (g' := gx) hg.symm hm
  exact K σ' τ' H locs (hR'.le (by omega)) hz
set_option maxHeartbeats 1000000 in
set_option maxRecDepth 20000 in
theorem lc_15 {gx gm : GX} {b L : Nat} {xs : Nat → Int32} {p : Program} {l : Launch} {e : Env} {s : State} {m : MethodId} {below : List Frame} {meth : Method} {c : Code} {H : Heap} {locs : List Loc} {Q : State → Prop} {ls : Array Slot} {σ τ : St} {i N : Nat} (X : LAt gx gm L b xs p s m meth c) (hi : i + 6 ≤ L) (hN : N ≤ 100000) (hR : Rl N σ τ) (hw : LSt gx gm s σ τ H locs) (hl : lv_has ls 4 [(0, .ref b), (1, .ref (gx.2.1 0)), (2, .ref (gm.2.1 0)), (3, .int (nI i))])
    (K : ∀ (σ' τ' : St) (H1 : Heap) (locs1 : List Loc), Rl (N + 14) σ' τ' → LSt gx gm s σ' τ' H1 locs1 → W p l e room_1 s m #[Value.ref b] below meth c H1 locs1 145 3915 Q (F0 m 1283 ls [])) : W p l e room_1 s m #[Value.ref b] below meth c H locs 145 3915 Q (F0 m 617 ls []) := by
  obtain ⟨Cx, Cm, hg, hX, hbl, hL⟩ := X
  have hbA : ¬ (fun q : Nat => s.heap.size ≤ q) b := Nat.not_le.mpr hbl
  have hx := Cx.1
  have hb := Cx.2.1
  have hown := Cx.2.2.2.2.1
  have hts := Cx.2.2.2.2.2.1
  obtain ⟨t, d, CL, CLs, s9, hRR⟩ := hR
  obtain ⟨r, σ', τ', e1, e2, hR'⟩ := op_order hRR (xs (nI i + 1).toNatClampNeg)
  refine lv_aload_n hx hb d_L_law_617 rfl (lv_at hl 1 rfl) ?_
  refine lv_aload_n hx hb d_L_law_618 rfl (lv_at hl 0 rfl) ?_
  refine lv_iload_n hx hb d_L_law_619 rfl (lv_at hl 3 rfl) ?_
  refine lv_iconst (v := 1) hx hb d_L_law_620 (by decide) ?_
  refine lv_iadd hx hb d_L_law_621 ?_
  refine va_sld hx hb hX hbl hbA hw.2.2 (vin (k := 1) (by omega) hL (by decide)) d_L_law_622 ?_
  refine clJ (q := (r, σ')) Cx hw (invV (As := [.int (xs (nI i + 1).toNatClampNeg)]) Cx (lhw hw) (c_X_order gx 0 tX_0 (xs (nI i + 1).toNatClampNeg) σ (r, σ') e1 l) rfl wc_L_77 nd_X_order ⟨by decide, by decide⟩ (rc_X Cx (lhw hw) tX_0) rfl hl.1 rfl (Nat.le_of_ble_eq_true rfl) d_L_law_623 ⟨by decide, by decide⟩) (fun H locs hw => ?_)
  replace hw := HV.other (g' := gm) hg hw
  have hm := hw
  refine lv_aload_n hx hb d_L_law_626 rfl (lv_at hl 2 rfl) ?_
  refine lv_aload_n hx hb d_L_law_627 rfl (lv_at hl 0 rfl) ?_
  refine lv_iload_n hx hb d_L_law_628 rfl (lv_at hl 3 rfl) ?_
  refine lv_iconst (v := 1) hx hb d_L_law_629 (by decide) ?_
  refine lv_iadd hx hb d_L_law_630 ?_
  refine va_sld hx hb hX hbl hbA hm.2.2 (vin (k := 1) (by omega) hL (by decide)) d_L_law_631 ?_
  refine clJ (q := (r, τ')) Cm hm (invV (As := [.int (xs (nI i + 1).toNatClampNeg)]) Cm (lhw hm) (c_M_order gm 0 tM_0 (xs (nI i + 1).toNatClampNeg) τ (r, τ') e2 l) rfl wc_L_80 nd_M_order ⟨by decide, by decide⟩ (rc_M Cm (lhw hm) tM_0) rfl hl.1 rfl (Nat.le_of_ble_eq_true rfl) d_L_law_632 ⟨by decide, by decide⟩) (fun H locs hm => ?_)
  refine lv_icmp_eq (tgt := 1283) hx hb d_L_law_635 (by decide) (fun _ => ?_) (fun c9 => absurd rfl c9)
  have hz := HV.other (g' := gx) hg.symm hm
  exact K σ' τ' H locs (hR'.le (by omega)) hz
set_option maxHeartbeats 1000000 in
set_option maxRecDepth 20000 in
theorem lc_16 {gx gm : GX} {b L : Nat} {xs : Nat → Int32} {p : Program} {l : Launch} {e : Env} {s : State} {m : MethodId} {below : List Frame} {meth : Method} {c : Code} {H : Heap} {locs : List Loc} {Q : State → Prop} {ls : Array Slot} {σ τ : St} {i N : Nat} (X : LAt gx gm L b xs p s m meth c) (hi : i + 6 ≤ L) (hN : N ≤ 100000) (hR : Rl N σ τ) (hw : LSt gx gm s σ τ H locs) (hl : lv_has ls 4 [(0, .ref b), (1, .ref (gx.2.1 0)), (2, .ref (gm.2.1 0)), (3, .int (nI i))])
    (K : ∀ (σ' τ' : St) (H1 : Heap) (locs1 : List Loc), Rl (N + 14) σ' τ' → LSt gx gm s σ' τ' H1 locs1 → W p l e room_1 s m #[Value.ref b] below meth c H1 locs1 145 3915 Q (F0 m 1283 ls [])) : W p l e room_1 s m #[Value.ref b] below meth c H locs 145 3915 Q (F0 m 640 ls []) := by
  obtain ⟨Cx, Cm, hg, hX, hbl, hL⟩ := X
  have hbA : ¬ (fun q : Nat => s.heap.size ≤ q) b := Nat.not_le.mpr hbl
  have hx := Cx.1
  have hb := Cx.2.1
  have hown := Cx.2.2.2.2.1
  have hts := Cx.2.2.2.2.2.1
  obtain ⟨t, d, CL, CLs, s9, hRR⟩ := hR
  obtain ⟨r, σ', τ', e1, e2, hR'⟩ := op_without hRR (xs (nI i + 1).toNatClampNeg) (xs (nI i + 2).toNatClampNeg)
  refine lv_aload_n hx hb d_L_law_640 rfl (lv_at hl 1 rfl) ?_
  refine lv_aload_n hx hb d_L_law_641 rfl (lv_at hl 0 rfl) ?_
  refine lv_iload_n hx hb d_L_law_642 rfl (lv_at hl 3 rfl) ?_
  refine lv_iconst (v := 1) hx hb d_L_law_643 (by decide) ?_
  refine lv_iadd hx hb d_L_law_644 ?_
  refine va_sld hx hb hX hbl hbA hw.2.2 (vin (k := 1) (by omega) hL (by decide)) d_L_law_645 ?_
  refine lv_aload_n hx hb d_L_law_646 rfl (lv_at hl 0 rfl) ?_
  refine lv_iload_n hx hb d_L_law_647 rfl (lv_at hl 3 rfl) ?_
  refine lv_iconst (v := 2) hx hb d_L_law_648 (by decide) ?_
  refine lv_iadd hx hb d_L_law_649 ?_
  refine va_sld hx hb hX hbl hbA hw.2.2 (vin (k := 2) (by omega) hL (by decide)) d_L_law_650 ?_
  refine clJ (q := (r, σ')) Cx hw (invV (As := [.int (xs (nI i + 1).toNatClampNeg), .int (xs (nI i + 2).toNatClampNeg)]) Cx (lhw hw) (c_X_without gx 0 tX_0 (xs (nI i + 1).toNatClampNeg) (xs (nI i + 2).toNatClampNeg) σ (r, σ') e1 l) rfl wc_L_81 nd_X_without ⟨by decide, by decide⟩ (rc_X Cx (lhw hw) tX_0) rfl hl.1 rfl (Nat.le_of_ble_eq_true rfl) d_L_law_651 ⟨by decide, by decide⟩) (fun H locs hw => ?_)
  replace hw := HV.other (g' := gm) hg hw
  have hm := hw
  refine lv_aload_n hx hb d_L_law_654 rfl (lv_at hl 2 rfl) ?_
  refine lv_aload_n hx hb d_L_law_655 rfl (lv_at hl 0 rfl) ?_
  refine lv_iload_n hx hb d_L_law_656 rfl (lv_at hl 3 rfl) ?_
  refine lv_iconst (v := 1) hx hb d_L_law_657 (by decide) ?_
  refine lv_iadd hx hb d_L_law_658 ?_
  refine va_sld hx hb hX hbl hbA hm.2.2 (vin (k := 1) (by omega) hL (by decide)) d_L_law_659 ?_
  refine lv_aload_n hx hb d_L_law_660 rfl (lv_at hl 0 rfl) ?_
  refine lv_iload_n hx hb d_L_law_661 rfl (lv_at hl 3 rfl) ?_
  refine lv_iconst (v := 2) hx hb d_L_law_662 (by decide) ?_
  refine lv_iadd hx hb d_L_law_663 ?_
  refine va_sld hx hb hX hbl hbA hm.2.2 (vin (k := 2) (by omega) hL (by decide)) d_L_law_664 ?_
  refine clJ (q := (r, τ')) Cm hm (invV (As := [.int (xs (nI i + 1).toNatClampNeg), .int (xs (nI i + 2).toNatClampNeg)]) Cm (lhw hm) (c_M_without gm 0 tM_0 (xs (nI i + 1).toNatClampNeg) (xs (nI i + 2).toNatClampNeg) τ (r, τ') e2 l) rfl wc_L_84 nd_M_without ⟨by decide, by decide⟩ (rc_M Cm (lhw hm) tM_0) rfl hl.1 rfl (Nat.le_of_ble_eq_true rfl) d_L_law_665 ⟨by decide, by decide⟩) (fun H locs hm => ?_)
  refine lv_icmp_eq (tgt := 1283) hx hb d_L_law_668 (by decide) (fun _ => ?_) (fun c9 => absurd rfl c9)
  have hz := HV.other (g' := gx) hg.symm hm
  exact K σ' τ' H locs (hR'.le (by omega)) hz
set_option maxHeartbeats 1000000 in
set_option maxRecDepth 20000 in
theorem lc_17 {gx gm : GX} {b L : Nat} {xs : Nat → Int32} {p : Program} {l : Launch} {e : Env} {s : State} {m : MethodId} {below : List Frame} {meth : Method} {c : Code} {H : Heap} {locs : List Loc} {Q : State → Prop} {ls : Array Slot} {σ τ : St} {i N : Nat} (X : LAt gx gm L b xs p s m meth c) (hi : i + 6 ≤ L) (hN : N ≤ 100000) (hR : Rl N σ τ) (hw : LSt gx gm s σ τ H locs) (hl : lv_has ls 4 [(0, .ref b), (1, .ref (gx.2.1 0)), (2, .ref (gm.2.1 0)), (3, .int (nI i))])
    (K : ∀ (σ' τ' : St) (H1 : Heap) (locs1 : List Loc), Rl (N + 14) σ' τ' → LSt gx gm s σ' τ' H1 locs1 → W p l e room_1 s m #[Value.ref b] below meth c H1 locs1 145 3915 Q (F0 m 1283 ls [])) : W p l e room_1 s m #[Value.ref b] below meth c H locs 145 3915 Q (F0 m 673 ls []) := by
  obtain ⟨Cx, Cm, hg, hX, hbl, hL⟩ := X
  have hbA : ¬ (fun q : Nat => s.heap.size ≤ q) b := Nat.not_le.mpr hbl
  have hx := Cx.1
  have hb := Cx.2.1
  have hown := Cx.2.2.2.2.1
  have hts := Cx.2.2.2.2.2.1
  obtain ⟨t, d, CL, CLs, s9, hRR⟩ := hR
  obtain ⟨r, σ', τ', e1, e2, hR'⟩ := op_few hRR (xs (nI i + 1).toNatClampNeg) (xs (nI i + 2).toNatClampNeg)
  refine lv_aload_n hx hb d_L_law_673 rfl (lv_at hl 1 rfl) ?_
  refine lv_aload_n hx hb d_L_law_674 rfl (lv_at hl 0 rfl) ?_
  refine lv_iload_n hx hb d_L_law_675 rfl (lv_at hl 3 rfl) ?_
  refine lv_iconst (v := 1) hx hb d_L_law_676 (by decide) ?_
  refine lv_iadd hx hb d_L_law_677 ?_
  refine va_sld hx hb hX hbl hbA hw.2.2 (vin (k := 1) (by omega) hL (by decide)) d_L_law_678 ?_
  refine lv_aload_n hx hb d_L_law_679 rfl (lv_at hl 0 rfl) ?_
  refine lv_iload_n hx hb d_L_law_680 rfl (lv_at hl 3 rfl) ?_
  refine lv_iconst (v := 2) hx hb d_L_law_681 (by decide) ?_
  refine lv_iadd hx hb d_L_law_682 ?_
  refine va_sld hx hb hX hbl hbA hw.2.2 (vin (k := 2) (by omega) hL (by decide)) d_L_law_683 ?_
  refine clJ (q := (r, σ')) Cx hw (invV (As := [.int (xs (nI i + 1).toNatClampNeg), .int (xs (nI i + 2).toNatClampNeg)]) Cx (lhw hw) (c_X_few gx 0 tX_0 (xs (nI i + 1).toNatClampNeg) (xs (nI i + 2).toNatClampNeg) σ (r, σ') e1 l) rfl wc_L_85 nd_X_few ⟨by decide, by decide⟩ (rc_X Cx (lhw hw) tX_0) rfl hl.1 rfl (Nat.le_of_ble_eq_true rfl) d_L_law_684 ⟨by decide, by decide⟩) (fun H locs hw => ?_)
  replace hw := HV.other (g' := gm) hg hw
  have hm := hw
  refine lv_aload_n hx hb d_L_law_687 rfl (lv_at hl 2 rfl) ?_
  refine lv_aload_n hx hb d_L_law_688 rfl (lv_at hl 0 rfl) ?_
  refine lv_iload_n hx hb d_L_law_689 rfl (lv_at hl 3 rfl) ?_
  refine lv_iconst (v := 1) hx hb d_L_law_690 (by decide) ?_
  refine lv_iadd hx hb d_L_law_691 ?_
  refine va_sld hx hb hX hbl hbA hm.2.2 (vin (k := 1) (by omega) hL (by decide)) d_L_law_692 ?_
  refine lv_aload_n hx hb d_L_law_693 rfl (lv_at hl 0 rfl) ?_
  refine lv_iload_n hx hb d_L_law_694 rfl (lv_at hl 3 rfl) ?_
  refine lv_iconst (v := 2) hx hb d_L_law_695 (by decide) ?_
  refine lv_iadd hx hb d_L_law_696 ?_
  refine va_sld hx hb hX hbl hbA hm.2.2 (vin (k := 2) (by omega) hL (by decide)) d_L_law_697 ?_
  refine clJ (q := (r, τ')) Cm hm (invV (As := [.int (xs (nI i + 1).toNatClampNeg), .int (xs (nI i + 2).toNatClampNeg)]) Cm (lhw hm) (c_M_few gm 0 tM_0 (xs (nI i + 1).toNatClampNeg) (xs (nI i + 2).toNatClampNeg) τ (r, τ') e2 l) rfl wc_L_88 nd_M_few ⟨by decide, by decide⟩ (rc_M Cm (lhw hm) tM_0) rfl hl.1 rfl (Nat.le_of_ble_eq_true rfl) d_L_law_698 ⟨by decide, by decide⟩) (fun H locs hm => ?_)
  refine lv_icmp_eq (tgt := 1283) hx hb d_L_law_701 (by decide) (fun _ => ?_) (fun c9 => absurd rfl c9)
  have hz := HV.other (g' := gx) hg.symm hm
  exact K σ' τ' H locs (hR'.le (by omega)) hz
set_option maxHeartbeats 1000000 in
set_option maxRecDepth 20000 in
theorem lc_18 {gx gm : GX} {b L : Nat} {xs : Nat → Int32} {p : Program} {l : Launch} {e : Env} {s : State} {m : MethodId} {below : List Frame} {meth : Method} {c : Code} {H : Heap} {locs : List Loc} {Q : State → Prop} {ls : Array Slot} {σ τ : St} {i N : Nat} (X : LAt gx gm L b xs p s m meth c) (hi : i + 6 ≤ L) (hN : N ≤ 100000) (hR : Rl N σ τ) (hw : LSt gx gm s σ τ H locs) (hl : lv_has ls 4 [(0, .ref b), (1, .ref (gx.2.1 0)), (2, .ref (gm.2.1 0)), (3, .int (nI i))])
    (K : ∀ (σ' τ' : St) (H1 : Heap) (locs1 : List Loc), Rl (N + 14) σ' τ' → LSt gx gm s σ' τ' H1 locs1 → W p l e room_1 s m #[Value.ref b] below meth c H1 locs1 145 3915 Q (F0 m 1283 ls [])) : W p l e room_1 s m #[Value.ref b] below meth c H locs 145 3915 Q (F0 m 706 ls []) := by
  obtain ⟨Cx, Cm, hg, hX, hbl, hL⟩ := X
  have hbA : ¬ (fun q : Nat => s.heap.size ≤ q) b := Nat.not_le.mpr hbl
  have hx := Cx.1
  have hb := Cx.2.1
  have hown := Cx.2.2.2.2.1
  have hts := Cx.2.2.2.2.2.1
  obtain ⟨t, d, CL, CLs, s9, hRR⟩ := hR
  obtain ⟨r, σ', τ', e1, e2, hR'⟩ := op_pitied hRR (xs (nI i + 1).toNatClampNeg)
  refine lv_aload_n hx hb d_L_law_706 rfl (lv_at hl 1 rfl) ?_
  refine lv_aload_n hx hb d_L_law_707 rfl (lv_at hl 0 rfl) ?_
  refine lv_iload_n hx hb d_L_law_708 rfl (lv_at hl 3 rfl) ?_
  refine lv_iconst (v := 1) hx hb d_L_law_709 (by decide) ?_
  refine lv_iadd hx hb d_L_law_710 ?_
  refine va_sld hx hb hX hbl hbA hw.2.2 (vin (k := 1) (by omega) hL (by decide)) d_L_law_711 ?_
  refine clJ (q := (r, σ')) Cx hw (invV (As := [.int (xs (nI i + 1).toNatClampNeg)]) Cx (lhw hw) (c_X_pitied gx 0 tX_0 (xs (nI i + 1).toNatClampNeg) σ (r, σ') e1 l) rfl wc_L_89 nd_X_pitied ⟨by decide, by decide⟩ (rc_X Cx (lhw hw) tX_0) rfl hl.1 rfl (Nat.le_of_ble_eq_true rfl) d_L_law_712 ⟨by decide, by decide⟩) (fun H locs hw => ?_)
  replace hw := HV.other (g' := gm) hg hw
  have hm := hw
  refine lv_aload_n hx hb d_L_law_715 rfl (lv_at hl 2 rfl) ?_
  refine lv_aload_n hx hb d_L_law_716 rfl (lv_at hl 0 rfl) ?_
  refine lv_iload_n hx hb d_L_law_717 rfl (lv_at hl 3 rfl) ?_
  refine lv_iconst (v := 1) hx hb d_L_law_718 (by decide) ?_
  refine lv_iadd hx hb d_L_law_719 ?_
  refine va_sld hx hb hX hbl hbA hm.2.2 (vin (k := 1) (by omega) hL (by decide)) d_L_law_720 ?_
  refine clJ (q := (r, τ')) Cm hm (invV (As := [.int (xs (nI i + 1).toNatClampNeg)]) Cm (lhw hm) (c_M_pitied gm 0 tM_0 (xs (nI i + 1).toNatClampNeg) τ (r, τ') e2 l) rfl wc_L_92 nd_M_pitied ⟨by decide, by decide⟩ (rc_M Cm (lhw hm) tM_0) rfl hl.1 rfl (Nat.le_of_ble_eq_true rfl) d_L_law_721 ⟨by decide, by decide⟩) (fun H locs hm => ?_)
  refine lv_icmp_eq (tgt := 1283) hx hb d_L_law_724 (by decide) (fun _ => ?_) (fun c9 => absurd rfl c9)
  have hz := HV.other (g' := gx) hg.symm hm
  exact K σ' τ' H locs (hR'.le (by omega)) hz
set_option maxHeartbeats 1000000 in
set_option maxRecDepth 20000 in
theorem lc_19 {gx gm : GX} {b L : Nat} {xs : Nat → Int32} {p : Program} {l : Launch} {e : Env} {s : State} {m : MethodId} {below : List Frame} {meth : Method} {c : Code} {H : Heap} {locs : List Loc} {Q : State → Prop} {ls : Array Slot} {σ τ : St} {i N : Nat} (X : LAt gx gm L b xs p s m meth c) (hi : i + 6 ≤ L) (hN : N ≤ 100000) (hR : Rl N σ τ) (hw : LSt gx gm s σ τ H locs) (hl : lv_has ls 4 [(0, .ref b), (1, .ref (gx.2.1 0)), (2, .ref (gm.2.1 0)), (3, .int (nI i))])
    (K : ∀ (σ' τ' : St) (H1 : Heap) (locs1 : List Loc), Rl (N + 14) σ' τ' → LSt gx gm s σ' τ' H1 locs1 → W p l e room_1 s m #[Value.ref b] below meth c H1 locs1 145 3915 Q (F0 m 1283 ls [])) : W p l e room_1 s m #[Value.ref b] below meth c H locs 145 3915 Q (F0 m 729 ls []) := by
  obtain ⟨Cx, Cm, hg, hX, hbl, hL⟩ := X
  have hbA : ¬ (fun q : Nat => s.heap.size ≤ q) b := Nat.not_le.mpr hbl
  have hx := Cx.1
  have hb := Cx.2.1
  have hown := Cx.2.2.2.2.1
  have hts := Cx.2.2.2.2.2.1
  obtain ⟨t, d, CL, CLs, s9, hRR⟩ := hR
  obtain ⟨r, σ', τ', e1, e2, hR'⟩ := op_see hRR (xs (nI i + 1).toNatClampNeg) (xs (nI i + 2).toNatClampNeg)
  refine lv_aload_n hx hb d_L_law_729 rfl (lv_at hl 1 rfl) ?_
  refine lv_aload_n hx hb d_L_law_730 rfl (lv_at hl 0 rfl) ?_
  refine lv_iload_n hx hb d_L_law_731 rfl (lv_at hl 3 rfl) ?_
  refine lv_iconst (v := 1) hx hb d_L_law_732 (by decide) ?_
  refine lv_iadd hx hb d_L_law_733 ?_
  refine va_sld hx hb hX hbl hbA hw.2.2 (vin (k := 1) (by omega) hL (by decide)) d_L_law_734 ?_
  refine lv_aload_n hx hb d_L_law_735 rfl (lv_at hl 0 rfl) ?_
  refine lv_iload_n hx hb d_L_law_736 rfl (lv_at hl 3 rfl) ?_
  refine lv_iconst (v := 2) hx hb d_L_law_737 (by decide) ?_
  refine lv_iadd hx hb d_L_law_738 ?_
  refine va_sld hx hb hX hbl hbA hw.2.2 (vin (k := 2) (by omega) hL (by decide)) d_L_law_739 ?_
  refine clJ (q := (r, σ')) Cx hw (invV (As := [.int (xs (nI i + 1).toNatClampNeg), .int (xs (nI i + 2).toNatClampNeg)]) Cx (lhw hw) (c_X_see gx 0 tX_0 (xs (nI i + 1).toNatClampNeg) (xs (nI i + 2).toNatClampNeg) σ (r, σ') e1 l) rfl wc_L_93 nd_X_see ⟨by decide, by decide⟩ (rc_X Cx (lhw hw) tX_0) rfl hl.1 rfl (Nat.le_of_ble_eq_true rfl) d_L_law_740 ⟨by decide, by decide⟩) (fun H locs hw => ?_)
  replace hw := HV.other (g' := gm) hg hw
  have hm := hw
  refine lv_aload_n hx hb d_L_law_743 rfl (lv_at hl 2 rfl) ?_
  refine lv_aload_n hx hb d_L_law_744 rfl (lv_at hl 0 rfl) ?_
  refine lv_iload_n hx hb d_L_law_745 rfl (lv_at hl 3 rfl) ?_
  refine lv_iconst (v := 1) hx hb d_L_law_746 (by decide) ?_
  refine lv_iadd hx hb d_L_law_747 ?_
  refine va_sld hx hb hX hbl hbA hm.2.2 (vin (k := 1) (by omega) hL (by decide)) d_L_law_748 ?_
  refine lv_aload_n hx hb d_L_law_749 rfl (lv_at hl 0 rfl) ?_
  refine lv_iload_n hx hb d_L_law_750 rfl (lv_at hl 3 rfl) ?_
  refine lv_iconst (v := 2) hx hb d_L_law_751 (by decide) ?_
  refine lv_iadd hx hb d_L_law_752 ?_
  refine va_sld hx hb hX hbl hbA hm.2.2 (vin (k := 2) (by omega) hL (by decide)) d_L_law_753 ?_
  refine clJ (q := (r, τ')) Cm hm (invV (As := [.int (xs (nI i + 1).toNatClampNeg), .int (xs (nI i + 2).toNatClampNeg)]) Cm (lhw hm) (c_M_see gm 0 tM_0 (xs (nI i + 1).toNatClampNeg) (xs (nI i + 2).toNatClampNeg) τ (r, τ') e2 l) rfl wc_L_96 nd_M_see ⟨by decide, by decide⟩ (rc_M Cm (lhw hm) tM_0) rfl hl.1 rfl (Nat.le_of_ble_eq_true rfl) d_L_law_754 ⟨by decide, by decide⟩) (fun H locs hm => ?_)
  refine lv_icmp_eq (tgt := 1283) hx hb d_L_law_757 (by decide) (fun _ => ?_) (fun c9 => absurd rfl c9)
  have hz := HV.other (g' := gx) hg.symm hm
  exact K σ' τ' H locs (hR'.le (by omega)) hz
set_option maxHeartbeats 1000000 in
set_option maxRecDepth 20000 in
theorem lc_20 {gx gm : GX} {b L : Nat} {xs : Nat → Int32} {p : Program} {l : Launch} {e : Env} {s : State} {m : MethodId} {below : List Frame} {meth : Method} {c : Code} {H : Heap} {locs : List Loc} {Q : State → Prop} {ls : Array Slot} {σ τ : St} {i N : Nat} (X : LAt gx gm L b xs p s m meth c) (hi : i + 6 ≤ L) (hN : N ≤ 100000) (hR : Rl N σ τ) (hw : LSt gx gm s σ τ H locs) (hl : lv_has ls 4 [(0, .ref b), (1, .ref (gx.2.1 0)), (2, .ref (gm.2.1 0)), (3, .int (nI i))])
    (K : ∀ (σ' τ' : St) (H1 : Heap) (locs1 : List Loc), Rl (N + 14) σ' τ' → LSt gx gm s σ' τ' H1 locs1 → W p l e room_1 s m #[Value.ref b] below meth c H1 locs1 145 3915 Q (F0 m 1283 ls [])) : W p l e room_1 s m #[Value.ref b] below meth c H locs 145 3915 Q (F0 m 762 ls []) := by
  obtain ⟨Cx, Cm, hg, hX, hbl, hL⟩ := X
  have hbA : ¬ (fun q : Nat => s.heap.size ≤ q) b := Nat.not_le.mpr hbl
  have hx := Cx.1
  have hb := Cx.2.1
  have hown := Cx.2.2.2.2.1
  have hts := Cx.2.2.2.2.2.1
  obtain ⟨t, d, CL, CLs, s9, hRR⟩ := hR
  obtain ⟨r, σ', τ', e1, e2, hR'⟩ := op_who hRR 
  refine lv_aload_n hx hb d_L_law_762 rfl (lv_at hl 1 rfl) ?_
  refine clJ (q := (r, σ')) Cx hw (invV (As := []) Cx (lhw hw) (c_X_who gx 0 tX_0  σ (r, σ') e1 l) rfl wc_L_97 nd_X_who ⟨by decide, by decide⟩ (rc_X Cx (lhw hw) tX_0) rfl hl.1 rfl (Nat.le_of_ble_eq_true rfl) d_L_law_763 ⟨by decide, by decide⟩) (fun H locs hw => ?_)
  replace hw := HV.other (g' := gm) hg hw
  have hm := hw
  refine lv_aload_n hx hb d_L_law_766 rfl (lv_at hl 2 rfl) ?_
  refine clJ (q := (r, τ')) Cm hm (invV (As := []) Cm (lhw hm) (c_M_who gm 0 tM_0  τ (r, τ') e2 l) rfl wc_L_100 nd_M_who ⟨by decide, by decide⟩ (rc_M Cm (lhw hm) tM_0) rfl hl.1 rfl (Nat.le_of_ble_eq_true rfl) d_L_law_767 ⟨by decide, by decide⟩) (fun H locs hm => ?_)
  refine lv_icmp_eq (tgt := 1283) hx hb d_L_law_770 (by decide) (fun _ => ?_) (fun c9 => absurd rfl c9)
  have hz := HV.other (g' := gx) hg.symm hm
  exact K σ' τ' H locs (hR'.le (by omega)) hz
set_option maxHeartbeats 1000000 in
set_option maxRecDepth 20000 in
theorem lc_21 {gx gm : GX} {b L : Nat} {xs : Nat → Int32} {p : Program} {l : Launch} {e : Env} {s : State} {m : MethodId} {below : List Frame} {meth : Method} {c : Code} {H : Heap} {locs : List Loc} {Q : State → Prop} {ls : Array Slot} {σ τ : St} {i N : Nat} (X : LAt gx gm L b xs p s m meth c) (hi : i + 6 ≤ L) (hN : N ≤ 100000) (hR : Rl N σ τ) (hw : LSt gx gm s σ τ H locs) (hl : lv_has ls 4 [(0, .ref b), (1, .ref (gx.2.1 0)), (2, .ref (gm.2.1 0)), (3, .int (nI i))])
    (K : ∀ (σ' τ' : St) (H1 : Heap) (locs1 : List Loc), Rl (N + 14) σ' τ' → LSt gx gm s σ' τ' H1 locs1 → W p l e room_1 s m #[Value.ref b] below meth c H1 locs1 145 3915 Q (F0 m 1283 ls [])) : W p l e room_1 s m #[Value.ref b] below meth c H locs 145 3915 Q (F0 m 775 ls []) := by
  obtain ⟨Cx, Cm, hg, hX, hbl, hL⟩ := X
  have hbA : ¬ (fun q : Nat => s.heap.size ≤ q) b := Nat.not_le.mpr hbl
  have hx := Cx.1
  have hb := Cx.2.1
  have hown := Cx.2.2.2.2.1
  have hts := Cx.2.2.2.2.2.1
  obtain ⟨t, d, CL, CLs, s9, hRR⟩ := hR
  obtain ⟨r, σ', τ', e1, e2, hR'⟩ := op_odds hN hRR (xs (nI i + 1).toNatClampNeg) (xs (nI i + 2).toNatClampNeg) (xs (nI i + 3).toNatClampNeg)
  refine lv_aload_n hx hb d_L_law_775 rfl (lv_at hl 1 rfl) ?_
  refine lv_aload_n hx hb d_L_law_776 rfl (lv_at hl 0 rfl) ?_
  refine lv_iload_n hx hb d_L_law_777 rfl (lv_at hl 3 rfl) ?_
  refine lv_iconst (v := 1) hx hb d_L_law_778 (by decide) ?_
  refine lv_iadd hx hb d_L_law_779 ?_
  refine va_sld hx hb hX hbl hbA hw.2.2 (vin (k := 1) (by omega) hL (by decide)) d_L_law_780 ?_
  refine lv_aload_n hx hb d_L_law_781 rfl (lv_at hl 0 rfl) ?_
  refine lv_iload_n hx hb d_L_law_782 rfl (lv_at hl 3 rfl) ?_
  refine lv_iconst (v := 2) hx hb d_L_law_783 (by decide) ?_
  refine lv_iadd hx hb d_L_law_784 ?_
  refine va_sld hx hb hX hbl hbA hw.2.2 (vin (k := 2) (by omega) hL (by decide)) d_L_law_785 ?_
  refine lv_aload_n hx hb d_L_law_786 rfl (lv_at hl 0 rfl) ?_
  refine lv_iload_n hx hb d_L_law_787 rfl (lv_at hl 3 rfl) ?_
  refine lv_iconst (v := 3) hx hb d_L_law_788 (by decide) ?_
  refine lv_iadd hx hb d_L_law_789 ?_
  refine va_sld hx hb hX hbl hbA hw.2.2 (vin (k := 3) (by omega) hL (by decide)) d_L_law_790 ?_
  refine clJL (q := (r, σ')) Cx hw (invV (As := [.int (xs (nI i + 1).toNatClampNeg), .int (xs (nI i + 2).toNatClampNeg), .int (xs (nI i + 3).toNatClampNeg)]) Cx (lhw hw) (c_X_odds gx 0 tX_0 (xs (nI i + 1).toNatClampNeg) (xs (nI i + 2).toNatClampNeg) (xs (nI i + 3).toNatClampNeg) σ (r, σ') e1 l) rfl wc_L_101 nd_X_odds ⟨by decide, by decide⟩ (rc_X Cx (lhw hw) tX_0) rfl hl.1 rfl (Nat.le_of_ble_eq_true rfl) d_L_law_791 ⟨by decide, by decide⟩) (fun H locs hw => ?_)
  replace hw := HV.other (g' := gm) hg hw
  have hm := hw
  refine lv_aload_n hx hb d_L_law_794 rfl (lv_at hl 2 rfl) ?_
  refine lv_aload_n hx hb d_L_law_795 rfl (lv_at hl 0 rfl) ?_
  refine lv_iload_n hx hb d_L_law_796 rfl (lv_at hl 3 rfl) ?_
  refine lv_iconst (v := 1) hx hb d_L_law_797 (by decide) ?_
  refine lv_iadd hx hb d_L_law_798 ?_
  refine va_sld hx hb hX hbl hbA hm.2.2 (vin (k := 1) (by omega) hL (by decide)) d_L_law_799 ?_
  refine lv_aload_n hx hb d_L_law_800 rfl (lv_at hl 0 rfl) ?_
  refine lv_iload_n hx hb d_L_law_801 rfl (lv_at hl 3 rfl) ?_
  refine lv_iconst (v := 2) hx hb d_L_law_802 (by decide) ?_
  refine lv_iadd hx hb d_L_law_803 ?_
  refine va_sld hx hb hX hbl hbA hm.2.2 (vin (k := 2) (by omega) hL (by decide)) d_L_law_804 ?_
  refine lv_aload_n hx hb d_L_law_805 rfl (lv_at hl 0 rfl) ?_
  refine lv_iload_n hx hb d_L_law_806 rfl (lv_at hl 3 rfl) ?_
  refine lv_iconst (v := 3) hx hb d_L_law_807 (by decide) ?_
  refine lv_iadd hx hb d_L_law_808 ?_
  refine va_sld hx hb hX hbl hbA hm.2.2 (vin (k := 3) (by omega) hL (by decide)) d_L_law_809 ?_
  refine clJL (q := (r, τ')) Cm hm (invV (As := [.int (xs (nI i + 1).toNatClampNeg), .int (xs (nI i + 2).toNatClampNeg), .int (xs (nI i + 3).toNatClampNeg)]) Cm (lhw hm) (c_M_odds gm 0 tM_0 (xs (nI i + 1).toNatClampNeg) (xs (nI i + 2).toNatClampNeg) (xs (nI i + 3).toNatClampNeg) τ (r, τ') e2 l) rfl wc_L_105 nd_M_odds ⟨by decide, by decide⟩ (rc_M Cm (lhw hm) tM_0) rfl hl.1 rfl (Nat.le_of_ble_eq_true rfl) d_L_law_810 ⟨by decide, by decide⟩) (fun H locs hm => ?_)
  refine W.lcmp hx hb d_L_law_813 ?_
  rw [cmp_s]
  refine lv_if_eq (tgt := 1283) hx hb d_L_law_814 (by decide) (fun _ => ?_) (fun c9 => absurd rfl c9)
  have hz := HV.other (g' := gx) hg.symm hm
  exact K σ' τ' H locs (hR'.le (by omega)) hz
set_option maxHeartbeats 1000000 in
set_option maxRecDepth 20000 in
theorem lc_22 {gx gm : GX} {b L : Nat} {xs : Nat → Int32} {p : Program} {l : Launch} {e : Env} {s : State} {m : MethodId} {below : List Frame} {meth : Method} {c : Code} {H : Heap} {locs : List Loc} {Q : State → Prop} {ls : Array Slot} {σ τ : St} {i N : Nat} (X : LAt gx gm L b xs p s m meth c) (hi : i + 6 ≤ L) (hN : N ≤ 100000) (hR : Rl N σ τ) (hw : LSt gx gm s σ τ H locs) (hl : lv_has ls 4 [(0, .ref b), (1, .ref (gx.2.1 0)), (2, .ref (gm.2.1 0)), (3, .int (nI i))])
    (K : ∀ (σ' τ' : St) (H1 : Heap) (locs1 : List Loc), Rl (N + 14) σ' τ' → LSt gx gm s σ' τ' H1 locs1 → W p l e room_1 s m #[Value.ref b] below meth c H1 locs1 145 3915 Q (F0 m 1283 ls [])) : W p l e room_1 s m #[Value.ref b] below meth c H locs 145 3915 Q (F0 m 819 ls []) := by
  obtain ⟨Cx, Cm, hg, hX, hbl, hL⟩ := X
  have hbA : ¬ (fun q : Nat => s.heap.size ≤ q) b := Nat.not_le.mpr hbl
  have hx := Cx.1
  have hb := Cx.2.1
  have hown := Cx.2.2.2.2.1
  have hts := Cx.2.2.2.2.2.1
  obtain ⟨t, d, CL, CLs, s9, hRR⟩ := hR
  obtain ⟨r, σ', τ', e1, e2, hR'⟩ := op_mean hRR (xs (nI i + 1).toNatClampNeg) (xs (nI i + 2).toNatClampNeg)
  refine lv_aload_n hx hb d_L_law_819 rfl (lv_at hl 1 rfl) ?_
  refine lv_aload_n hx hb d_L_law_820 rfl (lv_at hl 0 rfl) ?_
  refine lv_iload_n hx hb d_L_law_821 rfl (lv_at hl 3 rfl) ?_
  refine lv_iconst (v := 1) hx hb d_L_law_822 (by decide) ?_
  refine lv_iadd hx hb d_L_law_823 ?_
  refine va_sld hx hb hX hbl hbA hw.2.2 (vin (k := 1) (by omega) hL (by decide)) d_L_law_824 ?_
  refine lv_aload_n hx hb d_L_law_825 rfl (lv_at hl 0 rfl) ?_
  refine lv_iload_n hx hb d_L_law_826 rfl (lv_at hl 3 rfl) ?_
  refine lv_iconst (v := 2) hx hb d_L_law_827 (by decide) ?_
  refine lv_iadd hx hb d_L_law_828 ?_
  refine va_sld hx hb hX hbl hbA hw.2.2 (vin (k := 2) (by omega) hL (by decide)) d_L_law_829 ?_
  refine clJL (q := (r, σ')) Cx hw (invV (As := [.int (xs (nI i + 1).toNatClampNeg), .int (xs (nI i + 2).toNatClampNeg)]) Cx (lhw hw) (c_X_mean gx 0 tX_0 (xs (nI i + 1).toNatClampNeg) (xs (nI i + 2).toNatClampNeg) σ (r, σ') e1 l) rfl wc_L_106 nd_X_mean ⟨by decide, by decide⟩ (rc_X Cx (lhw hw) tX_0) rfl hl.1 rfl (Nat.le_of_ble_eq_true rfl) d_L_law_830 ⟨by decide, by decide⟩) (fun H locs hw => ?_)
  replace hw := HV.other (g' := gm) hg hw
  have hm := hw
  refine lv_aload_n hx hb d_L_law_833 rfl (lv_at hl 2 rfl) ?_
  refine lv_aload_n hx hb d_L_law_834 rfl (lv_at hl 0 rfl) ?_
  refine lv_iload_n hx hb d_L_law_835 rfl (lv_at hl 3 rfl) ?_
  refine lv_iconst (v := 1) hx hb d_L_law_836 (by decide) ?_
  refine lv_iadd hx hb d_L_law_837 ?_
  refine va_sld hx hb hX hbl hbA hm.2.2 (vin (k := 1) (by omega) hL (by decide)) d_L_law_838 ?_
  refine lv_aload_n hx hb d_L_law_839 rfl (lv_at hl 0 rfl) ?_
  refine lv_iload_n hx hb d_L_law_840 rfl (lv_at hl 3 rfl) ?_
  refine lv_iconst (v := 2) hx hb d_L_law_841 (by decide) ?_
  refine lv_iadd hx hb d_L_law_842 ?_
  refine va_sld hx hb hX hbl hbA hm.2.2 (vin (k := 2) (by omega) hL (by decide)) d_L_law_843 ?_
  refine clJL (q := (r, τ')) Cm hm (invV (As := [.int (xs (nI i + 1).toNatClampNeg), .int (xs (nI i + 2).toNatClampNeg)]) Cm (lhw hm) (c_M_mean gm 0 tM_0 (xs (nI i + 1).toNatClampNeg) (xs (nI i + 2).toNatClampNeg) τ (r, τ') e2 l) rfl wc_L_110 nd_M_mean ⟨by decide, by decide⟩ (rc_M Cm (lhw hm) tM_0) rfl hl.1 rfl (Nat.le_of_ble_eq_true rfl) d_L_law_844 ⟨by decide, by decide⟩) (fun H locs hm => ?_)
  refine W.lcmp hx hb d_L_law_847 ?_
  rw [cmp_s]
  refine lv_if_eq (tgt := 1283) hx hb d_L_law_848 (by decide) (fun _ => ?_) (fun c9 => absurd rfl c9)
  have hz := HV.other (g' := gx) hg.symm hm
  exact K σ' τ' H locs (hR'.le (by omega)) hz
set_option maxHeartbeats 1000000 in
set_option maxRecDepth 20000 in
theorem lc_23 {gx gm : GX} {b L : Nat} {xs : Nat → Int32} {p : Program} {l : Launch} {e : Env} {s : State} {m : MethodId} {below : List Frame} {meth : Method} {c : Code} {H : Heap} {locs : List Loc} {Q : State → Prop} {ls : Array Slot} {σ τ : St} {i N : Nat} (X : LAt gx gm L b xs p s m meth c) (hi : i + 6 ≤ L) (hN : N ≤ 100000) (hR : Rl N σ τ) (hw : LSt gx gm s σ τ H locs) (hl : lv_has ls 4 [(0, .ref b), (1, .ref (gx.2.1 0)), (2, .ref (gm.2.1 0)), (3, .int (nI i))])
    (K : ∀ (σ' τ' : St) (H1 : Heap) (locs1 : List Loc), Rl (N + 14) σ' τ' → LSt gx gm s σ' τ' H1 locs1 → W p l e room_1 s m #[Value.ref b] below meth c H1 locs1 145 3915 Q (F0 m 1283 ls [])) : W p l e room_1 s m #[Value.ref b] below meth c H locs 145 3915 Q (F0 m 853 ls []) := by
  obtain ⟨Cx, Cm, hg, hX, hbl, hL⟩ := X
  have hbA : ¬ (fun q : Nat => s.heap.size ≤ q) b := Nat.not_le.mpr hbl
  have hx := Cx.1
  have hb := Cx.2.1
  have hown := Cx.2.2.2.2.1
  have hts := Cx.2.2.2.2.2.1
  obtain ⟨t, d, CL, CLs, s9, hRR⟩ := hR
  obtain ⟨r, σ', τ', e1, e2, hR'⟩ := op_book hRR (xs (nI i + 1).toNatClampNeg)
  refine lv_aload_n hx hb d_L_law_853 rfl (lv_at hl 1 rfl) ?_
  refine lv_aload_n hx hb d_L_law_854 rfl (lv_at hl 0 rfl) ?_
  refine lv_iload_n hx hb d_L_law_855 rfl (lv_at hl 3 rfl) ?_
  refine lv_iconst (v := 1) hx hb d_L_law_856 (by decide) ?_
  refine lv_iadd hx hb d_L_law_857 ?_
  refine va_sld hx hb hX hbl hbA hw.2.2 (vin (k := 1) (by omega) hL (by decide)) d_L_law_858 ?_
  refine clJ (q := (r, σ')) Cx hw (invV (As := [.int (xs (nI i + 1).toNatClampNeg)]) Cx (lhw hw) (c_X_book gx 0 tX_0 (xs (nI i + 1).toNatClampNeg) σ (r, σ') e1 l) rfl wc_L_111 nd_X_book ⟨by decide, by decide⟩ (rc_X Cx (lhw hw) tX_0) rfl hl.1 rfl (Nat.le_of_ble_eq_true rfl) d_L_law_859 ⟨by decide, by decide⟩) (fun H locs hw => ?_)
  replace hw := HV.other (g' := gm) hg hw
  have hm := hw
  refine lv_aload_n hx hb d_L_law_862 rfl (lv_at hl 2 rfl) ?_
  refine lv_aload_n hx hb d_L_law_863 rfl (lv_at hl 0 rfl) ?_
  refine lv_iload_n hx hb d_L_law_864 rfl (lv_at hl 3 rfl) ?_
  refine lv_iconst (v := 1) hx hb d_L_law_865 (by decide) ?_
  refine lv_iadd hx hb d_L_law_866 ?_
  refine va_sld hx hb hX hbl hbA hm.2.2 (vin (k := 1) (by omega) hL (by decide)) d_L_law_867 ?_
  refine clJ (q := (r, τ')) Cm hm (invV (As := [.int (xs (nI i + 1).toNatClampNeg)]) Cm (lhw hm) (c_M_book gm 0 tM_0 (xs (nI i + 1).toNatClampNeg) τ (r, τ') e2 l) rfl wc_L_114 nd_M_book ⟨by decide, by decide⟩ (rc_M Cm (lhw hm) tM_0) rfl hl.1 rfl (Nat.le_of_ble_eq_true rfl) d_L_law_868 ⟨by decide, by decide⟩) (fun H locs hm => ?_)
  refine lv_icmp_eq (tgt := 1283) hx hb d_L_law_871 (by decide) (fun _ => ?_) (fun c9 => absurd rfl c9)
  have hz := HV.other (g' := gx) hg.symm hm
  exact K σ' τ' H locs (hR'.le (by omega)) hz
