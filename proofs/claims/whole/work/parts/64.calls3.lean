/-! ===== THE LAW: each call of a script ===== -/
set_option maxHeartbeats 1000000 in
set_option maxRecDepth 20000 in
theorem lc_24 {gx gm : GX} {b L : Nat} {xs : Nat → Int32} {p : Program} {l : Launch} {e : Env} {s : State} {m : MethodId} {below : List Frame} {meth : Method} {c : Code} {H : Heap} {locs : List Loc} {Q : State → Prop} {ls : Array Slot} {σ τ : St} {i N : Nat} (X : LAt gx gm L b xs p s m meth c) (hi : i + 6 ≤ L) (hN : N ≤ 100000) (hR : Rl N σ τ) (hw : LSt gx gm s σ τ H locs) (hl : lv_has ls 4 [(0, .ref b), (1, .ref (gx.2.1 0)), (2, .ref (gm.2.1 0)), (3, .int (nI i))])
    (K : ∀ (σ' τ' : St) (H1 : Heap) (locs1 : List Loc), Rl (N + 14) σ' τ' → LSt gx gm s σ' τ' H1 locs1 → W p l e room_1 s m #[Value.ref b] below meth c H1 locs1 145 3915 Q (F0 m 1283 ls [])) : W p l e room_1 s m #[Value.ref b] below meth c H locs 145 3915 Q (F0 m 876 ls []) := by
  obtain ⟨Cx, Cm, hg, hX, hbl, hL⟩ := X
  have hbA : ¬ (fun q : Nat => s.heap.size ≤ q) b := Nat.not_le.mpr hbl
  have hx := Cx.1
  have hb := Cx.2.1
  have hown := Cx.2.2.2.2.1
  have hts := Cx.2.2.2.2.2.1
  obtain ⟨t, d, CL, CLs, s9, hRR⟩ := hR
  obtain ⟨r, σ', τ', e1, e2, hR'⟩ := op_looked hRR 
  refine lv_aload_n hx hb d_L_law_876 rfl (lv_at hl 1 rfl) ?_
  refine clJ (q := (r, σ')) Cx hw (invV (As := []) Cx (lhw hw) (c_X_looked gx 0 tX_0  σ (r, σ') e1 l) rfl wc_L_115 nd_X_looked ⟨by decide, by decide⟩ (rc_X Cx (lhw hw) tX_0) rfl hl.1 rfl (Nat.le_of_ble_eq_true rfl) d_L_law_877 ⟨by decide, by decide⟩) (fun H locs hw => ?_)
  replace hw := HV.other (g' := gm) hg hw
  have hm := hw
  refine lv_aload_n hx hb d_L_law_880 rfl (lv_at hl 2 rfl) ?_
  refine clJ (q := (r, τ')) Cm hm (invV (As := []) Cm (lhw hm) (c_M_looked gm 0 tM_0  τ (r, τ') e2 l) rfl wc_L_118 nd_M_looked ⟨by decide, by decide⟩ (rc_M Cm (lhw hm) tM_0) rfl hl.1 rfl (Nat.le_of_ble_eq_true rfl) d_L_law_881 ⟨by decide, by decide⟩) (fun H locs hm => ?_)
  refine lv_icmp_eq (tgt := 1283) hx hb d_L_law_884 (by decide) (fun _ => ?_) (fun c9 => absurd rfl c9)
  have hz := HV.other (g' := gx) hg.symm hm
  exact K σ' τ' H locs (hR'.le (by omega)) hz
set_option maxHeartbeats 1000000 in
set_option maxRecDepth 20000 in
theorem lc_25 {gx gm : GX} {b L : Nat} {xs : Nat → Int32} {p : Program} {l : Launch} {e : Env} {s : State} {m : MethodId} {below : List Frame} {meth : Method} {c : Code} {H : Heap} {locs : List Loc} {Q : State → Prop} {ls : Array Slot} {σ τ : St} {i N : Nat} (X : LAt gx gm L b xs p s m meth c) (hi : i + 6 ≤ L) (hN : N ≤ 100000) (hR : Rl N σ τ) (hw : LSt gx gm s σ τ H locs) (hl : lv_has ls 4 [(0, .ref b), (1, .ref (gx.2.1 0)), (2, .ref (gm.2.1 0)), (3, .int (nI i))])
    (K : ∀ (σ' τ' : St) (H1 : Heap) (locs1 : List Loc), Rl (N + 14) σ' τ' → LSt gx gm s σ' τ' H1 locs1 → W p l e room_1 s m #[Value.ref b] below meth c H1 locs1 145 3915 Q (F0 m 1283 ls [])) : W p l e room_1 s m #[Value.ref b] below meth c H locs 145 3915 Q (F0 m 889 ls []) := by
  obtain ⟨Cx, Cm, hg, hX, hbl, hL⟩ := X
  have hbA : ¬ (fun q : Nat => s.heap.size ≤ q) b := Nat.not_le.mpr hbl
  have hx := Cx.1
  have hb := Cx.2.1
  have hown := Cx.2.2.2.2.1
  have hts := Cx.2.2.2.2.2.1
  obtain ⟨t, d, CL, CLs, s9, hRR⟩ := hR
  obtain ⟨r, e1, e2⟩ := op_judge hRR (xs (nI i + 1).toNatClampNeg) (xs (nI i + 2).toNatClampNeg)
  refine lv_aload_n hx hb d_L_law_889 rfl (lv_at hl 1 rfl) ?_
  refine lv_aload_n hx hb d_L_law_890 rfl (lv_at hl 0 rfl) ?_
  refine lv_iload_n hx hb d_L_law_891 rfl (lv_at hl 3 rfl) ?_
  refine lv_iconst (v := 1) hx hb d_L_law_892 (by decide) ?_
  refine lv_iadd hx hb d_L_law_893 ?_
  refine va_sld hx hb hX hbl hbA hw.2.2 (vin (k := 1) (by omega) hL (by decide)) d_L_law_894 ?_
  refine lv_aload_n hx hb d_L_law_895 rfl (lv_at hl 0 rfl) ?_
  refine lv_iload_n hx hb d_L_law_896 rfl (lv_at hl 3 rfl) ?_
  refine lv_iconst (v := 2) hx hb d_L_law_897 (by decide) ?_
  refine lv_iadd hx hb d_L_law_898 ?_
  refine va_sld hx hb hX hbl hbA hw.2.2 (vin (k := 2) (by omega) hL (by decide)) d_L_law_899 ?_
  refine clJ (q := (r, σ)) Cx hw (invV (As := [.int (xs (nI i + 1).toNatClampNeg), .int (xs (nI i + 2).toNatClampNeg)]) Cx (lhw hw) (c_X_judge gx 0 tX_0 (xs (nI i + 1).toNatClampNeg) (xs (nI i + 2).toNatClampNeg) σ r e1 l) rfl wc_L_119 nd_X_judge ⟨by decide, by decide⟩ (rc_X Cx (lhw hw) tX_0) rfl hl.1 rfl (Nat.le_of_ble_eq_true rfl) d_L_law_900 ⟨by decide, by decide⟩) (fun H locs hw => ?_)
  replace hw := HV.other (g' := gm) hg hw
  have hm := hw
  refine lv_aload_n hx hb d_L_law_903 rfl (lv_at hl 2 rfl) ?_
  refine lv_aload_n hx hb d_L_law_904 rfl (lv_at hl 0 rfl) ?_
  refine lv_iload_n hx hb d_L_law_905 rfl (lv_at hl 3 rfl) ?_
  refine lv_iconst (v := 1) hx hb d_L_law_906 (by decide) ?_
  refine lv_iadd hx hb d_L_law_907 ?_
  refine va_sld hx hb hX hbl hbA hm.2.2 (vin (k := 1) (by omega) hL (by decide)) d_L_law_908 ?_
  refine lv_aload_n hx hb d_L_law_909 rfl (lv_at hl 0 rfl) ?_
  refine lv_iload_n hx hb d_L_law_910 rfl (lv_at hl 3 rfl) ?_
  refine lv_iconst (v := 2) hx hb d_L_law_911 (by decide) ?_
  refine lv_iadd hx hb d_L_law_912 ?_
  refine va_sld hx hb hX hbl hbA hm.2.2 (vin (k := 2) (by omega) hL (by decide)) d_L_law_913 ?_
  refine clJ (q := (r, τ)) Cm hm (invV (As := [.int (xs (nI i + 1).toNatClampNeg), .int (xs (nI i + 2).toNatClampNeg)]) Cm (lhw hm) (c_M_judge gm 0 tM_0 (xs (nI i + 1).toNatClampNeg) (xs (nI i + 2).toNatClampNeg) τ r e2 l) rfl wc_L_122 nd_M_judge ⟨by decide, by decide⟩ (rc_M Cm (lhw hm) tM_0) rfl hl.1 rfl (Nat.le_of_ble_eq_true rfl) d_L_law_914 ⟨by decide, by decide⟩) (fun H locs hm => ?_)
  refine lv_icmp_eq (tgt := 1283) hx hb d_L_law_917 (by decide) (fun _ => ?_) (fun c9 => absurd rfl c9)
  have hz := HV.other (g' := gx) hg.symm hm
  exact K σ τ H locs ⟨t, d, CL, CLs, s9, hRR.le (by omega)⟩ hz
set_option maxHeartbeats 1000000 in
set_option maxRecDepth 20000 in
theorem lc_26 {gx gm : GX} {b L : Nat} {xs : Nat → Int32} {p : Program} {l : Launch} {e : Env} {s : State} {m : MethodId} {below : List Frame} {meth : Method} {c : Code} {H : Heap} {locs : List Loc} {Q : State → Prop} {ls : Array Slot} {σ τ : St} {i N : Nat} (X : LAt gx gm L b xs p s m meth c) (hi : i + 6 ≤ L) (hN : N ≤ 100000) (hR : Rl N σ τ) (hw : LSt gx gm s σ τ H locs) (hl : lv_has ls 4 [(0, .ref b), (1, .ref (gx.2.1 0)), (2, .ref (gm.2.1 0)), (3, .int (nI i))])
    (K : ∀ (σ' τ' : St) (H1 : Heap) (locs1 : List Loc), Rl (N + 14) σ' τ' → LSt gx gm s σ' τ' H1 locs1 → W p l e room_1 s m #[Value.ref b] below meth c H1 locs1 145 3915 Q (F0 m 1283 ls [])) : W p l e room_1 s m #[Value.ref b] below meth c H locs 145 3915 Q (F0 m 922 ls []) := by
  obtain ⟨Cx, Cm, hg, hX, hbl, hL⟩ := X
  have hbA : ¬ (fun q : Nat => s.heap.size ≤ q) b := Nat.not_le.mpr hbl
  have hx := Cx.1
  have hb := Cx.2.1
  have hown := Cx.2.2.2.2.1
  have hts := Cx.2.2.2.2.2.1
  obtain ⟨t, d, CL, CLs, s9, hRR⟩ := hR
  obtain ⟨r, σ', τ', e1, e2, hR'⟩ := op_image hRR 
  refine lv_aload_n hx hb d_L_law_922 rfl (lv_at hl 1 rfl) ?_
  refine clJ (q := (r, σ')) Cx hw (invV (As := []) Cx (lhw hw) (c_X_image gx 0 tX_0  σ (r, σ') e1 l) rfl wc_L_123 nd_X_image ⟨by decide, by decide⟩ (rc_X Cx (lhw hw) tX_0) rfl hl.1 rfl (Nat.le_of_ble_eq_true rfl) d_L_law_923 ⟨by decide, by decide⟩) (fun H locs hw => ?_)
  replace hw := HV.other (g' := gm) hg hw
  have hm := hw
  refine lv_aload_n hx hb d_L_law_926 rfl (lv_at hl 2 rfl) ?_
  refine clJ (q := (r, τ')) Cm hm (invV (As := []) Cm (lhw hm) (c_M_image gm 0 tM_0  τ (r, τ') e2 l) rfl wc_L_126 nd_M_image ⟨by decide, by decide⟩ (rc_M Cm (lhw hm) tM_0) rfl hl.1 rfl (Nat.le_of_ble_eq_true rfl) d_L_law_927 ⟨by decide, by decide⟩) (fun H locs hm => ?_)
  refine lv_icmp_eq (tgt := 1283) hx hb d_L_law_930 (by decide) (fun _ => ?_) (fun c9 => absurd rfl c9)
  have hz := HV.other (g' := gx) hg.symm hm
  exact K σ' τ' H locs (hR'.le (by omega)) hz
set_option maxHeartbeats 1000000 in
set_option maxRecDepth 20000 in
theorem lc_27 {gx gm : GX} {b L : Nat} {xs : Nat → Int32} {p : Program} {l : Launch} {e : Env} {s : State} {m : MethodId} {below : List Frame} {meth : Method} {c : Code} {H : Heap} {locs : List Loc} {Q : State → Prop} {ls : Array Slot} {σ τ : St} {i N : Nat} (X : LAt gx gm L b xs p s m meth c) (hi : i + 6 ≤ L) (hN : N ≤ 100000) (hR : Rl N σ τ) (hw : LSt gx gm s σ τ H locs) (hl : lv_has ls 4 [(0, .ref b), (1, .ref (gx.2.1 0)), (2, .ref (gm.2.1 0)), (3, .int (nI i))])
    (K : ∀ (σ' τ' : St) (H1 : Heap) (locs1 : List Loc), Rl (N + 14) σ' τ' → LSt gx gm s σ' τ' H1 locs1 → W p l e room_1 s m #[Value.ref b] below meth c H1 locs1 145 3915 Q (F0 m 1283 ls [])) : W p l e room_1 s m #[Value.ref b] below meth c H locs 145 3915 Q (F0 m 935 ls []) := by
  obtain ⟨Cx, Cm, hg, hX, hbl, hL⟩ := X
  have hbA : ¬ (fun q : Nat => s.heap.size ≤ q) b := Nat.not_le.mpr hbl
  have hx := Cx.1
  have hb := Cx.2.1
  have hown := Cx.2.2.2.2.1
  have hts := Cx.2.2.2.2.2.1
  obtain ⟨t, d, CL, CLs, s9, hRR⟩ := hR
  obtain ⟨r, σ', τ', e1, e2, hR'⟩ := op_undo hRR 
  refine lv_aload_n hx hb d_L_law_935 rfl (lv_at hl 1 rfl) ?_
  refine clJ (q := (r, σ')) Cx hw (invV (As := []) Cx (lhw hw) (c_X_undo gx 0 tX_0  σ (r, σ') e1 l) rfl wc_L_127 nd_X_undo ⟨by decide, by decide⟩ (rc_X Cx (lhw hw) tX_0) rfl hl.1 rfl (Nat.le_of_ble_eq_true rfl) d_L_law_936 ⟨by decide, by decide⟩) (fun H locs hw => ?_)
  replace hw := HV.other (g' := gm) hg hw
  have hm := hw
  refine lv_aload_n hx hb d_L_law_939 rfl (lv_at hl 2 rfl) ?_
  refine clJ (q := (r, τ')) Cm hm (invV (As := []) Cm (lhw hm) (c_M_undo gm 0 tM_0  τ (r, τ') e2 l) rfl wc_L_130 nd_M_undo ⟨by decide, by decide⟩ (rc_M Cm (lhw hm) tM_0) rfl hl.1 rfl (Nat.le_of_ble_eq_true rfl) d_L_law_940 ⟨by decide, by decide⟩) (fun H locs hm => ?_)
  refine lv_icmp_eq (tgt := 1283) hx hb d_L_law_943 (by decide) (fun _ => ?_) (fun c9 => absurd rfl c9)
  have hz := HV.other (g' := gx) hg.symm hm
  exact K σ' τ' H locs (hR'.le (by omega)) hz
set_option maxHeartbeats 1000000 in
set_option maxRecDepth 20000 in
theorem lc_28 {gx gm : GX} {b L : Nat} {xs : Nat → Int32} {p : Program} {l : Launch} {e : Env} {s : State} {m : MethodId} {below : List Frame} {meth : Method} {c : Code} {H : Heap} {locs : List Loc} {Q : State → Prop} {ls : Array Slot} {σ τ : St} {i N : Nat} (X : LAt gx gm L b xs p s m meth c) (hi : i + 6 ≤ L) (hN : N ≤ 100000) (hR : Rl N σ τ) (hw : LSt gx gm s σ τ H locs) (hl : lv_has ls 4 [(0, .ref b), (1, .ref (gx.2.1 0)), (2, .ref (gm.2.1 0)), (3, .int (nI i))])
    (K : ∀ (σ' τ' : St) (H1 : Heap) (locs1 : List Loc), Rl (N + 14) σ' τ' → LSt gx gm s σ' τ' H1 locs1 → W p l e room_1 s m #[Value.ref b] below meth c H1 locs1 145 3915 Q (F0 m 1283 ls [])) : W p l e room_1 s m #[Value.ref b] below meth c H locs 145 3915 Q (F0 m 948 ls []) := by
  obtain ⟨Cx, Cm, hg, hX, hbl, hL⟩ := X
  have hbA : ¬ (fun q : Nat => s.heap.size ≤ q) b := Nat.not_le.mpr hbl
  have hx := Cx.1
  have hb := Cx.2.1
  have hown := Cx.2.2.2.2.1
  have hts := Cx.2.2.2.2.2.1
  obtain ⟨t, d, CL, CLs, s9, hRR⟩ := hR
  obtain ⟨r, σ', τ', e1, e2, hR'⟩ := op_act hRR (xs (nI i + 1).toNatClampNeg) (xs (nI i + 2).toNatClampNeg) (xs (nI i + 3).toNatClampNeg)
  refine lv_aload_n hx hb d_L_law_948 rfl (lv_at hl 1 rfl) ?_
  refine lv_aload_n hx hb d_L_law_949 rfl (lv_at hl 0 rfl) ?_
  refine lv_iload_n hx hb d_L_law_950 rfl (lv_at hl 3 rfl) ?_
  refine lv_iconst (v := 1) hx hb d_L_law_951 (by decide) ?_
  refine lv_iadd hx hb d_L_law_952 ?_
  refine va_sld hx hb hX hbl hbA hw.2.2 (vin (k := 1) (by omega) hL (by decide)) d_L_law_953 ?_
  refine lv_aload_n hx hb d_L_law_954 rfl (lv_at hl 0 rfl) ?_
  refine lv_iload_n hx hb d_L_law_955 rfl (lv_at hl 3 rfl) ?_
  refine lv_iconst (v := 2) hx hb d_L_law_956 (by decide) ?_
  refine lv_iadd hx hb d_L_law_957 ?_
  refine va_sld hx hb hX hbl hbA hw.2.2 (vin (k := 2) (by omega) hL (by decide)) d_L_law_958 ?_
  refine lv_aload_n hx hb d_L_law_959 rfl (lv_at hl 0 rfl) ?_
  refine lv_iload_n hx hb d_L_law_960 rfl (lv_at hl 3 rfl) ?_
  refine lv_iconst (v := 3) hx hb d_L_law_961 (by decide) ?_
  refine lv_iadd hx hb d_L_law_962 ?_
  refine va_sld hx hb hX hbl hbA hw.2.2 (vin (k := 3) (by omega) hL (by decide)) d_L_law_963 ?_
  refine clJ (q := (r, σ')) Cx hw (invV (As := [.int (xs (nI i + 1).toNatClampNeg), .int (xs (nI i + 2).toNatClampNeg), .int (xs (nI i + 3).toNatClampNeg)]) Cx (lhw hw) (c_X_act gx 0 tX_0 (xs (nI i + 1).toNatClampNeg) (xs (nI i + 2).toNatClampNeg) (xs (nI i + 3).toNatClampNeg) σ (r, σ') e1 l) rfl wc_L_131 nd_X_act ⟨by decide, by decide⟩ (rc_X Cx (lhw hw) tX_0) rfl hl.1 rfl (Nat.le_of_ble_eq_true rfl) d_L_law_964 ⟨by decide, by decide⟩) (fun H locs hw => ?_)
  replace hw := HV.other (g' := gm) hg hw
  have hm := hw
  refine lv_aload_n hx hb d_L_law_967 rfl (lv_at hl 2 rfl) ?_
  refine lv_aload_n hx hb d_L_law_968 rfl (lv_at hl 0 rfl) ?_
  refine lv_iload_n hx hb d_L_law_969 rfl (lv_at hl 3 rfl) ?_
  refine lv_iconst (v := 1) hx hb d_L_law_970 (by decide) ?_
  refine lv_iadd hx hb d_L_law_971 ?_
  refine va_sld hx hb hX hbl hbA hm.2.2 (vin (k := 1) (by omega) hL (by decide)) d_L_law_972 ?_
  refine lv_aload_n hx hb d_L_law_973 rfl (lv_at hl 0 rfl) ?_
  refine lv_iload_n hx hb d_L_law_974 rfl (lv_at hl 3 rfl) ?_
  refine lv_iconst (v := 2) hx hb d_L_law_975 (by decide) ?_
  refine lv_iadd hx hb d_L_law_976 ?_
  refine va_sld hx hb hX hbl hbA hm.2.2 (vin (k := 2) (by omega) hL (by decide)) d_L_law_977 ?_
  refine lv_aload_n hx hb d_L_law_978 rfl (lv_at hl 0 rfl) ?_
  refine lv_iload_n hx hb d_L_law_979 rfl (lv_at hl 3 rfl) ?_
  refine lv_iconst (v := 3) hx hb d_L_law_980 (by decide) ?_
  refine lv_iadd hx hb d_L_law_981 ?_
  refine va_sld hx hb hX hbl hbA hm.2.2 (vin (k := 3) (by omega) hL (by decide)) d_L_law_982 ?_
  refine clJ (q := (r, τ')) Cm hm (invV (As := [.int (xs (nI i + 1).toNatClampNeg), .int (xs (nI i + 2).toNatClampNeg), .int (xs (nI i + 3).toNatClampNeg)]) Cm (lhw hm) (c_M_act gm 0 tM_0 (xs (nI i + 1).toNatClampNeg) (xs (nI i + 2).toNatClampNeg) (xs (nI i + 3).toNatClampNeg) τ (r, τ') e2 l) rfl wc_L_134 nd_M_act ⟨by decide, by decide⟩ (rc_M Cm (lhw hm) tM_0) rfl hl.1 rfl (Nat.le_of_ble_eq_true rfl) d_L_law_983 ⟨by decide, by decide⟩) (fun H locs hm => ?_)
  refine lv_icmp_eq (tgt := 1283) hx hb d_L_law_986 (by decide) (fun _ => ?_) (fun c9 => absurd rfl c9)
  have hz := HV.other (g' := gx) hg.symm hm
  exact K σ' τ' H locs (hR'.le (by omega)) hz
set_option maxHeartbeats 1000000 in
set_option maxRecDepth 20000 in
theorem lc_29 {gx gm : GX} {b L : Nat} {xs : Nat → Int32} {p : Program} {l : Launch} {e : Env} {s : State} {m : MethodId} {below : List Frame} {meth : Method} {c : Code} {H : Heap} {locs : List Loc} {Q : State → Prop} {ls : Array Slot} {σ τ : St} {i N : Nat} (X : LAt gx gm L b xs p s m meth c) (hi : i + 6 ≤ L) (hN : N ≤ 100000) (hR : Rl N σ τ) (hw : LSt gx gm s σ τ H locs) (hl : lv_has ls 4 [(0, .ref b), (1, .ref (gx.2.1 0)), (2, .ref (gm.2.1 0)), (3, .int (nI i))])
    (K : ∀ (σ' τ' : St) (H1 : Heap) (locs1 : List Loc), Rl (N + 14) σ' τ' → LSt gx gm s σ' τ' H1 locs1 → W p l e room_1 s m #[Value.ref b] below meth c H1 locs1 145 3915 Q (F0 m 1283 ls [])) : W p l e room_1 s m #[Value.ref b] below meth c H locs 145 3915 Q (F0 m 991 ls []) := by
  obtain ⟨Cx, Cm, hg, hX, hbl, hL⟩ := X
  have hbA : ¬ (fun q : Nat => s.heap.size ≤ q) b := Nat.not_le.mpr hbl
  have hx := Cx.1
  have hb := Cx.2.1
  have hown := Cx.2.2.2.2.1
  have hts := Cx.2.2.2.2.2.1
  obtain ⟨t, d, CL, CLs, s9, hRR⟩ := hR
  obtain ⟨r, e1, e2⟩ := op_trace hRR (xs (nI i + 1).toNatClampNeg)
  refine lv_aload_n hx hb d_L_law_991 rfl (lv_at hl 1 rfl) ?_
  refine lv_aload_n hx hb d_L_law_992 rfl (lv_at hl 0 rfl) ?_
  refine lv_iload_n hx hb d_L_law_993 rfl (lv_at hl 3 rfl) ?_
  refine lv_iconst (v := 1) hx hb d_L_law_994 (by decide) ?_
  refine lv_iadd hx hb d_L_law_995 ?_
  refine va_sld hx hb hX hbl hbA hw.2.2 (vin (k := 1) (by omega) hL (by decide)) d_L_law_996 ?_
  refine clJ (q := (r, σ)) Cx hw (invV (As := [.int (xs (nI i + 1).toNatClampNeg)]) Cx (lhw hw) (c_X_trace gx 0 tX_0 (xs (nI i + 1).toNatClampNeg) σ r e1 l) rfl wc_L_135 nd_X_trace ⟨by decide, by decide⟩ (rc_X Cx (lhw hw) tX_0) rfl hl.1 rfl (Nat.le_of_ble_eq_true rfl) d_L_law_997 ⟨by decide, by decide⟩) (fun H locs hw => ?_)
  replace hw := HV.other (g' := gm) hg hw
  have hm := hw
  refine lv_aload_n hx hb d_L_law_1000 rfl (lv_at hl 2 rfl) ?_
  refine lv_aload_n hx hb d_L_law_1001 rfl (lv_at hl 0 rfl) ?_
  refine lv_iload_n hx hb d_L_law_1002 rfl (lv_at hl 3 rfl) ?_
  refine lv_iconst (v := 1) hx hb d_L_law_1003 (by decide) ?_
  refine lv_iadd hx hb d_L_law_1004 ?_
  refine va_sld hx hb hX hbl hbA hm.2.2 (vin (k := 1) (by omega) hL (by decide)) d_L_law_1005 ?_
  refine clJ (q := (r, τ)) Cm hm (invV (As := [.int (xs (nI i + 1).toNatClampNeg)]) Cm (lhw hm) (c_M_trace gm 0 tM_0 (xs (nI i + 1).toNatClampNeg) τ r e2 l) rfl wc_L_138 nd_M_trace ⟨by decide, by decide⟩ (rc_M Cm (lhw hm) tM_0) rfl hl.1 rfl (Nat.le_of_ble_eq_true rfl) d_L_law_1006 ⟨by decide, by decide⟩) (fun H locs hm => ?_)
  refine lv_icmp_eq (tgt := 1283) hx hb d_L_law_1009 (by decide) (fun _ => ?_) (fun c9 => absurd rfl c9)
  have hz := HV.other (g' := gx) hg.symm hm
  exact K σ τ H locs ⟨t, d, CL, CLs, s9, hRR.le (by omega)⟩ hz
set_option maxHeartbeats 1000000 in
set_option maxRecDepth 20000 in
theorem lc_30 {gx gm : GX} {b L : Nat} {xs : Nat → Int32} {p : Program} {l : Launch} {e : Env} {s : State} {m : MethodId} {below : List Frame} {meth : Method} {c : Code} {H : Heap} {locs : List Loc} {Q : State → Prop} {ls : Array Slot} {σ τ : St} {i N : Nat} (X : LAt gx gm L b xs p s m meth c) (hi : i + 6 ≤ L) (hN : N ≤ 100000) (hR : Rl N σ τ) (hw : LSt gx gm s σ τ H locs) (hl : lv_has ls 4 [(0, .ref b), (1, .ref (gx.2.1 0)), (2, .ref (gm.2.1 0)), (3, .int (nI i))])
    (K : ∀ (σ' τ' : St) (H1 : Heap) (locs1 : List Loc), Rl (N + 14) σ' τ' → LSt gx gm s σ' τ' H1 locs1 → W p l e room_1 s m #[Value.ref b] below meth c H1 locs1 145 3915 Q (F0 m 1283 ls [])) : W p l e room_1 s m #[Value.ref b] below meth c H locs 145 3915 Q (F0 m 1014 ls []) := by
  obtain ⟨Cx, Cm, hg, hX, hbl, hL⟩ := X
  have hbA : ¬ (fun q : Nat => s.heap.size ≤ q) b := Nat.not_le.mpr hbl
  have hx := Cx.1
  have hb := Cx.2.1
  have hown := Cx.2.2.2.2.1
  have hts := Cx.2.2.2.2.2.1
  obtain ⟨t, d, CL, CLs, s9, hRR⟩ := hR
  obtain ⟨r, e1, e2⟩ := op_taken hRR (xs (nI i + 1).toNatClampNeg) (xs (nI i + 2).toNatClampNeg)
  refine lv_aload_n hx hb d_L_law_1014 rfl (lv_at hl 1 rfl) ?_
  refine lv_aload_n hx hb d_L_law_1015 rfl (lv_at hl 0 rfl) ?_
  refine lv_iload_n hx hb d_L_law_1016 rfl (lv_at hl 3 rfl) ?_
  refine lv_iconst (v := 1) hx hb d_L_law_1017 (by decide) ?_
  refine lv_iadd hx hb d_L_law_1018 ?_
  refine va_sld hx hb hX hbl hbA hw.2.2 (vin (k := 1) (by omega) hL (by decide)) d_L_law_1019 ?_
  refine lv_aload_n hx hb d_L_law_1020 rfl (lv_at hl 0 rfl) ?_
  refine lv_iload_n hx hb d_L_law_1021 rfl (lv_at hl 3 rfl) ?_
  refine lv_iconst (v := 2) hx hb d_L_law_1022 (by decide) ?_
  refine lv_iadd hx hb d_L_law_1023 ?_
  refine va_sld hx hb hX hbl hbA hw.2.2 (vin (k := 2) (by omega) hL (by decide)) d_L_law_1024 ?_
  refine clJ (q := (r, σ)) Cx hw (invV (As := [.int (xs (nI i + 1).toNatClampNeg), .int (xs (nI i + 2).toNatClampNeg)]) Cx (lhw hw) (c_X_taken gx 0 tX_0 (xs (nI i + 1).toNatClampNeg) (xs (nI i + 2).toNatClampNeg) σ r e1 l) rfl wc_L_139 nd_X_taken ⟨by decide, by decide⟩ (rc_X Cx (lhw hw) tX_0) rfl hl.1 rfl (Nat.le_of_ble_eq_true rfl) d_L_law_1025 ⟨by decide, by decide⟩) (fun H locs hw => ?_)
  replace hw := HV.other (g' := gm) hg hw
  have hm := hw
  refine lv_aload_n hx hb d_L_law_1028 rfl (lv_at hl 2 rfl) ?_
  refine lv_aload_n hx hb d_L_law_1029 rfl (lv_at hl 0 rfl) ?_
  refine lv_iload_n hx hb d_L_law_1030 rfl (lv_at hl 3 rfl) ?_
  refine lv_iconst (v := 1) hx hb d_L_law_1031 (by decide) ?_
  refine lv_iadd hx hb d_L_law_1032 ?_
  refine va_sld hx hb hX hbl hbA hm.2.2 (vin (k := 1) (by omega) hL (by decide)) d_L_law_1033 ?_
  refine lv_aload_n hx hb d_L_law_1034 rfl (lv_at hl 0 rfl) ?_
  refine lv_iload_n hx hb d_L_law_1035 rfl (lv_at hl 3 rfl) ?_
  refine lv_iconst (v := 2) hx hb d_L_law_1036 (by decide) ?_
  refine lv_iadd hx hb d_L_law_1037 ?_
  refine va_sld hx hb hX hbl hbA hm.2.2 (vin (k := 2) (by omega) hL (by decide)) d_L_law_1038 ?_
  refine clJ (q := (r, τ)) Cm hm (invV (As := [.int (xs (nI i + 1).toNatClampNeg), .int (xs (nI i + 2).toNatClampNeg)]) Cm (lhw hm) (c_M_taken gm 0 tM_0 (xs (nI i + 1).toNatClampNeg) (xs (nI i + 2).toNatClampNeg) τ r e2 l) rfl wc_L_142 nd_M_taken ⟨by decide, by decide⟩ (rc_M Cm (lhw hm) tM_0) rfl hl.1 rfl (Nat.le_of_ble_eq_true rfl) d_L_law_1039 ⟨by decide, by decide⟩) (fun H locs hm => ?_)
  refine lv_icmp_eq (tgt := 1283) hx hb d_L_law_1042 (by decide) (fun _ => ?_) (fun c9 => absurd rfl c9)
  have hz := HV.other (g' := gx) hg.symm hm
  exact K σ τ H locs ⟨t, d, CL, CLs, s9, hRR.le (by omega)⟩ hz
set_option maxHeartbeats 1000000 in
set_option maxRecDepth 20000 in
theorem lc_31 {gx gm : GX} {b L : Nat} {xs : Nat → Int32} {p : Program} {l : Launch} {e : Env} {s : State} {m : MethodId} {below : List Frame} {meth : Method} {c : Code} {H : Heap} {locs : List Loc} {Q : State → Prop} {ls : Array Slot} {σ τ : St} {i N : Nat} (X : LAt gx gm L b xs p s m meth c) (hi : i + 6 ≤ L) (hN : N ≤ 100000) (hR : Rl N σ τ) (hw : LSt gx gm s σ τ H locs) (hl : lv_has ls 4 [(0, .ref b), (1, .ref (gx.2.1 0)), (2, .ref (gm.2.1 0)), (3, .int (nI i))])
    (K : ∀ (σ' τ' : St) (H1 : Heap) (locs1 : List Loc), Rl (N + 14) σ' τ' → LSt gx gm s σ' τ' H1 locs1 → W p l e room_1 s m #[Value.ref b] below meth c H1 locs1 145 3915 Q (F0 m 1283 ls [])) : W p l e room_1 s m #[Value.ref b] below meth c H locs 145 3915 Q (F0 m 1047 ls []) := by
  obtain ⟨Cx, Cm, hg, hX, hbl, hL⟩ := X
  have hbA : ¬ (fun q : Nat => s.heap.size ≤ q) b := Nat.not_le.mpr hbl
  have hx := Cx.1
  have hb := Cx.2.1
  have hown := Cx.2.2.2.2.1
  have hts := Cx.2.2.2.2.2.1
  obtain ⟨t, d, CL, CLs, s9, hRR⟩ := hR
  have e0 := op_count hRR (xs (nI i + 1).toNatClampNeg)
  refine lv_aload_n hx hb d_L_law_1047 rfl (lv_at hl 1 rfl) ?_
  refine lv_aload_n hx hb d_L_law_1048 rfl (lv_at hl 0 rfl) ?_
  refine lv_iload_n hx hb d_L_law_1049 rfl (lv_at hl 3 rfl) ?_
  refine lv_iconst (v := 1) hx hb d_L_law_1050 (by decide) ?_
  refine lv_iadd hx hb d_L_law_1051 ?_
  refine va_sld hx hb hX hbl hbA hw.2.2 (vin (k := 1) (by omega) hL (by decide)) d_L_law_1052 ?_
  refine clJ (q := (f_X_count 0 (xs (nI i + 1).toNatClampNeg) σ, σ)) Cx hw (invV (As := [.int (xs (nI i + 1).toNatClampNeg)]) Cx (lhw hw) (c_X_count gx 0 tX_0 (xs (nI i + 1).toNatClampNeg) σ l) rfl wc_L_143 nd_X_count ⟨by decide, by decide⟩ (rc_X Cx (lhw hw) tX_0) rfl hl.1 rfl (Nat.le_of_ble_eq_true rfl) d_L_law_1053 ⟨by decide, by decide⟩) (fun H locs hw => ?_)
  replace hw := HV.other (g' := gm) hg hw
  have hm := hw
  refine lv_aload_n hx hb d_L_law_1056 rfl (lv_at hl 2 rfl) ?_
  refine lv_aload_n hx hb d_L_law_1057 rfl (lv_at hl 0 rfl) ?_
  refine lv_iload_n hx hb d_L_law_1058 rfl (lv_at hl 3 rfl) ?_
  refine lv_iconst (v := 1) hx hb d_L_law_1059 (by decide) ?_
  refine lv_iadd hx hb d_L_law_1060 ?_
  refine va_sld hx hb hX hbl hbA hm.2.2 (vin (k := 1) (by omega) hL (by decide)) d_L_law_1061 ?_
  refine clJ (q := (f_M_count 0 (xs (nI i + 1).toNatClampNeg) τ, τ)) Cm hm (invV (As := [.int (xs (nI i + 1).toNatClampNeg)]) Cm (lhw hm) (c_M_count gm 0 tM_0 (xs (nI i + 1).toNatClampNeg) τ l) rfl wc_L_146 nd_M_count ⟨by decide, by decide⟩ (rc_M Cm (lhw hm) tM_0) rfl hl.1 rfl (Nat.le_of_ble_eq_true rfl) d_L_law_1062 ⟨by decide, by decide⟩) (fun H locs hm => ?_)
  refine lv_icmp_eq (tgt := 1283) hx hb d_L_law_1065 (by decide) (fun _ => ?_) (fun c9 => absurd (op_count hRR (xs (nI i + 1).toNatClampNeg)) c9)
  have hz := HV.other (g' := gx) hg.symm hm
  exact K σ τ H locs ⟨t, d, CL, CLs, s9, hRR.le (by omega)⟩ hz
set_option maxHeartbeats 1000000 in
set_option maxRecDepth 20000 in
theorem lc_32 {gx gm : GX} {b L : Nat} {xs : Nat → Int32} {p : Program} {l : Launch} {e : Env} {s : State} {m : MethodId} {below : List Frame} {meth : Method} {c : Code} {H : Heap} {locs : List Loc} {Q : State → Prop} {ls : Array Slot} {σ τ : St} {i N : Nat} (X : LAt gx gm L b xs p s m meth c) (hi : i + 6 ≤ L) (hN : N ≤ 100000) (hR : Rl N σ τ) (hw : LSt gx gm s σ τ H locs) (hl : lv_has ls 4 [(0, .ref b), (1, .ref (gx.2.1 0)), (2, .ref (gm.2.1 0)), (3, .int (nI i))])
    (K : ∀ (σ' τ' : St) (H1 : Heap) (locs1 : List Loc), Rl (N + 14) σ' τ' → LSt gx gm s σ' τ' H1 locs1 → W p l e room_1 s m #[Value.ref b] below meth c H1 locs1 145 3915 Q (F0 m 1283 ls [])) : W p l e room_1 s m #[Value.ref b] below meth c H locs 145 3915 Q (F0 m 1070 ls []) := by
  obtain ⟨Cx, Cm, hg, hX, hbl, hL⟩ := X
  have hbA : ¬ (fun q : Nat => s.heap.size ≤ q) b := Nat.not_le.mpr hbl
  have hx := Cx.1
  have hb := Cx.2.1
  have hown := Cx.2.2.2.2.1
  have hts := Cx.2.2.2.2.2.1
  obtain ⟨t, d, CL, CLs, s9, hRR⟩ := hR
  obtain ⟨r, σ', τ', e1, e2, hR'⟩ := op_tape hRR (xs (nI i + 1).toNatClampNeg) (xs (nI i + 2).toNatClampNeg) (xs (nI i + 3).toNatClampNeg)
  refine lv_aload_n hx hb d_L_law_1070 rfl (lv_at hl 1 rfl) ?_
  refine lv_aload_n hx hb d_L_law_1071 rfl (lv_at hl 0 rfl) ?_
  refine lv_iload_n hx hb d_L_law_1072 rfl (lv_at hl 3 rfl) ?_
  refine lv_iconst (v := 1) hx hb d_L_law_1073 (by decide) ?_
  refine lv_iadd hx hb d_L_law_1074 ?_
  refine va_sld hx hb hX hbl hbA hw.2.2 (vin (k := 1) (by omega) hL (by decide)) d_L_law_1075 ?_
  refine lv_aload_n hx hb d_L_law_1076 rfl (lv_at hl 0 rfl) ?_
  refine lv_iload_n hx hb d_L_law_1077 rfl (lv_at hl 3 rfl) ?_
  refine lv_iconst (v := 2) hx hb d_L_law_1078 (by decide) ?_
  refine lv_iadd hx hb d_L_law_1079 ?_
  refine va_sld hx hb hX hbl hbA hw.2.2 (vin (k := 2) (by omega) hL (by decide)) d_L_law_1080 ?_
  refine lv_aload_n hx hb d_L_law_1081 rfl (lv_at hl 0 rfl) ?_
  refine lv_iload_n hx hb d_L_law_1082 rfl (lv_at hl 3 rfl) ?_
  refine lv_iconst (v := 3) hx hb d_L_law_1083 (by decide) ?_
  refine lv_iadd hx hb d_L_law_1084 ?_
  refine va_sld hx hb hX hbl hbA hw.2.2 (vin (k := 3) (by omega) hL (by decide)) d_L_law_1085 ?_
  refine clJ (q := (r, σ')) Cx hw (invV (As := [.int (xs (nI i + 1).toNatClampNeg), .int (xs (nI i + 2).toNatClampNeg), .int (xs (nI i + 3).toNatClampNeg)]) Cx (lhw hw) (c_X_tape gx 0 tX_0 (xs (nI i + 1).toNatClampNeg) (xs (nI i + 2).toNatClampNeg) (xs (nI i + 3).toNatClampNeg) σ (r, σ') e1 l) rfl wc_L_147 nd_X_tape ⟨by decide, by decide⟩ (rc_X Cx (lhw hw) tX_0) rfl hl.1 rfl (Nat.le_of_ble_eq_true rfl) d_L_law_1086 ⟨by decide, by decide⟩) (fun H locs hw => ?_)
  replace hw := HV.other (g' := gm) hg hw
  have hm := hw
  refine lv_aload_n hx hb d_L_law_1089 rfl (lv_at hl 2 rfl) ?_
  refine lv_aload_n hx hb d_L_law_1090 rfl (lv_at hl 0 rfl) ?_
  refine lv_iload_n hx hb d_L_law_1091 rfl (lv_at hl 3 rfl) ?_
  refine lv_iconst (v := 1) hx hb d_L_law_1092 (by decide) ?_
  refine lv_iadd hx hb d_L_law_1093 ?_
  refine va_sld hx hb hX hbl hbA hm.2.2 (vin (k := 1) (by omega) hL (by decide)) d_L_law_1094 ?_
  refine lv_aload_n hx hb d_L_law_1095 rfl (lv_at hl 0 rfl) ?_
  refine lv_iload_n hx hb d_L_law_1096 rfl (lv_at hl 3 rfl) ?_
  refine lv_iconst (v := 2) hx hb d_L_law_1097 (by decide) ?_
  refine lv_iadd hx hb d_L_law_1098 ?_
  refine va_sld hx hb hX hbl hbA hm.2.2 (vin (k := 2) (by omega) hL (by decide)) d_L_law_1099 ?_
  refine lv_aload_n hx hb d_L_law_1100 rfl (lv_at hl 0 rfl) ?_
  refine lv_iload_n hx hb d_L_law_1101 rfl (lv_at hl 3 rfl) ?_
  refine lv_iconst (v := 3) hx hb d_L_law_1102 (by decide) ?_
  refine lv_iadd hx hb d_L_law_1103 ?_
  refine va_sld hx hb hX hbl hbA hm.2.2 (vin (k := 3) (by omega) hL (by decide)) d_L_law_1104 ?_
  refine clJ (q := (r, τ')) Cm hm (invV (As := [.int (xs (nI i + 1).toNatClampNeg), .int (xs (nI i + 2).toNatClampNeg), .int (xs (nI i + 3).toNatClampNeg)]) Cm (lhw hm) (c_M_tape gm 0 tM_0 (xs (nI i + 1).toNatClampNeg) (xs (nI i + 2).toNatClampNeg) (xs (nI i + 3).toNatClampNeg) τ (r, τ') e2 l) rfl wc_L_150 nd_M_tape ⟨by decide, by decide⟩ (rc_M Cm (lhw hm) tM_0) rfl hl.1 rfl (Nat.le_of_ble_eq_true rfl) d_L_law_1105 ⟨by decide, by decide⟩) (fun H locs hm => ?_)
  refine lv_icmp_eq (tgt := 1283) hx hb d_L_law_1108 (by decide) (fun _ => ?_) (fun c9 => absurd rfl c9)
  have hz := HV.other (g' := gx) hg.symm hm
  exact K σ' τ' H locs (hR'.le (by omega)) hz
set_option maxHeartbeats 1000000 in
set_option maxRecDepth 20000 in
theorem lc_33 {gx gm : GX} {b L : Nat} {xs : Nat → Int32} {p : Program} {l : Launch} {e : Env} {s : State} {m : MethodId} {below : List Frame} {meth : Method} {c : Code} {H : Heap} {locs : List Loc} {Q : State → Prop} {ls : Array Slot} {σ τ : St} {i N : Nat} (X : LAt gx gm L b xs p s m meth c) (hi : i + 6 ≤ L) (hN : N ≤ 100000) (hR : Rl N σ τ) (hw : LSt gx gm s σ τ H locs) (hl : lv_has ls 4 [(0, .ref b), (1, .ref (gx.2.1 0)), (2, .ref (gm.2.1 0)), (3, .int (nI i))])
    (K : ∀ (σ' τ' : St) (H1 : Heap) (locs1 : List Loc), Rl (N + 14) σ' τ' → LSt gx gm s σ' τ' H1 locs1 → W p l e room_1 s m #[Value.ref b] below meth c H1 locs1 145 3915 Q (F0 m 1283 ls [])) : W p l e room_1 s m #[Value.ref b] below meth c H locs 145 3915 Q (F0 m 1113 ls []) := by
  obtain ⟨Cx, Cm, hg, hX, hbl, hL⟩ := X
  have hbA : ¬ (fun q : Nat => s.heap.size ≤ q) b := Nat.not_le.mpr hbl
  have hx := Cx.1
  have hb := Cx.2.1
  have hown := Cx.2.2.2.2.1
  have hts := Cx.2.2.2.2.2.1
  obtain ⟨t, d, CL, CLs, s9, hRR⟩ := hR
  obtain ⟨r, σ', τ', e1, e2, hR'⟩ := op_item hRR (xs (nI i + 1).toNatClampNeg) (xs (nI i + 2).toNatClampNeg) ((((xs (nI i + 3).toNatClampNeg).toInt64) <<< ((32 : Int32).toInt64 &&& 63)) ||| (((xs (nI i + 4).toNatClampNeg).toInt64) &&& 4294967295))
  refine lv_aload_n hx hb d_L_law_1113 rfl (lv_at hl 1 rfl) ?_
  refine lv_aload_n hx hb d_L_law_1114 rfl (lv_at hl 0 rfl) ?_
  refine lv_iload_n hx hb d_L_law_1115 rfl (lv_at hl 3 rfl) ?_
  refine lv_iconst (v := 1) hx hb d_L_law_1116 (by decide) ?_
  refine lv_iadd hx hb d_L_law_1117 ?_
  refine va_sld hx hb hX hbl hbA hw.2.2 (vin (k := 1) (by omega) hL (by decide)) d_L_law_1118 ?_
  refine lv_aload_n hx hb d_L_law_1119 rfl (lv_at hl 0 rfl) ?_
  refine lv_iload_n hx hb d_L_law_1120 rfl (lv_at hl 3 rfl) ?_
  refine lv_iconst (v := 2) hx hb d_L_law_1121 (by decide) ?_
  refine lv_iadd hx hb d_L_law_1122 ?_
  refine va_sld hx hb hX hbl hbA hw.2.2 (vin (k := 2) (by omega) hL (by decide)) d_L_law_1123 ?_
  refine lv_aload_n hx hb d_L_law_1124 rfl (lv_at hl 0 rfl) ?_
  refine lv_iload_n hx hb d_L_law_1125 rfl (lv_at hl 3 rfl) ?_
  refine lv_iconst (v := 3) hx hb d_L_law_1126 (by decide) ?_
  refine lv_iadd hx hb d_L_law_1127 ?_
  refine va_sld hx hb hX hbl hbA hw.2.2 (vin (k := 3) (by omega) hL (by decide)) d_L_law_1128 ?_
  refine lv_i2l hx hb d_L_law_1129 rfl ?_
  refine lv_bipush (v := 32) hx hb d_L_law_1130 (by decide) ?_
  refine lv_lshl hx hb d_L_law_1132 rfl ?_
  refine lv_aload_n hx hb d_L_law_1133 rfl (lv_at hl 0 rfl) ?_
  refine lv_iload_n hx hb d_L_law_1134 rfl (lv_at hl 3 rfl) ?_
  refine lv_iconst (v := 4) hx hb d_L_law_1135 (by decide) ?_
  refine lv_iadd hx hb d_L_law_1136 ?_
  refine va_sld hx hb hX hbl hbA hw.2.2 (vin (k := 4) (by omega) hL (by decide)) d_L_law_1137 ?_
  refine lv_i2l hx hb d_L_law_1138 rfl ?_
  refine lv_ldc2 (v := 4294967295) hx hb hown (hts _ (inG 1316 (by decide +kernel) (by decide +kernel))) d_L_law_1139 ?_
  refine lv_land hx hb d_L_law_1142 ?_
  refine lv_lor hx hb d_L_law_1143 ?_
  refine clJ (q := (r, σ')) Cx hw (invV (As := [.int (xs (nI i + 1).toNatClampNeg), .int (xs (nI i + 2).toNatClampNeg), .long ((((xs (nI i + 3).toNatClampNeg).toInt64) <<< ((32 : Int32).toInt64 &&& 63)) ||| (((xs (nI i + 4).toNatClampNeg).toInt64) &&& 4294967295))]) Cx (lhw hw) (c_X_item gx 0 tX_0 (xs (nI i + 1).toNatClampNeg) (xs (nI i + 2).toNatClampNeg) ((((xs (nI i + 3).toNatClampNeg).toInt64) <<< ((32 : Int32).toInt64 &&& 63)) ||| (((xs (nI i + 4).toNatClampNeg).toInt64) &&& 4294967295)) σ (r, σ') e1 l) rfl wc_L_153 nd_X_item ⟨by decide, by decide⟩ (rc_X Cx (lhw hw) tX_0) rfl hl.1 rfl (Nat.le_of_ble_eq_true rfl) d_L_law_1144 ⟨by decide, by decide⟩) (fun H locs hw => ?_)
  replace hw := HV.other (g' := gm) hg hw
  have hm := hw
  refine lv_aload_n hx hb d_L_law_1147 rfl (lv_at hl 2 rfl) ?_
  refine lv_aload_n hx hb d_L_law_1148 rfl (lv_at hl 0 rfl) ?_
  refine lv_iload_n hx hb d_L_law_1149 rfl (lv_at hl 3 rfl) ?_
  refine lv_iconst (v := 1) hx hb d_L_law_1150 (by decide) ?_
  refine lv_iadd hx hb d_L_law_1151 ?_
  refine va_sld hx hb hX hbl hbA hm.2.2 (vin (k := 1) (by omega) hL (by decide)) d_L_law_1152 ?_
  refine lv_aload_n hx hb d_L_law_1153 rfl (lv_at hl 0 rfl) ?_
  refine lv_iload_n hx hb d_L_law_1154 rfl (lv_at hl 3 rfl) ?_
  refine lv_iconst (v := 2) hx hb d_L_law_1155 (by decide) ?_
  refine lv_iadd hx hb d_L_law_1156 ?_
  refine va_sld hx hb hX hbl hbA hm.2.2 (vin (k := 2) (by omega) hL (by decide)) d_L_law_1157 ?_
  refine lv_aload_n hx hb d_L_law_1158 rfl (lv_at hl 0 rfl) ?_
  refine lv_iload_n hx hb d_L_law_1159 rfl (lv_at hl 3 rfl) ?_
  refine lv_iconst (v := 3) hx hb d_L_law_1160 (by decide) ?_
  refine lv_iadd hx hb d_L_law_1161 ?_
  refine va_sld hx hb hX hbl hbA hm.2.2 (vin (k := 3) (by omega) hL (by decide)) d_L_law_1162 ?_
  refine lv_i2l hx hb d_L_law_1163 rfl ?_
  refine lv_bipush (v := 32) hx hb d_L_law_1164 (by decide) ?_
  refine lv_lshl hx hb d_L_law_1166 rfl ?_
  refine lv_aload_n hx hb d_L_law_1167 rfl (lv_at hl 0 rfl) ?_
  refine lv_iload_n hx hb d_L_law_1168 rfl (lv_at hl 3 rfl) ?_
  refine lv_iconst (v := 4) hx hb d_L_law_1169 (by decide) ?_
  refine lv_iadd hx hb d_L_law_1170 ?_
  refine va_sld hx hb hX hbl hbA hm.2.2 (vin (k := 4) (by omega) hL (by decide)) d_L_law_1171 ?_
  refine lv_i2l hx hb d_L_law_1172 rfl ?_
  refine lv_ldc2 (v := 4294967295) hx hb hown (hts _ (inG 1316 (by decide +kernel) (by decide +kernel))) d_L_law_1173 ?_
  refine lv_land hx hb d_L_law_1176 ?_
  refine lv_lor hx hb d_L_law_1177 ?_
  refine clJ (q := (r, τ')) Cm hm (invV (As := [.int (xs (nI i + 1).toNatClampNeg), .int (xs (nI i + 2).toNatClampNeg), .long ((((xs (nI i + 3).toNatClampNeg).toInt64) <<< ((32 : Int32).toInt64 &&& 63)) ||| (((xs (nI i + 4).toNatClampNeg).toInt64) &&& 4294967295))]) Cm (lhw hm) (c_M_item gm 0 tM_0 (xs (nI i + 1).toNatClampNeg) (xs (nI i + 2).toNatClampNeg) ((((xs (nI i + 3).toNatClampNeg).toInt64) <<< ((32 : Int32).toInt64 &&& 63)) ||| (((xs (nI i + 4).toNatClampNeg).toInt64) &&& 4294967295)) τ (r, τ') e2 l) rfl wc_L_157 nd_M_item ⟨by decide, by decide⟩ (rc_M Cm (lhw hm) tM_0) rfl hl.1 rfl (Nat.le_of_ble_eq_true rfl) d_L_law_1178 ⟨by decide, by decide⟩) (fun H locs hm => ?_)
  refine lv_icmp_eq (tgt := 1283) hx hb d_L_law_1181 (by decide) (fun _ => ?_) (fun c9 => absurd rfl c9)
  have hz := HV.other (g' := gx) hg.symm hm
  exact K σ' τ' H locs (hR'.le (by omega)) hz
set_option maxHeartbeats 1000000 in
set_option maxRecDepth 20000 in
theorem lc_34 {gx gm : GX} {b L : Nat} {xs : Nat → Int32} {p : Program} {l : Launch} {e : Env} {s : State} {m : MethodId} {below : List Frame} {meth : Method} {c : Code} {H : Heap} {locs : List Loc} {Q : State → Prop} {ls : Array Slot} {σ τ : St} {i N : Nat} (X : LAt gx gm L b xs p s m meth c) (hi : i + 6 ≤ L) (hN : N ≤ 100000) (hR : Rl N σ τ) (hw : LSt gx gm s σ τ H locs) (hl : lv_has ls 4 [(0, .ref b), (1, .ref (gx.2.1 0)), (2, .ref (gm.2.1 0)), (3, .int (nI i))])
    (K : ∀ (σ' τ' : St) (H1 : Heap) (locs1 : List Loc), Rl (N + 14) σ' τ' → LSt gx gm s σ' τ' H1 locs1 → W p l e room_1 s m #[Value.ref b] below meth c H1 locs1 145 3915 Q (F0 m 1283 ls [])) : W p l e room_1 s m #[Value.ref b] below meth c H locs 145 3915 Q (F0 m 1186 ls []) := by
  obtain ⟨Cx, Cm, hg, hX, hbl, hL⟩ := X
  have hbA : ¬ (fun q : Nat => s.heap.size ≤ q) b := Nat.not_le.mpr hbl
  have hx := Cx.1
  have hb := Cx.2.1
  have hown := Cx.2.2.2.2.1
  have hts := Cx.2.2.2.2.2.1
  obtain ⟨t, d, CL, CLs, s9, hRR⟩ := hR
  obtain ⟨r, e1, e2⟩ := op_read hRR (xs (nI i + 1).toNatClampNeg) (xs (nI i + 2).toNatClampNeg)
  refine lv_aload_n hx hb d_L_law_1186 rfl (lv_at hl 1 rfl) ?_
  refine lv_aload_n hx hb d_L_law_1187 rfl (lv_at hl 0 rfl) ?_
  refine lv_iload_n hx hb d_L_law_1188 rfl (lv_at hl 3 rfl) ?_
  refine lv_iconst (v := 1) hx hb d_L_law_1189 (by decide) ?_
  refine lv_iadd hx hb d_L_law_1190 ?_
  refine va_sld hx hb hX hbl hbA hw.2.2 (vin (k := 1) (by omega) hL (by decide)) d_L_law_1191 ?_
  refine lv_aload_n hx hb d_L_law_1192 rfl (lv_at hl 0 rfl) ?_
  refine lv_iload_n hx hb d_L_law_1193 rfl (lv_at hl 3 rfl) ?_
  refine lv_iconst (v := 2) hx hb d_L_law_1194 (by decide) ?_
  refine lv_iadd hx hb d_L_law_1195 ?_
  refine va_sld hx hb hX hbl hbA hw.2.2 (vin (k := 2) (by omega) hL (by decide)) d_L_law_1196 ?_
  refine clJL (q := (r, σ)) Cx hw (invV (As := [.int (xs (nI i + 1).toNatClampNeg), .int (xs (nI i + 2).toNatClampNeg)]) Cx (lhw hw) (c_X_read gx 0 tX_0 (xs (nI i + 1).toNatClampNeg) (xs (nI i + 2).toNatClampNeg) σ r e1 l) rfl wc_L_158 nd_X_read ⟨by decide, by decide⟩ (rc_X Cx (lhw hw) tX_0) rfl hl.1 rfl (Nat.le_of_ble_eq_true rfl) d_L_law_1197 ⟨by decide, by decide⟩) (fun H locs hw => ?_)
  replace hw := HV.other (g' := gm) hg hw
  have hm := hw
  refine lv_aload_n hx hb d_L_law_1200 rfl (lv_at hl 2 rfl) ?_
  refine lv_aload_n hx hb d_L_law_1201 rfl (lv_at hl 0 rfl) ?_
  refine lv_iload_n hx hb d_L_law_1202 rfl (lv_at hl 3 rfl) ?_
  refine lv_iconst (v := 1) hx hb d_L_law_1203 (by decide) ?_
  refine lv_iadd hx hb d_L_law_1204 ?_
  refine va_sld hx hb hX hbl hbA hm.2.2 (vin (k := 1) (by omega) hL (by decide)) d_L_law_1205 ?_
  refine lv_aload_n hx hb d_L_law_1206 rfl (lv_at hl 0 rfl) ?_
  refine lv_iload_n hx hb d_L_law_1207 rfl (lv_at hl 3 rfl) ?_
  refine lv_iconst (v := 2) hx hb d_L_law_1208 (by decide) ?_
  refine lv_iadd hx hb d_L_law_1209 ?_
  refine va_sld hx hb hX hbl hbA hm.2.2 (vin (k := 2) (by omega) hL (by decide)) d_L_law_1210 ?_
  refine clJL (q := (r, τ)) Cm hm (invV (As := [.int (xs (nI i + 1).toNatClampNeg), .int (xs (nI i + 2).toNatClampNeg)]) Cm (lhw hm) (c_M_read gm 0 tM_0 (xs (nI i + 1).toNatClampNeg) (xs (nI i + 2).toNatClampNeg) τ r e2 l) rfl wc_L_161 nd_M_read ⟨by decide, by decide⟩ (rc_M Cm (lhw hm) tM_0) rfl hl.1 rfl (Nat.le_of_ble_eq_true rfl) d_L_law_1211 ⟨by decide, by decide⟩) (fun H locs hm => ?_)
  refine W.lcmp hx hb d_L_law_1214 ?_
  rw [cmp_s]
  refine lv_if_eq (tgt := 1283) hx hb d_L_law_1215 (by decide) (fun _ => ?_) (fun c9 => absurd rfl c9)
  have hz := HV.other (g' := gx) hg.symm hm
  exact K σ τ H locs ⟨t, d, CL, CLs, s9, hRR.le (by omega)⟩ hz
set_option maxHeartbeats 1000000 in
set_option maxRecDepth 20000 in
theorem lc_35 {gx gm : GX} {b L : Nat} {xs : Nat → Int32} {p : Program} {l : Launch} {e : Env} {s : State} {m : MethodId} {below : List Frame} {meth : Method} {c : Code} {H : Heap} {locs : List Loc} {Q : State → Prop} {ls : Array Slot} {σ τ : St} {i N : Nat} (X : LAt gx gm L b xs p s m meth c) (hi : i + 6 ≤ L) (hN : N ≤ 100000) (hR : Rl N σ τ) (hw : LSt gx gm s σ τ H locs) (hl : lv_has ls 4 [(0, .ref b), (1, .ref (gx.2.1 0)), (2, .ref (gm.2.1 0)), (3, .int (nI i))])
    (K : ∀ (σ' τ' : St) (H1 : Heap) (locs1 : List Loc), Rl (N + 14) σ' τ' → LSt gx gm s σ' τ' H1 locs1 → W p l e room_1 s m #[Value.ref b] below meth c H1 locs1 145 3915 Q (F0 m 1283 ls [])) : W p l e room_1 s m #[Value.ref b] below meth c H locs 145 3915 Q (F0 m 1220 ls []) := by
  obtain ⟨Cx, Cm, hg, hX, hbl, hL⟩ := X
  have hbA : ¬ (fun q : Nat => s.heap.size ≤ q) b := Nat.not_le.mpr hbl
  have hx := Cx.1
  have hb := Cx.2.1
  have hown := Cx.2.2.2.2.1
  have hts := Cx.2.2.2.2.2.1
  obtain ⟨t, d, CL, CLs, s9, hRR⟩ := hR
  obtain ⟨r, σ', τ', e1, e2, hR'⟩ := op_shift hRR (xs (nI i + 1).toNatClampNeg) (xs (nI i + 2).toNatClampNeg) (xs (nI i + 3).toNatClampNeg) (xs (nI i + 4).toNatClampNeg) (xs (nI i + 5).toNatClampNeg)
  refine lv_aload_n hx hb d_L_law_1220 rfl (lv_at hl 1 rfl) ?_
  refine lv_aload_n hx hb d_L_law_1221 rfl (lv_at hl 0 rfl) ?_
  refine lv_iload_n hx hb d_L_law_1222 rfl (lv_at hl 3 rfl) ?_
  refine lv_iconst (v := 1) hx hb d_L_law_1223 (by decide) ?_
  refine lv_iadd hx hb d_L_law_1224 ?_
  refine va_sld hx hb hX hbl hbA hw.2.2 (vin (k := 1) (by omega) hL (by decide)) d_L_law_1225 ?_
  refine lv_aload_n hx hb d_L_law_1226 rfl (lv_at hl 0 rfl) ?_
  refine lv_iload_n hx hb d_L_law_1227 rfl (lv_at hl 3 rfl) ?_
  refine lv_iconst (v := 2) hx hb d_L_law_1228 (by decide) ?_
  refine lv_iadd hx hb d_L_law_1229 ?_
  refine va_sld hx hb hX hbl hbA hw.2.2 (vin (k := 2) (by omega) hL (by decide)) d_L_law_1230 ?_
  refine lv_aload_n hx hb d_L_law_1231 rfl (lv_at hl 0 rfl) ?_
  refine lv_iload_n hx hb d_L_law_1232 rfl (lv_at hl 3 rfl) ?_
  refine lv_iconst (v := 3) hx hb d_L_law_1233 (by decide) ?_
  refine lv_iadd hx hb d_L_law_1234 ?_
  refine va_sld hx hb hX hbl hbA hw.2.2 (vin (k := 3) (by omega) hL (by decide)) d_L_law_1235 ?_
  refine lv_aload_n hx hb d_L_law_1236 rfl (lv_at hl 0 rfl) ?_
  refine lv_iload_n hx hb d_L_law_1237 rfl (lv_at hl 3 rfl) ?_
  refine lv_iconst (v := 4) hx hb d_L_law_1238 (by decide) ?_
  refine lv_iadd hx hb d_L_law_1239 ?_
  refine va_sld hx hb hX hbl hbA hw.2.2 (vin (k := 4) (by omega) hL (by decide)) d_L_law_1240 ?_
  refine lv_aload_n hx hb d_L_law_1241 rfl (lv_at hl 0 rfl) ?_
  refine lv_iload_n hx hb d_L_law_1242 rfl (lv_at hl 3 rfl) ?_
  refine lv_iconst (v := 5) hx hb d_L_law_1243 (by decide) ?_
  refine lv_iadd hx hb d_L_law_1244 ?_
  refine va_sld hx hb hX hbl hbA hw.2.2 (vin (k := 5) (by omega) hL (by decide)) d_L_law_1245 ?_
  refine clJ (q := (r, σ')) Cx hw (invV (As := [.int (xs (nI i + 1).toNatClampNeg), .int (xs (nI i + 2).toNatClampNeg), .int (xs (nI i + 3).toNatClampNeg), .int (xs (nI i + 4).toNatClampNeg), .int (xs (nI i + 5).toNatClampNeg)]) Cx (lhw hw) (c_X_shift gx 0 tX_0 (xs (nI i + 1).toNatClampNeg) (xs (nI i + 2).toNatClampNeg) (xs (nI i + 3).toNatClampNeg) (xs (nI i + 4).toNatClampNeg) (xs (nI i + 5).toNatClampNeg) σ (r, σ') e1 l) rfl wc_L_162 nd_X_shift ⟨by decide, by decide⟩ (rc_X Cx (lhw hw) tX_0) rfl hl.1 rfl (Nat.le_of_ble_eq_true rfl) d_L_law_1246 ⟨by decide, by decide⟩) (fun H locs hw => ?_)
  replace hw := HV.other (g' := gm) hg hw
  have hm := hw
  refine lv_aload_n hx hb d_L_law_1249 rfl (lv_at hl 2 rfl) ?_
  refine lv_aload_n hx hb d_L_law_1250 rfl (lv_at hl 0 rfl) ?_
  refine lv_iload_n hx hb d_L_law_1251 rfl (lv_at hl 3 rfl) ?_
  refine lv_iconst (v := 1) hx hb d_L_law_1252 (by decide) ?_
  refine lv_iadd hx hb d_L_law_1253 ?_
  refine va_sld hx hb hX hbl hbA hm.2.2 (vin (k := 1) (by omega) hL (by decide)) d_L_law_1254 ?_
  refine lv_aload_n hx hb d_L_law_1255 rfl (lv_at hl 0 rfl) ?_
  refine lv_iload_n hx hb d_L_law_1256 rfl (lv_at hl 3 rfl) ?_
  refine lv_iconst (v := 2) hx hb d_L_law_1257 (by decide) ?_
  refine lv_iadd hx hb d_L_law_1258 ?_
  refine va_sld hx hb hX hbl hbA hm.2.2 (vin (k := 2) (by omega) hL (by decide)) d_L_law_1259 ?_
  refine lv_aload_n hx hb d_L_law_1260 rfl (lv_at hl 0 rfl) ?_
  refine lv_iload_n hx hb d_L_law_1261 rfl (lv_at hl 3 rfl) ?_
  refine lv_iconst (v := 3) hx hb d_L_law_1262 (by decide) ?_
  refine lv_iadd hx hb d_L_law_1263 ?_
  refine va_sld hx hb hX hbl hbA hm.2.2 (vin (k := 3) (by omega) hL (by decide)) d_L_law_1264 ?_
  refine lv_aload_n hx hb d_L_law_1265 rfl (lv_at hl 0 rfl) ?_
  refine lv_iload_n hx hb d_L_law_1266 rfl (lv_at hl 3 rfl) ?_
  refine lv_iconst (v := 4) hx hb d_L_law_1267 (by decide) ?_
  refine lv_iadd hx hb d_L_law_1268 ?_
  refine va_sld hx hb hX hbl hbA hm.2.2 (vin (k := 4) (by omega) hL (by decide)) d_L_law_1269 ?_
  refine lv_aload_n hx hb d_L_law_1270 rfl (lv_at hl 0 rfl) ?_
  refine lv_iload_n hx hb d_L_law_1271 rfl (lv_at hl 3 rfl) ?_
  refine lv_iconst (v := 5) hx hb d_L_law_1272 (by decide) ?_
  refine lv_iadd hx hb d_L_law_1273 ?_
  refine va_sld hx hb hX hbl hbA hm.2.2 (vin (k := 5) (by omega) hL (by decide)) d_L_law_1274 ?_
  refine clJ (q := (r, τ')) Cm hm (invV (As := [.int (xs (nI i + 1).toNatClampNeg), .int (xs (nI i + 2).toNatClampNeg), .int (xs (nI i + 3).toNatClampNeg), .int (xs (nI i + 4).toNatClampNeg), .int (xs (nI i + 5).toNatClampNeg)]) Cm (lhw hm) (c_M_shift gm 0 tM_0 (xs (nI i + 1).toNatClampNeg) (xs (nI i + 2).toNatClampNeg) (xs (nI i + 3).toNatClampNeg) (xs (nI i + 4).toNatClampNeg) (xs (nI i + 5).toNatClampNeg) τ (r, τ') e2 l) rfl wc_L_166 nd_M_shift ⟨by decide, by decide⟩ (rc_M Cm (lhw hm) tM_0) rfl hl.1 rfl (Nat.le_of_ble_eq_true rfl) d_L_law_1275 ⟨by decide, by decide⟩) (fun H locs hm => ?_)
  refine lv_icmp_eq (tgt := 1283) hx hb d_L_law_1278 (by decide) (fun _ => ?_) (fun c9 => absurd rfl c9)
  have hz := HV.other (g' := gx) hg.symm hm
  exact K σ' τ' H locs (hR'.le (by omega)) hz
