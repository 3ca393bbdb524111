/-! ===== THE LAW: each call of a script ===== -/
set_option maxHeartbeats 1000000 in
set_option maxRecDepth 20000 in
theorem lc_0 {gx gm : GX} {b L : Nat} {xs : Nat → Int32} {p : Program} {l : Launch} {e : Env} {s : State} {m : MethodId} {below : List Frame} {meth : Method} {c : Code} {H : Heap} {locs : List Loc} {Q : State → Prop} {ls : Array Slot} {σ τ : St} {i N : Nat} (X : LAt gx gm L b xs p s m meth c) (hi : i + 6 ≤ L) (hN : N ≤ 100000) (hR : Rl N σ τ) (hw : LSt gx gm s σ τ H locs) (hl : lv_has ls 4 [(0, .ref b), (1, .ref (gx.2.1 0)), (2, .ref (gm.2.1 0)), (3, .int (nI i))])
    (K : ∀ (σ' τ' : St) (H1 : Heap) (locs1 : List Loc), Rl (N + 14) σ' τ' → LSt gx gm s σ' τ' H1 locs1 → W p l e room_1 s m #[Value.ref b] below meth c H1 locs1 145 3915 Q (F0 m 1283 ls [])) : W p l e room_1 s m #[Value.ref b] below meth c H locs 145 3915 Q (F0 m 192 ls []) := by
  obtain ⟨Cx, Cm, hg, hX, hbl, hL⟩ := X
  have hbA : ¬ (fun q : Nat => s.heap.size ≤ q) b := Nat.not_le.mpr hbl
  have hx := Cx.1
  have hb := Cx.2.1
  have hown := Cx.2.2.2.2.1
  have hts := Cx.2.2.2.2.2.1
  obtain ⟨t, d, CL, CLs, s9, hRR⟩ := hR
  obtain ⟨r, σ', τ', e1, e2, hR'⟩ := op_taker hRR (xs (nI i + 1).toNatClampNeg) (xs (nI i + 2).toNatClampNeg) (xs (nI i + 3).toNatClampNeg)
  refine lv_aload_n hx hb d_L_law_192 rfl (lv_at hl 1 rfl) ?_
  refine lv_aload_n hx hb d_L_law_193 rfl (lv_at hl 0 rfl) ?_
  refine lv_iload_n hx hb d_L_law_194 rfl (lv_at hl 3 rfl) ?_
  refine lv_iconst (v := 1) hx hb d_L_law_195 (by decide) ?_
  refine lv_iadd hx hb d_L_law_196 ?_
  refine va_sld hx hb hX hbl hbA hw.2.2 (vin (k := 1) (by omega) hL (by decide)) d_L_law_197 ?_
  refine lv_aload_n hx hb d_L_law_198 rfl (lv_at hl 0 rfl) ?_
  refine lv_iload_n hx hb d_L_law_199 rfl (lv_at hl 3 rfl) ?_
  refine lv_iconst (v := 2) hx hb d_L_law_200 (by decide) ?_
  refine lv_iadd hx hb d_L_law_201 ?_
  refine va_sld hx hb hX hbl hbA hw.2.2 (vin (k := 2) (by omega) hL (by decide)) d_L_law_202 ?_
  refine lv_aload_n hx hb d_L_law_203 rfl (lv_at hl 0 rfl) ?_
  refine lv_iload_n hx hb d_L_law_204 rfl (lv_at hl 3 rfl) ?_
  refine lv_iconst (v := 3) hx hb d_L_law_205 (by decide) ?_
  refine lv_iadd hx hb d_L_law_206 ?_
  refine va_sld hx hb hX hbl hbA hw.2.2 (vin (k := 3) (by omega) hL (by decide)) d_L_law_207 ?_
  refine clJ (q := (r, σ')) Cx hw (invV (As := [.int (xs (nI i + 1).toNatClampNeg), .int (xs (nI i + 2).toNatClampNeg), .int (xs (nI i + 3).toNatClampNeg)]) Cx (lhw hw) (c_X_taker gx 0 tX_0 (xs (nI i + 1).toNatClampNeg) (xs (nI i + 2).toNatClampNeg) (xs (nI i + 3).toNatClampNeg) σ (r, σ') e1 l) rfl wc_L_13 nd_X_taker ⟨by decide, by decide⟩ (rc_X Cx (lhw hw) tX_0) rfl hl.1 rfl (Nat.le_of_ble_eq_true rfl) d_L_law_208 ⟨by decide, by decide⟩) (fun H locs hw => ?_)
  replace hw := HV.other (g' := gm) hg hw
  have hm := hw
  refine lv_aload_n hx hb d_L_law_211 rfl (lv_at hl 2 rfl) ?_
  refine lv_aload_n hx hb d_L_law_212 rfl (lv_at hl 0 rfl) ?_
  refine lv_iload_n hx hb d_L_law_213 rfl (lv_at hl 3 rfl) ?_
  refine lv_iconst (v := 1) hx hb d_L_law_214 (by decide) ?_
  refine lv_iadd hx hb d_L_law_215 ?_
  refine va_sld hx hb hX hbl hbA hm.2.2 (vin (k := 1) (by omega) hL (by decide)) d_L_law_216 ?_
  refine lv_aload_n hx hb d_L_law_217 rfl (lv_at hl 0 rfl) ?_
  refine lv_iload_n hx hb d_L_law_218 rfl (lv_at hl 3 rfl) ?_
  refine lv_iconst (v := 2) hx hb d_L_law_219 (by decide) ?_
  refine lv_iadd hx hb d_L_law_220 ?_
  refine va_sld hx hb hX hbl hbA hm.2.2 (vin (k := 2) (by omega) hL (by decide)) d_L_law_221 ?_
  refine lv_aload_n hx hb d_L_law_222 rfl (lv_at hl 0 rfl) ?_
  refine lv_iload_n hx hb d_L_law_223 rfl (lv_at hl 3 rfl) ?_
  refine lv_iconst (v := 3) hx hb d_L_law_224 (by decide) ?_
  refine lv_iadd hx hb d_L_law_225 ?_
  refine va_sld hx hb hX hbl hbA hm.2.2 (vin (k := 3) (by omega) hL (by decide)) d_L_law_226 ?_
  refine clJ (q := (r, τ')) Cm hm (invV (As := [.int (xs (nI i + 1).toNatClampNeg), .int (xs (nI i + 2).toNatClampNeg), .int (xs (nI i + 3).toNatClampNeg)]) Cm (lhw hm) (c_M_taker gm 0 tM_0 (xs (nI i + 1).toNatClampNeg) (xs (nI i + 2).toNatClampNeg) (xs (nI i + 3).toNatClampNeg) τ (r, τ') e2 l) rfl wc_L_17 nd_M_taker ⟨by decide, by decide⟩ (rc_M Cm (lhw hm) tM_0) rfl hl.1 rfl (Nat.le_of_ble_eq_true rfl) d_L_law_227 ⟨by decide, by decide⟩) (fun H locs hm => ?_)
  refine lv_icmp_eq (tgt := 1283) hx hb d_L_law_230 (by decide) (fun _ => ?_) (fun c9 => absurd rfl c9)
  have hz := HV.other (g' := gx) hg.symm hm
  exact K σ' τ' H locs (hR'.le (by omega)) hz
set_option maxHeartbeats 1000000 in
set_option maxRecDepth 20000 in
theorem lc_1 {gx gm : GX} {b L : Nat} {xs : Nat → Int32} {p : Program} {l : Launch} {e : Env} {s : State} {m : MethodId} {below : List Frame} {meth : Method} {c : Code} {H : Heap} {locs : List Loc} {Q : State → Prop} {ls : Array Slot} {σ τ : St} {i N : Nat} (X : LAt gx gm L b xs p s m meth c) (hi : i + 6 ≤ L) (hN : N ≤ 100000) (hR : Rl N σ τ) (hw : LSt gx gm s σ τ H locs) (hl : lv_has ls 4 [(0, .ref b), (1, .ref (gx.2.1 0)), (2, .ref (gm.2.1 0)), (3, .int (nI i))])
    (K : ∀ (σ' τ' : St) (H1 : Heap) (locs1 : List Loc), Rl (N + 14) σ' τ' → LSt gx gm s σ' τ' H1 locs1 → W p l e room_1 s m #[Value.ref b] below meth c H1 locs1 145 3915 Q (F0 m 1283 ls [])) : W p l e room_1 s m #[Value.ref b] below meth c H locs 145 3915 Q (F0 m 235 ls []) := by
  obtain ⟨Cx, Cm, hg, hX, hbl, hL⟩ := X
  have hbA : ¬ (fun q : Nat => s.heap.size ≤ q) b := Nat.not_le.mpr hbl
  have hx := Cx.1
  have hb := Cx.2.1
  have hown := Cx.2.2.2.2.1
  have hts := Cx.2.2.2.2.2.1
  obtain ⟨t, d, CL, CLs, s9, hRR⟩ := hR
  obtain ⟨r, σ', τ', e1, e2, hR'⟩ := op_of hRR (xs (nI i + 1).toNatClampNeg) (xs (nI i + 2).toNatClampNeg)
  refine lv_aload_n hx hb d_L_law_235 rfl (lv_at hl 1 rfl) ?_
  refine lv_aload_n hx hb d_L_law_236 rfl (lv_at hl 0 rfl) ?_
  refine lv_iload_n hx hb d_L_law_237 rfl (lv_at hl 3 rfl) ?_
  refine lv_iconst (v := 1) hx hb d_L_law_238 (by decide) ?_
  refine lv_iadd hx hb d_L_law_239 ?_
  refine va_sld hx hb hX hbl hbA hw.2.2 (vin (k := 1) (by omega) hL (by decide)) d_L_law_240 ?_
  refine lv_aload_n hx hb d_L_law_241 rfl (lv_at hl 0 rfl) ?_
  refine lv_iload_n hx hb d_L_law_242 rfl (lv_at hl 3 rfl) ?_
  refine lv_iconst (v := 2) hx hb d_L_law_243 (by decide) ?_
  refine lv_iadd hx hb d_L_law_244 ?_
  refine va_sld hx hb hX hbl hbA hw.2.2 (vin (k := 2) (by omega) hL (by decide)) d_L_law_245 ?_
  refine clJ (q := (r, σ')) Cx hw (invV (As := [.int (xs (nI i + 1).toNatClampNeg), .int (xs (nI i + 2).toNatClampNeg)]) Cx (lhw hw) (c_X_of gx 0 tX_0 (xs (nI i + 1).toNatClampNeg) (xs (nI i + 2).toNatClampNeg) σ (r, σ') e1 l) rfl wc_L_18 nd_X_of ⟨by decide, by decide⟩ (rc_X Cx (lhw hw) tX_0) rfl hl.1 rfl (Nat.le_of_ble_eq_true rfl) d_L_law_246 ⟨by decide, by decide⟩) (fun H locs hw => ?_)
  replace hw := HV.other (g' := gm) hg hw
  have hm := hw
  refine lv_aload_n hx hb d_L_law_249 rfl (lv_at hl 2 rfl) ?_
  refine lv_aload_n hx hb d_L_law_250 rfl (lv_at hl 0 rfl) ?_
  refine lv_iload_n hx hb d_L_law_251 rfl (lv_at hl 3 rfl) ?_
  refine lv_iconst (v := 1) hx hb d_L_law_252 (by decide) ?_
  refine lv_iadd hx hb d_L_law_253 ?_
  refine va_sld hx hb hX hbl hbA hm.2.2 (vin (k := 1) (by omega) hL (by decide)) d_L_law_254 ?_
  refine lv_aload_n hx hb d_L_law_255 rfl (lv_at hl 0 rfl) ?_
  refine lv_iload_n hx hb d_L_law_256 rfl (lv_at hl 3 rfl) ?_
  refine lv_iconst (v := 2) hx hb d_L_law_257 (by decide) ?_
  refine lv_iadd hx hb d_L_law_258 ?_
  refine va_sld hx hb hX hbl hbA hm.2.2 (vin (k := 2) (by omega) hL (by decide)) d_L_law_259 ?_
  refine clJ (q := (r, τ')) Cm hm (invV (As := [.int (xs (nI i + 1).toNatClampNeg), .int (xs (nI i + 2).toNatClampNeg)]) Cm (lhw hm) (c_M_of gm 0 tM_0 (xs (nI i + 1).toNatClampNeg) (xs (nI i + 2).toNatClampNeg) τ (r, τ') e2 l) rfl wc_L_22 nd_M_of ⟨by decide, by decide⟩ (rc_M Cm (lhw hm) tM_0) rfl hl.1 rfl (Nat.le_of_ble_eq_true rfl) d_L_law_260 ⟨by decide, by decide⟩) (fun H locs hm => ?_)
  refine lv_icmp_eq (tgt := 1283) hx hb d_L_law_263 (by decide) (fun _ => ?_) (fun c9 => absurd rfl c9)
  have hz := HV.other (g' := gx) hg.symm hm
  exact K σ' τ' H locs (hR'.le (by omega)) hz
set_option maxHeartbeats 1000000 in
set_option maxRecDepth 20000 in
theorem lc_2 {gx gm : GX} {b L : Nat} {xs : Nat → Int32} {p : Program} {l : Launch} {e : Env} {s : State} {m : MethodId} {below : List Frame} {meth : Method} {c : Code} {H : Heap} {locs : List Loc} {Q : State → Prop} {ls : Array Slot} {σ τ : St} {i N : Nat} (X : LAt gx gm L b xs p s m meth c) (hi : i + 6 ≤ L) (hN : N ≤ 100000) (hR : Rl N σ τ) (hw : LSt gx gm s σ τ H locs) (hl : lv_has ls 4 [(0, .ref b), (1, .ref (gx.2.1 0)), (2, .ref (gm.2.1 0)), (3, .int (nI i))])
    (K : ∀ (σ' τ' : St) (H1 : Heap) (locs1 : List Loc), Rl (N + 14) σ' τ' → LSt gx gm s σ' τ' H1 locs1 → W p l e room_1 s m #[Value.ref b] below meth c H1 locs1 145 3915 Q (F0 m 1283 ls [])) : W p l e room_1 s m #[Value.ref b] below meth c H locs 145 3915 Q (F0 m 268 ls []) := by
  obtain ⟨Cx, Cm, hg, hX, hbl, hL⟩ := X
  have hbA : ¬ (fun q : Nat => s.heap.size ≤ q) b := Nat.not_le.mpr hbl
  have hx := Cx.1
  have hb := Cx.2.1
  have hown := Cx.2.2.2.2.1
  have hts := Cx.2.2.2.2.2.1
  obtain ⟨t, d, CL, CLs, s9, hRR⟩ := hR
  obtain ⟨r, σ', τ', e1, e2, hR'⟩ := op_portion hRR (xs (nI i + 1).toNatClampNeg) (xs (nI i + 2).toNatClampNeg)
  refine lv_aload_n hx hb d_L_law_268 rfl (lv_at hl 1 rfl) ?_
  refine lv_aload_n hx hb d_L_law_269 rfl (lv_at hl 0 rfl) ?_
  refine lv_iload_n hx hb d_L_law_270 rfl (lv_at hl 3 rfl) ?_
  refine lv_iconst (v := 1) hx hb d_L_law_271 (by decide) ?_
  refine lv_iadd hx hb d_L_law_272 ?_
  refine va_sld hx hb hX hbl hbA hw.2.2 (vin (k := 1) (by omega) hL (by decide)) d_L_law_273 ?_
  refine lv_aload_n hx hb d_L_law_274 rfl (lv_at hl 0 rfl) ?_
  refine lv_iload_n hx hb d_L_law_275 rfl (lv_at hl 3 rfl) ?_
  refine lv_iconst (v := 2) hx hb d_L_law_276 (by decide) ?_
  refine lv_iadd hx hb d_L_law_277 ?_
  refine va_sld hx hb hX hbl hbA hw.2.2 (vin (k := 2) (by omega) hL (by decide)) d_L_law_278 ?_
  refine clJ (q := (r, σ')) Cx hw (invV (As := [.int (xs (nI i + 1).toNatClampNeg), .int (xs (nI i + 2).toNatClampNeg)]) Cx (lhw hw) (c_X_portion gx 0 tX_0 (xs (nI i + 1).toNatClampNeg) (xs (nI i + 2).toNatClampNeg) σ (r, σ') e1 l) rfl wc_L_23 nd_X_portion ⟨by decide, by decide⟩ (rc_X Cx (lhw hw) tX_0) rfl hl.1 rfl (Nat.le_of_ble_eq_true rfl) d_L_law_279 ⟨by decide, by decide⟩) (fun H locs hw => ?_)
  replace hw := HV.other (g' := gm) hg hw
  have hm := hw
  refine lv_aload_n hx hb d_L_law_282 rfl (lv_at hl 2 rfl) ?_
  refine lv_aload_n hx hb d_L_law_283 rfl (lv_at hl 0 rfl) ?_
  refine lv_iload_n hx hb d_L_law_284 rfl (lv_at hl 3 rfl) ?_
  refine lv_iconst (v := 1) hx hb d_L_law_285 (by decide) ?_
  refine lv_iadd hx hb d_L_law_286 ?_
  refine va_sld hx hb hX hbl hbA hm.2.2 (vin (k := 1) (by omega) hL (by decide)) d_L_law_287 ?_
  refine lv_aload_n hx hb d_L_law_288 rfl (lv_at hl 0 rfl) ?_
  refine lv_iload_n hx hb d_L_law_289 rfl (lv_at hl 3 rfl) ?_
  refine lv_iconst (v := 2) hx hb d_L_law_290 (by decide) ?_
  refine lv_iadd hx hb d_L_law_291 ?_
  refine va_sld hx hb hX hbl hbA hm.2.2 (vin (k := 2) (by omega) hL (by decide)) d_L_law_292 ?_
  refine clJ (q := (r, τ')) Cm hm (invV (As := [.int (xs (nI i + 1).toNatClampNeg), .int (xs (nI i + 2).toNatClampNeg)]) Cm (lhw hm) (c_M_portion gm 0 tM_0 (xs (nI i + 1).toNatClampNeg) (xs (nI i + 2).toNatClampNeg) τ (r, τ') e2 l) rfl wc_L_26 nd_M_portion ⟨by decide, by decide⟩ (rc_M Cm (lhw hm) tM_0) rfl hl.1 rfl (Nat.le_of_ble_eq_true rfl) d_L_law_293 ⟨by decide, by decide⟩) (fun H locs hm => ?_)
  refine lv_icmp_eq (tgt := 1283) hx hb d_L_law_296 (by decide) (fun _ => ?_) (fun c9 => absurd rfl c9)
  have hz := HV.other (g' := gx) hg.symm hm
  exact K σ' τ' H locs (hR'.le (by omega)) hz
set_option maxHeartbeats 1000000 in
set_option maxRecDepth 20000 in
theorem lc_3 {gx gm : GX} {b L : Nat} {xs : Nat → Int32} {p : Program} {l : Launch} {e : Env} {s : State} {m : MethodId} {below : List Frame} {meth : Method} {c : Code} {H : Heap} {locs : List Loc} {Q : State → Prop} {ls : Array Slot} {σ τ : St} {i N : Nat} (X : LAt gx gm L b xs p s m meth c) (hi : i + 6 ≤ L) (hN : N ≤ 100000) (hR : Rl N σ τ) (hw : LSt gx gm s σ τ H locs) (hl : lv_has ls 4 [(0, .ref b), (1, .ref (gx.2.1 0)), (2, .ref (gm.2.1 0)), (3, .int (nI i))])
    (K : ∀ (σ' τ' : St) (H1 : Heap) (locs1 : List Loc), Rl (N + 14) σ' τ' → LSt gx gm s σ' τ' H1 locs1 → W p l e room_1 s m #[Value.ref b] below meth c H1 locs1 145 3915 Q (F0 m 1283 ls [])) : W p l e room_1 s m #[Value.ref b] below meth c H locs 145 3915 Q (F0 m 301 ls []) := by
  obtain ⟨Cx, Cm, hg, hX, hbl, hL⟩ := X
  have hbA : ¬ (fun q : Nat => s.heap.size ≤ q) b := Nat.not_le.mpr hbl
  have hx := Cx.1
  have hb := Cx.2.1
  have hown := Cx.2.2.2.2.1
  have hts := Cx.2.2.2.2.2.1
  obtain ⟨t, d, CL, CLs, s9, hRR⟩ := hR
  obtain ⟨r, σ', τ', e1, e2, hR'⟩ := op_fill hRR (xs (nI i + 1).toNatClampNeg)
  refine lv_aload_n hx hb d_L_law_301 rfl (lv_at hl 1 rfl) ?_
  refine lv_aload_n hx hb d_L_law_302 rfl (lv_at hl 0 rfl) ?_
  refine lv_iload_n hx hb d_L_law_303 rfl (lv_at hl 3 rfl) ?_
  refine lv_iconst (v := 1) hx hb d_L_law_304 (by decide) ?_
  refine lv_iadd hx hb d_L_law_305 ?_
  refine va_sld hx hb hX hbl hbA hw.2.2 (vin (k := 1) (by omega) hL (by decide)) d_L_law_306 ?_
  refine clJ (q := (r, σ')) Cx hw (invV (As := [.int (xs (nI i + 1).toNatClampNeg)]) Cx (lhw hw) (c_X_fill gx 0 tX_0 (xs (nI i + 1).toNatClampNeg) σ (r, σ') e1 l) rfl wc_L_27 nd_X_fill ⟨by decide, by decide⟩ (rc_X Cx (lhw hw) tX_0) rfl hl.1 rfl (Nat.le_of_ble_eq_true rfl) d_L_law_307 ⟨by decide, by decide⟩) (fun H locs hw => ?_)
  replace hw := HV.other (g' := gm) hg hw
  have hm := hw
  refine lv_aload_n hx hb d_L_law_310 rfl (lv_at hl 2 rfl) ?_
  refine lv_aload_n hx hb d_L_law_311 rfl (lv_at hl 0 rfl) ?_
  refine lv_iload_n hx hb d_L_law_312 rfl (lv_at hl 3 rfl) ?_
  refine lv_iconst (v := 1) hx hb d_L_law_313 (by decide) ?_
  refine lv_iadd hx hb d_L_law_314 ?_
  refine va_sld hx hb hX hbl hbA hm.2.2 (vin (k := 1) (by omega) hL (by decide)) d_L_law_315 ?_
  refine clJ (q := (r, τ')) Cm hm (invV (As := [.int (xs (nI i + 1).toNatClampNeg)]) Cm (lhw hm) (c_M_fill gm 0 tM_0 (xs (nI i + 1).toNatClampNeg) τ (r, τ') e2 l) rfl wc_L_31 nd_M_fill ⟨by decide, by decide⟩ (rc_M Cm (lhw hm) tM_0) rfl hl.1 rfl (Nat.le_of_ble_eq_true rfl) d_L_law_316 ⟨by decide, by decide⟩) (fun H locs hm => ?_)
  refine lv_icmp_eq (tgt := 1283) hx hb d_L_law_319 (by decide) (fun _ => ?_) (fun c9 => absurd rfl c9)
  have hz := HV.other (g' := gx) hg.symm hm
  exact K σ' τ' H locs (hR'.le (by omega)) hz
set_option maxHeartbeats 1000000 in
set_option maxRecDepth 20000 in
theorem lc_4 {gx gm : GX} {b L : Nat} {xs : Nat → Int32} {p : Program} {l : Launch} {e : Env} {s : State} {m : MethodId} {below : List Frame} {meth : Method} {c : Code} {H : Heap} {locs : List Loc} {Q : State → Prop} {ls : Array Slot} {σ τ : St} {i N : Nat} (X : LAt gx gm L b xs p s m meth c) (hi : i + 6 ≤ L) (hN : N ≤ 100000) (hR : Rl N σ τ) (hw : LSt gx gm s σ τ H locs) (hl : lv_has ls 4 [(0, .ref b), (1, .ref (gx.2.1 0)), (2, .ref (gm.2.1 0)), (3, .int (nI i))])
    (K : ∀ (σ' τ' : St) (H1 : Heap) (locs1 : List Loc), Rl (N + 14) σ' τ' → LSt gx gm s σ' τ' H1 locs1 → W p l e room_1 s m #[Value.ref b] below meth c H1 locs1 145 3915 Q (F0 m 1283 ls [])) : W p l e room_1 s m #[Value.ref b] below meth c H locs 145 3915 Q (F0 m 324 ls []) := by
  obtain ⟨Cx, Cm, hg, hX, hbl, hL⟩ := X
  have hbA : ¬ (fun q : Nat => s.heap.size ≤ q) b := Nat.not_le.mpr hbl
  have hx := Cx.1
  have hb := Cx.2.1
  have hown := Cx.2.2.2.2.1
  have hts := Cx.2.2.2.2.2.1
  obtain ⟨t, d, CL, CLs, s9, hRR⟩ := hR
  obtain ⟨r, σ', τ', e1, e2, hR'⟩ := op_row hRR (xs (nI i + 1).toNatClampNeg) (xs (nI i + 2).toNatClampNeg) (xs (nI i + 3).toNatClampNeg)
  refine lv_aload_n hx hb d_L_law_324 rfl (lv_at hl 1 rfl) ?_
  refine lv_aload_n hx hb d_L_law_325 rfl (lv_at hl 0 rfl) ?_
  refine lv_iload_n hx hb d_L_law_326 rfl (lv_at hl 3 rfl) ?_
  refine lv_iconst (v := 1) hx hb d_L_law_327 (by decide) ?_
  refine lv_iadd hx hb d_L_law_328 ?_
  refine va_sld hx hb hX hbl hbA hw.2.2 (vin (k := 1) (by omega) hL (by decide)) d_L_law_329 ?_
  refine lv_aload_n hx hb d_L_law_330 rfl (lv_at hl 0 rfl) ?_
  refine lv_iload_n hx hb d_L_law_331 rfl (lv_at hl 3 rfl) ?_
  refine lv_iconst (v := 2) hx hb d_L_law_332 (by decide) ?_
  refine lv_iadd hx hb d_L_law_333 ?_
  refine va_sld hx hb hX hbl hbA hw.2.2 (vin (k := 2) (by omega) hL (by decide)) d_L_law_334 ?_
  refine lv_aload_n hx hb d_L_law_335 rfl (lv_at hl 0 rfl) ?_
  refine lv_iload_n hx hb d_L_law_336 rfl (lv_at hl 3 rfl) ?_
  refine lv_iconst (v := 3) hx hb d_L_law_337 (by decide) ?_
  refine lv_iadd hx hb d_L_law_338 ?_
  refine va_sld hx hb hX hbl hbA hw.2.2 (vin (k := 3) (by omega) hL (by decide)) d_L_law_339 ?_
  refine clJ (q := (r, σ')) Cx hw (invV (As := [.int (xs (nI i + 1).toNatClampNeg), .int (xs (nI i + 2).toNatClampNeg), .int (xs (nI i + 3).toNatClampNeg)]) Cx (lhw hw) (c_X_row gx 0 tX_0 (xs (nI i + 1).toNatClampNeg) (xs (nI i + 2).toNatClampNeg) (xs (nI i + 3).toNatClampNeg) σ (r, σ') e1 l) rfl wc_L_32 nd_X_row ⟨by decide, by decide⟩ (rc_X Cx (lhw hw) tX_0) rfl hl.1 rfl (Nat.le_of_ble_eq_true rfl) d_L_law_340 ⟨by decide, by decide⟩) (fun H locs hw => ?_)
  replace hw := HV.other (g' := gm) hg hw
  have hm := hw
  refine lv_aload_n hx hb d_L_law_343 rfl (lv_at hl 2 rfl) ?_
  refine lv_aload_n hx hb d_L_law_344 rfl (lv_at hl 0 rfl) ?_
  refine lv_iload_n hx hb d_L_law_345 rfl (lv_at hl 3 rfl) ?_
  refine lv_iconst (v := 1) hx hb d_L_law_346 (by decide) ?_
  refine lv_iadd hx hb d_L_law_347 ?_
  refine va_sld hx hb hX hbl hbA hm.2.2 (vin (k := 1) (by omega) hL (by decide)) d_L_law_348 ?_
  refine lv_aload_n hx hb d_L_law_349 rfl (lv_at hl 0 rfl) ?_
  refine lv_iload_n hx hb d_L_law_350 rfl (lv_at hl 3 rfl) ?_
  refine lv_iconst (v := 2) hx hb d_L_law_351 (by decide) ?_
  refine lv_iadd hx hb d_L_law_352 ?_
  refine va_sld hx hb hX hbl hbA hm.2.2 (vin (k := 2) (by omega) hL (by decide)) d_L_law_353 ?_
  refine lv_aload_n hx hb d_L_law_354 rfl (lv_at hl 0 rfl) ?_
  refine lv_iload_n hx hb d_L_law_355 rfl (lv_at hl 3 rfl) ?_
  refine lv_iconst (v := 3) hx hb d_L_law_356 (by decide) ?_
  refine lv_iadd hx hb d_L_law_357 ?_
  refine va_sld hx hb hX hbl hbA hm.2.2 (vin (k := 3) (by omega) hL (by decide)) d_L_law_358 ?_
  refine clJ (q := (r, τ')) Cm hm (invV (As := [.int (xs (nI i + 1).toNatClampNeg), .int (xs (nI i + 2).toNatClampNeg), .int (xs (nI i + 3).toNatClampNeg)]) Cm (lhw hm) (c_M_row gm 0 tM_0 (xs (nI i + 1).toNatClampNeg) (xs (nI i + 2).toNatClampNeg) (xs (nI i + 3).toNatClampNeg) τ (r, τ') e2 l) rfl wc_L_35 nd_M_row ⟨by decide, by decide⟩ (rc_M Cm (lhw hm) tM_0) rfl hl.1 rfl (Nat.le_of_ble_eq_true rfl) d_L_law_359 ⟨by decide, by decide⟩) (fun H locs hm => ?_)
  refine lv_icmp_eq (tgt := 1283) hx hb d_L_law_362 (by decide) (fun _ => ?_) (fun c9 => absurd rfl c9)
  have hz := HV.other (g' := gx) hg.symm hm
  exact K σ' τ' H locs (hR'.le (by omega)) hz
set_option maxHeartbeats 1000000 in
set_option maxRecDepth 20000 in
theorem lc_5 {gx gm : GX} {b L : Nat} {xs : Nat → Int32} {p : Program} {l : Launch} {e : Env} {s : State} {m : MethodId} {below : List Frame} {meth : Method} {c : Code} {H : Heap} {locs : List Loc} {Q : State → Prop} {ls : Array Slot} {σ τ : St} {i N : Nat} (X : LAt gx gm L b xs p s m meth c) (hi : i + 6 ≤ L) (hN : N ≤ 100000) (hR : Rl N σ τ) (hw : LSt gx gm s σ τ H locs) (hl : lv_has ls 4 [(0, .ref b), (1, .ref (gx.2.1 0)), (2, .ref (gm.2.1 0)), (3, .int (nI i))])
    (K : ∀ (σ' τ' : St) (H1 : Heap) (locs1 : List Loc), Rl (N + 14) σ' τ' → LSt gx gm s σ' τ' H1 locs1 → W p l e room_1 s m #[Value.ref b] below meth c H1 locs1 145 3915 Q (F0 m 1283 ls [])) : W p l e room_1 s m #[Value.ref b] below meth c H locs 145 3915 Q (F0 m 367 ls []) := by
  obtain ⟨Cx, Cm, hg, hX, hbl, hL⟩ := X
  have hbA : ¬ (fun q : Nat => s.heap.size ≤ q) b := Nat.not_le.mpr hbl
  have hx := Cx.1
  have hb := Cx.2.1
  have hown := Cx.2.2.2.2.1
  have hts := Cx.2.2.2.2.2.1
  obtain ⟨t, d, CL, CLs, s9, hRR⟩ := hR
  obtain ⟨r, σ', τ', e1, e2, hR'⟩ := op_feed hRR (xs (nI i + 1).toNatClampNeg)
  refine lv_aload_n hx hb d_L_law_367 rfl (lv_at hl 1 rfl) ?_
  refine lv_aload_n hx hb d_L_law_368 rfl (lv_at hl 0 rfl) ?_
  refine lv_iload_n hx hb d_L_law_369 rfl (lv_at hl 3 rfl) ?_
  refine lv_iconst (v := 1) hx hb d_L_law_370 (by decide) ?_
  refine lv_iadd hx hb d_L_law_371 ?_
  refine va_sld hx hb hX hbl hbA hw.2.2 (vin (k := 1) (by omega) hL (by decide)) d_L_law_372 ?_
  refine clJ (q := (r, σ')) Cx hw (invV (As := [.int (xs (nI i + 1).toNatClampNeg)]) Cx (lhw hw) (c_X_feed gx 0 tX_0 (xs (nI i + 1).toNatClampNeg) σ (r, σ') e1 l) rfl wc_L_36 nd_X_feed ⟨by decide, by decide⟩ (rc_X Cx (lhw hw) tX_0) rfl hl.1 rfl (Nat.le_of_ble_eq_true rfl) d_L_law_373 ⟨by decide, by decide⟩) (fun H locs hw => ?_)
  replace hw := HV.other (g' := gm) hg hw
  have hm := hw
  refine lv_aload_n hx hb d_L_law_376 rfl (lv_at hl 2 rfl) ?_
  refine lv_aload_n hx hb d_L_law_377 rfl (lv_at hl 0 rfl) ?_
  refine lv_iload_n hx hb d_L_law_378 rfl (lv_at hl 3 rfl) ?_
  refine lv_iconst (v := 1) hx hb d_L_law_379 (by decide) ?_
  refine lv_iadd hx hb d_L_law_380 ?_
  refine va_sld hx hb hX hbl hbA hm.2.2 (vin (k := 1) (by omega) hL (by decide)) d_L_law_381 ?_
  refine clJ (q := (r, τ')) Cm hm (invV (As := [.int (xs (nI i + 1).toNatClampNeg)]) Cm (lhw hm) (c_M_feed gm 0 tM_0 (xs (nI i + 1).toNatClampNeg) τ (r, τ') e2 l) rfl wc_L_39 nd_M_feed ⟨by decide, by decide⟩ (rc_M Cm (lhw hm) tM_0) rfl hl.1 rfl (Nat.le_of_ble_eq_true rfl) d_L_law_382 ⟨by decide, by decide⟩) (fun H locs hm => ?_)
  refine lv_icmp_eq (tgt := 1283) hx hb d_L_law_385 (by decide) (fun _ => ?_) (fun c9 => absurd rfl c9)
  have hz := HV.other (g' := gx) hg.symm hm
  exact K σ' τ' H locs (hR'.le (by omega)) hz
set_option maxHeartbeats 1000000 in
set_option maxRecDepth 20000 in
theorem lc_6 {gx gm : GX} {b L : Nat} {xs : Nat → Int32} {p : Program} {l : Launch} {e : Env} {s : State} {m : MethodId} {below : List Frame} {meth : Method} {c : Code} {H : Heap} {locs : List Loc} {Q : State → Prop} {ls : Array Slot} {σ τ : St} {i N : Nat} (X : LAt gx gm L b xs p s m meth c) (hi : i + 6 ≤ L) (hN : N ≤ 100000) (hR : Rl N σ τ) (hw : LSt gx gm s σ τ H locs) (hl : lv_has ls 4 [(0, .ref b), (1, .ref (gx.2.1 0)), (2, .ref (gm.2.1 0)), (3, .int (nI i))])
    (K : ∀ (σ' τ' : St) (H1 : Heap) (locs1 : List Loc), Rl (N + 14) σ' τ' → LSt gx gm s σ' τ' H1 locs1 → W p l e room_1 s m #[Value.ref b] below meth c H1 locs1 145 3915 Q (F0 m 1283 ls [])) : W p l e room_1 s m #[Value.ref b] below meth c H locs 145 3915 Q (F0 m 390 ls []) := by
  obtain ⟨Cx, Cm, hg, hX, hbl, hL⟩ := X
  have hbA : ¬ (fun q : Nat => s.heap.size ≤ q) b := Nat.not_le.mpr hbl
  have hx := Cx.1
  have hb := Cx.2.1
  have hown := Cx.2.2.2.2.1
  have hts := Cx.2.2.2.2.2.1
  obtain ⟨t, d, CL, CLs, s9, hRR⟩ := hR
  obtain ⟨r, σ', τ', e1, e2, hR'⟩ := op_rule hRR 
  refine lv_aload_n hx hb d_L_law_390 rfl (lv_at hl 1 rfl) ?_
  refine clJ (q := (r, σ')) Cx hw (invV (As := []) Cx (lhw hw) (c_X_rule gx 0 tX_0  σ (r, σ') e1 l) rfl wc_L_40 nd_X_rule ⟨by decide, by decide⟩ (rc_X Cx (lhw hw) tX_0) rfl hl.1 rfl (Nat.le_of_ble_eq_true rfl) d_L_law_391 ⟨by decide, by decide⟩) (fun H locs hw => ?_)
  replace hw := HV.other (g' := gm) hg hw
  have hm := hw
  refine lv_aload_n hx hb d_L_law_394 rfl (lv_at hl 2 rfl) ?_
  refine clJ (q := (r, τ')) Cm hm (invV (As := []) Cm (lhw hm) (c_M_rule gm 0 tM_0  τ (r, τ') e2 l) rfl wc_L_44 nd_M_rule ⟨by decide, by decide⟩ (rc_M Cm (lhw hm) tM_0) rfl hl.1 rfl (Nat.le_of_ble_eq_true rfl) d_L_law_395 ⟨by decide, by decide⟩) (fun H locs hm => ?_)
  refine lv_icmp_eq (tgt := 1283) hx hb d_L_law_398 (by decide) (fun _ => ?_) (fun c9 => absurd rfl c9)
  have hz := HV.other (g' := gx) hg.symm hm
  exact K σ' τ' H locs (hR'.le (by omega)) hz
set_option maxHeartbeats 1000000 in
set_option maxRecDepth 20000 in
theorem lc_7 {gx gm : GX} {b L : Nat} {xs : Nat → Int32} {p : Program} {l : Launch} {e : Env} {s : State} {m : MethodId} {below : List Frame} {meth : Method} {c : Code} {H : Heap} {locs : List Loc} {Q : State → Prop} {ls : Array Slot} {σ τ : St} {i N : Nat} (X : LAt gx gm L b xs p s m meth c) (hi : i + 6 ≤ L) (hN : N ≤ 100000) (hR : Rl N σ τ) (hw : LSt gx gm s σ τ H locs) (hl : lv_has ls 4 [(0, .ref b), (1, .ref (gx.2.1 0)), (2, .ref (gm.2.1 0)), (3, .int (nI i))])
    (K : ∀ (σ' τ' : St) (H1 : Heap) (locs1 : List Loc), Rl (N + 14) σ' τ' → LSt gx gm s σ' τ' H1 locs1 → W p l e room_1 s m #[Value.ref b] below meth c H1 locs1 145 3915 Q (F0 m 1283 ls [])) : W p l e room_1 s m #[Value.ref b] below meth c H locs 145 3915 Q (F0 m 403 ls []) := by
  obtain ⟨Cx, Cm, hg, hX, hbl, hL⟩ := X
  have hbA : ¬ (fun q : Nat => s.heap.size ≤ q) b := Nat.not_le.mpr hbl
  have hx := Cx.1
  have hb := Cx.2.1
  have hown := Cx.2.2.2.2.1
  have hts := Cx.2.2.2.2.2.1
  obtain ⟨t, d, CL, CLs, s9, hRR⟩ := hR
  obtain ⟨r, e1, e2⟩ := op_told hRR (xs (nI i + 1).toNatClampNeg)
  refine lv_aload_n hx hb d_L_law_403 rfl (lv_at hl 1 rfl) ?_
  refine lv_aload_n hx hb d_L_law_404 rfl (lv_at hl 0 rfl) ?_
  refine lv_iload_n hx hb d_L_law_405 rfl (lv_at hl 3 rfl) ?_
  refine lv_iconst (v := 1) hx hb d_L_law_406 (by decide) ?_
  refine lv_iadd hx hb d_L_law_407 ?_
  refine va_sld hx hb hX hbl hbA hw.2.2 (vin (k := 1) (by omega) hL (by decide)) d_L_law_408 ?_
  refine clJ (q := (r, σ)) Cx hw (invV (As := [.int (xs (nI i + 1).toNatClampNeg)]) Cx (lhw hw) (c_X_told gx 0 tX_0 (xs (nI i + 1).toNatClampNeg) σ r e1 l) rfl wc_L_45 nd_X_told ⟨by decide, by decide⟩ (rc_X Cx (lhw hw) tX_0) rfl hl.1 rfl (Nat.le_of_ble_eq_true rfl) d_L_law_409 ⟨by decide, by decide⟩) (fun H locs hw => ?_)
  replace hw := HV.other (g' := gm) hg hw
  have hm := hw
  refine lv_aload_n hx hb d_L_law_412 rfl (lv_at hl 2 rfl) ?_
  refine lv_aload_n hx hb d_L_law_413 rfl (lv_at hl 0 rfl) ?_
  refine lv_iload_n hx hb d_L_law_414 rfl (lv_at hl 3 rfl) ?_
  refine lv_iconst (v := 1) hx hb d_L_law_415 (by decide) ?_
  refine lv_iadd hx hb d_L_law_416 ?_
  refine va_sld hx hb hX hbl hbA hm.2.2 (vin (k := 1) (by omega) hL (by decide)) d_L_law_417 ?_
  refine clJ (q := (r, τ)) Cm hm (invV (As := [.int (xs (nI i + 1).toNatClampNeg)]) Cm (lhw hm) (c_M_told gm 0 tM_0 (xs (nI i + 1).toNatClampNeg) τ r e2 l) rfl wc_L_48 nd_M_told ⟨by decide, by decide⟩ (rc_M Cm (lhw hm) tM_0) rfl hl.1 rfl (Nat.le_of_ble_eq_true rfl) d_L_law_418 ⟨by decide, by decide⟩) (fun H locs hm => ?_)
  refine lv_icmp_eq (tgt := 1283) hx hb d_L_law_421 (by decide) (fun _ => ?_) (fun c9 => absurd rfl c9)
  have hz := HV.other (g' := gx) hg.symm hm
  exact K σ τ H locs ⟨t, d, CL, CLs, s9, hRR.le (by omega)⟩ hz
set_option maxHeartbeats 1000000 in
set_option maxRecDepth 20000 in
theorem lc_8 {gx gm : GX} {b L : Nat} {xs : Nat → Int32} {p : Program} {l : Launch} {e : Env} {s : State} {m : MethodId} {below : List Frame} {meth : Method} {c : Code} {H : Heap} {locs : List Loc} {Q : State → Prop} {ls : Array Slot} {σ τ : St} {i N : Nat} (X : LAt gx gm L b xs p s m meth c) (hi : i + 6 ≤ L) (hN : N ≤ 100000) (hR : Rl N σ τ) (hw : LSt gx gm s σ τ H locs) (hl : lv_has ls 4 [(0, .ref b), (1, .ref (gx.2.1 0)), (2, .ref (gm.2.1 0)), (3, .int (nI i))])
    (K : ∀ (σ' τ' : St) (H1 : Heap) (locs1 : List Loc), Rl (N + 14) σ' τ' → LSt gx gm s σ' τ' H1 locs1 → W p l e room_1 s m #[Value.ref b] below meth c H1 locs1 145 3915 Q (F0 m 1283 ls [])) : W p l e room_1 s m #[Value.ref b] below meth c H locs 145 3915 Q (F0 m 426 ls []) := by
  obtain ⟨Cx, Cm, hg, hX, hbl, hL⟩ := X
  have hbA : ¬ (fun q : Nat => s.heap.size ≤ q) b := Nat.not_le.mpr hbl
  have hx := Cx.1
  have hb := Cx.2.1
  have hown := Cx.2.2.2.2.1
  have hts := Cx.2.2.2.2.2.1
  obtain ⟨t, d, CL, CLs, s9, hRR⟩ := hR
  obtain ⟨r, σ', τ', e1, e2, hR'⟩ := op_takes hRR (xs (nI i + 1).toNatClampNeg)
  refine lv_aload_n hx hb d_L_law_426 rfl (lv_at hl 1 rfl) ?_
  refine lv_aload_n hx hb d_L_law_427 rfl (lv_at hl 0 rfl) ?_
  refine lv_iload_n hx hb d_L_law_428 rfl (lv_at hl 3 rfl) ?_
  refine lv_iconst (v := 1) hx hb d_L_law_429 (by decide) ?_
  refine lv_iadd hx hb d_L_law_430 ?_
  refine va_sld hx hb hX hbl hbA hw.2.2 (vin (k := 1) (by omega) hL (by decide)) d_L_law_431 ?_
  refine clJ (q := (r, σ')) Cx hw (invV (As := [.int (xs (nI i + 1).toNatClampNeg)]) Cx (lhw hw) (c_X_takes gx 0 tX_0 (xs (nI i + 1).toNatClampNeg) σ (r, σ') e1 l) rfl wc_L_49 nd_X_takes ⟨by decide, by decide⟩ (rc_X Cx (lhw hw) tX_0) rfl hl.1 rfl (Nat.le_of_ble_eq_true rfl) d_L_law_432 ⟨by decide, by decide⟩) (fun H locs hw => ?_)
  replace hw := HV.other (g' := gm) hg hw
  have hm := hw
  refine lv_aload_n hx hb d_L_law_435 rfl (lv_at hl 2 rfl) ?_
  refine lv_aload_n hx hb d_L_law_436 rfl (lv_at hl 0 rfl) ?_
  refine lv_iload_n hx hb d_L_law_437 rfl (lv_at hl 3 rfl) ?_
  refine lv_iconst (v := 1) hx hb d_L_law_438 (by decide) ?_
  refine lv_iadd hx hb d_L_law_439 ?_
  refine va_sld hx hb hX hbl hbA hm.2.2 (vin (k := 1) (by omega) hL (by decide)) d_L_law_440 ?_
  refine clJ (q := (r, τ')) Cm hm (invV (As := [.int (xs (nI i + 1).toNatClampNeg)]) Cm (lhw hm) (c_M_takes gm 0 tM_0 (xs (nI i + 1).toNatClampNeg) τ (r, τ') e2 l) rfl wc_L_52 nd_M_takes ⟨by decide, by decide⟩ (rc_M Cm (lhw hm) tM_0) rfl hl.1 rfl (Nat.le_of_ble_eq_true rfl) d_L_law_441 ⟨by decide, by decide⟩) (fun H locs hm => ?_)
  refine lv_icmp_eq (tgt := 1283) hx hb d_L_law_444 (by decide) (fun _ => ?_) (fun c9 => absurd rfl c9)
  have hz := HV.other (g' := gx) hg.symm hm
  exact K σ' τ' H locs (hR'.le (by omega)) hz
set_option maxHeartbeats 1000000 in
set_option maxRecDepth 20000 in
theorem lc_9 {gx gm : GX} {b L : Nat} {xs : Nat → Int32} {p : Program} {l : Launch} {e : Env} {s : State} {m : MethodId} {below : List Frame} {meth : Method} {c : Code} {H : Heap} {locs : List Loc} {Q : State → Prop} {ls : Array Slot} {σ τ : St} {i N : Nat} (X : LAt gx gm L b xs p s m meth c) (hi : i + 6 ≤ L) (hN : N ≤ 100000) (hR : Rl N σ τ) (hw : LSt gx gm s σ τ H locs) (hl : lv_has ls 4 [(0, .ref b), (1, .ref (gx.2.1 0)), (2, .ref (gm.2.1 0)), (3, .int (nI i))])
    (K : ∀ (σ' τ' : St) (H1 : Heap) (locs1 : List Loc), Rl (N + 14) σ' τ' → LSt gx gm s σ' τ' H1 locs1 → W p l e room_1 s m #[Value.ref b] below meth c H1 locs1 145 3915 Q (F0 m 1283 ls [])) : W p l e room_1 s m #[Value.ref b] below meth c H locs 145 3915 Q (F0 m 449 ls []) := by
  obtain ⟨Cx, Cm, hg, hX, hbl, hL⟩ := X
  have hbA : ¬ (fun q : Nat => s.heap.size ≤ q) b := Nat.not_le.mpr hbl
  have hx := Cx.1
  have hb := Cx.2.1
  have hown := Cx.2.2.2.2.1
  have hts := Cx.2.2.2.2.2.1
  obtain ⟨t, d, CL, CLs, s9, hRR⟩ := hR
  obtain ⟨r, σ', τ', e1, e2, hR'⟩ := op_day hRR 
  refine lv_aload_n hx hb d_L_law_449 rfl (lv_at hl 1 rfl) ?_
  refine clJ (q := (r, σ')) Cx hw (invV (As := []) Cx (lhw hw) (c_X_day gx 0 tX_0  σ (r, σ') e1 l) rfl wc_L_53 nd_X_day ⟨by decide, by decide⟩ (rc_X Cx (lhw hw) tX_0) rfl hl.1 rfl (Nat.le_of_ble_eq_true rfl) d_L_law_450 ⟨by decide, by decide⟩) (fun H locs hw => ?_)
  replace hw := HV.other (g' := gm) hg hw
  have hm := hw
  refine lv_aload_n hx hb d_L_law_453 rfl (lv_at hl 2 rfl) ?_
  refine clJ (q := (r, τ')) Cm hm (invV (As := []) Cm (lhw hm) (c_M_day gm 0 tM_0  τ (r, τ') e2 l) rfl wc_L_56 nd_M_day ⟨by decide, by decide⟩ (rc_M Cm (lhw hm) tM_0) rfl hl.1 rfl (Nat.le_of_ble_eq_true rfl) d_L_law_454 ⟨by decide, by decide⟩) (fun H locs hm => ?_)
  refine lv_icmp_eq (tgt := 1283) hx hb d_L_law_457 (by decide) (fun _ => ?_) (fun c9 => absurd rfl c9)
  have hz := HV.other (g' := gx) hg.symm hm
  exact K σ' τ' H locs (hR'.le (by omega)) hz
set_option maxHeartbeats 1000000 in
set_option maxRecDepth 20000 in
theorem lc_10 {gx gm : GX} {b L : Nat} {xs : Nat → Int32} {p : Program} {l : Launch} {e : Env} {s : State} {m : MethodId} {below : List Frame} {meth : Method} {c : Code} {H : Heap} {locs : List Loc} {Q : State → Prop} {ls : Array Slot} {σ τ : St} {i N : Nat} (X : LAt gx gm L b xs p s m meth c) (hi : i + 6 ≤ L) (hN : N ≤ 100000) (hR : Rl N σ τ) (hw : LSt gx gm s σ τ H locs) (hl : lv_has ls 4 [(0, .ref b), (1, .ref (gx.2.1 0)), (2, .ref (gm.2.1 0)), (3, .int (nI i))])
    (K : ∀ (σ' τ' : St) (H1 : Heap) (locs1 : List Loc), Rl (N + 14) σ' τ' → LSt gx gm s σ' τ' H1 locs1 → W p l e room_1 s m #[Value.ref b] below meth c H1 locs1 145 3915 Q (F0 m 1283 ls [])) : W p l e room_1 s m #[Value.ref b] below meth c H locs 145 3915 Q (F0 m 462 ls []) := by
  obtain ⟨Cx, Cm, hg, hX, hbl, hL⟩ := X
  have hbA : ¬ (fun q : Nat => s.heap.size ≤ q) b := Nat.not_le.mpr hbl
  have hx := Cx.1
  have hb := Cx.2.1
  have hown := Cx.2.2.2.2.1
  have hts := Cx.2.2.2.2.2.1
  obtain ⟨t, d, CL, CLs, s9, hRR⟩ := hR
  obtain ⟨r, σ', τ', e1, e2, hR'⟩ := op_on hRR (xs (nI i + 1).toNatClampNeg) (xs (nI i + 2).toNatClampNeg)
  refine lv_aload_n hx hb d_L_law_462 rfl (lv_at hl 1 rfl) ?_
  refine lv_aload_n hx hb d_L_law_463 rfl (lv_at hl 0 rfl) ?_
  refine lv_iload_n hx hb d_L_law_464 rfl (lv_at hl 3 rfl) ?_
  refine lv_iconst (v := 1) hx hb d_L_law_465 (by decide) ?_
  refine lv_iadd hx hb d_L_law_466 ?_
  refine va_sld hx hb hX hbl hbA hw.2.2 (vin (k := 1) (by omega) hL (by decide)) d_L_law_467 ?_
  refine lv_aload_n hx hb d_L_law_468 rfl (lv_at hl 0 rfl) ?_
  refine lv_iload_n hx hb d_L_law_469 rfl (lv_at hl 3 rfl) ?_
  refine lv_iconst (v := 2) hx hb d_L_law_470 (by decide) ?_
  refine lv_iadd hx hb d_L_law_471 ?_
  refine va_sld hx hb hX hbl hbA hw.2.2 (vin (k := 2) (by omega) hL (by decide)) d_L_law_472 ?_
  refine clJ (q := (r, σ')) Cx hw (invV (As := [.int (xs (nI i + 1).toNatClampNeg), .int (xs (nI i + 2).toNatClampNeg)]) Cx (lhw hw) (c_X_on gx 0 tX_0 (xs (nI i + 1).toNatClampNeg) (xs (nI i + 2).toNatClampNeg) σ (r, σ') e1 l) rfl wc_L_57 nd_X_on ⟨by decide, by decide⟩ (rc_X Cx (lhw hw) tX_0) rfl hl.1 rfl (Nat.le_of_ble_eq_true rfl) d_L_law_473 ⟨by decide, by decide⟩) (fun H locs hw => ?_)
  replace hw := HV.other (g' := gm) hg hw
  have hm := hw
  refine lv_aload_n hx hb d_L_law_476 rfl (lv_at hl 2 rfl) ?_
  refine lv_aload_n hx hb d_L_law_477 rfl (lv_at hl 0 rfl) ?_
  refine lv_iload_n hx hb d_L_law_478 rfl (lv_at hl 3 rfl) ?_
  refine lv_iconst (v := 1) hx hb d_L_law_479 (by decide) ?_
  refine lv_iadd hx hb d_L_law_480 ?_
  refine va_sld hx hb hX hbl hbA hm.2.2 (vin (k := 1) (by omega) hL (by decide)) d_L_law_481 ?_
  refine lv_aload_n hx hb d_L_law_482 rfl (lv_at hl 0 rfl) ?_
  refine lv_iload_n hx hb d_L_law_483 rfl (lv_at hl 3 rfl) ?_
  refine lv_iconst (v := 2) hx hb d_L_law_484 (by decide) ?_
  refine lv_iadd hx hb d_L_law_485 ?_
  refine va_sld hx hb hX hbl hbA hm.2.2 (vin (k := 2) (by omega) hL (by decide)) d_L_law_486 ?_
  refine clJ (q := (r, τ')) Cm hm (invV (As := [.int (xs (nI i + 1).toNatClampNeg), .int (xs (nI i + 2).toNatClampNeg)]) Cm (lhw hm) (c_M_on gm 0 tM_0 (xs (nI i + 1).toNatClampNeg) (xs (nI i + 2).toNatClampNeg) τ (r, τ') e2 l) rfl wc_L_60 nd_M_on ⟨by decide, by decide⟩ (rc_M Cm (lhw hm) tM_0) rfl hl.1 rfl (Nat.le_of_ble_eq_true rfl) d_L_law_487 ⟨by decide, by decide⟩) (fun H locs hm => ?_)
  refine lv_icmp_eq (tgt := 1283) hx hb d_L_law_490 (by decide) (fun _ => ?_) (fun c9 => absurd rfl c9)
  have hz := HV.other (g' := gx) hg.symm hm
  exact K σ' τ' H locs (hR'.le (by omega)) hz
set_option maxHeartbeats 1000000 in
set_option maxRecDepth 20000 in
theorem lc_11 {gx gm : GX} {b L : Nat} {xs : Nat → Int32} {p : Program} {l : Launch} {e : Env} {s : State} {m : MethodId} {below : List Frame} {meth : Method} {c : Code} {H : Heap} {locs : List Loc} {Q : State → Prop} {ls : Array Slot} {σ τ : St} {i N : Nat} (X : LAt gx gm L b xs p s m meth c) (hi : i + 6 ≤ L) (hN : N ≤ 100000) (hR : Rl N σ τ) (hw : LSt gx gm s σ τ H locs) (hl : lv_has ls 4 [(0, .ref b), (1, .ref (gx.2.1 0)), (2, .ref (gm.2.1 0)), (3, .int (nI i))])
    (K : ∀ (σ' τ' : St) (H1 : Heap) (locs1 : List Loc), Rl (N + 14) σ' τ' → LSt gx gm s σ' τ' H1 locs1 → W p l e room_1 s m #[Value.ref b] below meth c H1 locs1 145 3915 Q (F0 m 1283 ls [])) : W p l e room_1 s m #[Value.ref b] below meth c H locs 145 3915 Q (F0 m 495 ls []) := by
  obtain ⟨Cx, Cm, hg, hX, hbl, hL⟩ := X
  have hbA : ¬ (fun q : Nat => s.heap.size ≤ q) b := Nat.not_le.mpr hbl
  have hx := Cx.1
  have hb := Cx.2.1
  have hown := Cx.2.2.2.2.1
  have hts := Cx.2.2.2.2.2.1
  obtain ⟨t, d, CL, CLs, s9, hRR⟩ := hR
  obtain ⟨r, σ', τ', e1, e2, hR'⟩ := op_would hRR (xs (nI i + 1).toNatClampNeg) (xs (nI i + 2).toNatClampNeg)
  refine lv_aload_n hx hb d_L_law_495 rfl (lv_at hl 1 rfl) ?_
  refine lv_aload_n hx hb d_L_law_496 rfl (lv_at hl 0 rfl) ?_
  refine lv_iload_n hx hb d_L_law_497 rfl (lv_at hl 3 rfl) ?_
  refine lv_iconst (v := 1) hx hb d_L_law_498 (by decide) ?_
  refine lv_iadd hx hb d_L_law_499 ?_
  refine va_sld hx hb hX hbl hbA hw.2.2 (vin (k := 1) (by omega) hL (by decide)) d_L_law_500 ?_
  refine lv_aload_n hx hb d_L_law_501 rfl (lv_at hl 0 rfl) ?_
  refine lv_iload_n hx hb d_L_law_502 rfl (lv_at hl 3 rfl) ?_
  refine lv_iconst (v := 2) hx hb d_L_law_503 (by decide) ?_
  refine lv_iadd hx hb d_L_law_504 ?_
  refine va_sld hx hb hX hbl hbA hw.2.2 (vin (k := 2) (by omega) hL (by decide)) d_L_law_505 ?_
  refine clJ (q := (r, σ')) Cx hw (invV (As := [.int (xs (nI i + 1).toNatClampNeg), .int (xs (nI i + 2).toNatClampNeg)]) Cx (lhw hw) (c_X_would gx 0 tX_0 (xs (nI i + 1).toNatClampNeg) (xs (nI i + 2).toNatClampNeg) σ (r, σ') e1 l) rfl wc_L_61 nd_X_would ⟨by decide, by decide⟩ (rc_X Cx (lhw hw) tX_0) rfl hl.1 rfl (Nat.le_of_ble_eq_true rfl) d_L_law_506 ⟨by decide, by decide⟩) (fun H locs hw => ?_)
  replace hw := HV.other (g' := gm) hg hw
  have hm := hw
  refine lv_aload_n hx hb d_L_law_509 rfl (lv_at hl 2 rfl) ?_
  refine lv_aload_n hx hb d_L_law_510 rfl (lv_at hl 0 rfl) ?_
  refine lv_iload_n hx hb d_L_law_511 rfl (lv_at hl 3 rfl) ?_
  refine lv_iconst (v := 1) hx hb d_L_law_512 (by decide) ?_
  refine lv_iadd hx hb d_L_law_513 ?_
  refine va_sld hx hb hX hbl hbA hm.2.2 (vin (k := 1) (by omega) hL (by decide)) d_L_law_514 ?_
  refine lv_aload_n hx hb d_L_law_515 rfl (lv_at hl 0 rfl) ?_
  refine lv_iload_n hx hb d_L_law_516 rfl (lv_at hl 3 rfl) ?_
  refine lv_iconst (v := 2) hx hb d_L_law_517 (by decide) ?_
  refine lv_iadd hx hb d_L_law_518 ?_
  refine va_sld hx hb hX hbl hbA hm.2.2 (vin (k := 2) (by omega) hL (by decide)) d_L_law_519 ?_
  refine clJ (q := (r, τ')) Cm hm (invV (As := [.int (xs (nI i + 1).toNatClampNeg), .int (xs (nI i + 2).toNatClampNeg)]) Cm (lhw hm) (c_M_would gm 0 tM_0 (xs (nI i + 1).toNatClampNeg) (xs (nI i + 2).toNatClampNeg) τ (r, τ') e2 l) rfl wc_L_64 nd_M_would ⟨by decide, by decide⟩ (rc_M Cm (lhw hm) tM_0) rfl hl.1 rfl (Nat.le_of_ble_eq_true rfl) d_L_law_520 ⟨by decide, by decide⟩) (fun H locs hm => ?_)
  refine lv_icmp_eq (tgt := 1283) hx hb d_L_law_523 (by decide) (fun _ => ?_) (fun c9 => absurd rfl c9)
  have hz := HV.other (g' := gx) hg.symm hm
  exact K σ' τ' H locs (hR'.le (by omega)) hz
