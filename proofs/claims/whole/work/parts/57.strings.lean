/-! ===== MAKING: a text's length, with no world at hand ===== -/
def B0 : WT := (fun _ => 50, 0, 1)
set_option maxHeartbeats 400000 in
set_option maxRecDepth 20000 in
theorem c_jS_coder0 (g : GX) (c0 : Nat) (hc0 : c0 < 5) (σ : St) (q : Int32) (h : f_jS_coder c0 = some q) (l : Launch) : CT B0 l y_jS_coder (v_jS_coder :: lwG) 1 [.ref (g.2.1 (1000 + c0))] g σ (QI B0 g (q, σ)) := by
  refine mkC (cc := b_jS_coder) (maxL := 1) (ret := (some .byte)) rfl (by decide) rfl (Nat.le_of_ble_eq_true rfl) ?_
  intro p e s m args below meth c A ls C hl hw
  obtain ⟨hx, hb, hr, hml, hown, hts, hK, hE, hA, hlk⟩ := id C
  replace hl : lv_has ls 1 [(0, .ref (g.2.1 (1000 + c0)))] := hl
  obtain ⟨H, hH⟩ : ∃ z, z = s.heap := ⟨_, rfl⟩
  rw [← hH] at hw ⊢
  obtain ⟨locs, hlo⟩ : ∃ z : List Loc, z = [] := ⟨_, rfl⟩
  rw [← hlo] at hw ⊢
  unfold f_jS_coder at h
  refine va_gets hx hb (hE rfl).2.2.2.1 hw.2.2 hown (hts _ wj_38) (fun _ h9 => h9) d_jS_coder_0 ?_
  refine lv_if_eq (tgt := 13) hx hb d_jS_coder_3 (by decide) (fun b1 => ?_) (fun b1 => ?_)
  · replace h := ifp b1 h
    refine lv_iconst (v := 1) hx hb d_jS_coder_13 (by decide) ?_
    exact retN C hw rfl rfl (congrArg (fun z => (z, σ)) (Option.some.inj h)) d_jS_coder_14
  · replace h := ifn b1 h
    refine lv_aload_n hx hb d_jS_coder_6 rfl (lv_at hl 0 rfl) ?_
    refine vk_getf hx hb ((hE rfl).2.2.1.1 c0 hc0).2.1 hw.2.2 hown (hts _ wj_15) (fun _ h9 => h9) d_jS_coder_7 ?_
    refine lv_goto (tgt := 14) hx hb d_jS_coder_10 (by decide) ?_
    exact retN C hw rfl rfl (congrArg (fun z => (z, σ)) (Option.some.inj h)) d_jS_coder_14
set_option maxHeartbeats 400000 in
set_option maxRecDepth 20000 in
theorem c_jS_length0 (g : GX) (c0 : Nat) (hc0 : c0 < 5) (σ : St) (q : Int32) (h : f_jS_length c0 = some q) (l : Launch) : CT B0 l y_jS_length (v_jS_length :: lwG) 2 [.ref (g.2.1 (1000 + c0))] g σ (QI B0 g (q, σ)) := by
  refine mkC (cc := b_jS_length) (maxL := 1) (ret := (some .int)) rfl (by decide) rfl (Nat.le_of_ble_eq_true rfl) ?_
  intro p e s m args below meth c A ls C hl hw
  obtain ⟨hx, hb, hr, hml, hown, hts, hK, hE, hA, hlk⟩ := id C
  replace hl : lv_has ls 1 [(0, .ref (g.2.1 (1000 + c0)))] := hl
  obtain ⟨H, hH⟩ : ∃ z, z = s.heap := ⟨_, rfl⟩
  rw [← hH] at hw ⊢
  obtain ⟨locs, hlo⟩ : ∃ z : List Loc, z = [] := ⟨_, rfl⟩
  rw [← hlo] at hw ⊢
  unfold f_jS_length at h
  refine lv_aload_n hx hb d_jS_length_0 rfl (lv_at hl 0 rfl) ?_
  refine vk_getf hx hb ((hE rfl).2.2.1.1 c0 hc0).2.2.1 hw.2.2 hown (hts _ wj_9) (fun _ h9 => h9) d_jS_length_1 ?_
  refine va_tlen (v := nI (slen c0)) hx hb ((hE rfl).2.2.1.1 c0 hc0).2.2.2 hw.2.2 rfl d_jS_length_4 ?_
  refine lv_aload_n hx hb d_jS_length_5 rfl (lv_at hl 0 rfl) ?_
  refine bnd h (fun q1 k2 h => ?_)
  refine clI0 (v := q1) C hw (invV (As := []) C hw (c_jS_coder0 g c0 hc0 σ q1 k2 l) rfl wc_jS_335 nd_jS_coder ⟨by decide, by decide⟩ (vk_recv (adK := fun i => g.2.1 (1000 + i)) (i := c0) (hE rfl).2.2.1 hc0 hw.2.2) rfl hl.1 rfl (Nat.le_of_ble_eq_true rfl) d_jS_length_6 ⟨Nat.le_refl _, Nat.le_refl _⟩) (fun H locs hw => ?_)
  refine lv_ishr hx hb d_jS_length_9 ?_
  exact retI C hw rfl (congrArg (fun z => (z, σ)) (Option.some.inj h)) d_jS_length_10
theorem clS {g : GX} {A : Nat → Prop} {own : String} {cc : ByteArray} {ret : Option FieldType} {nL : Nat} {p : Program} {l : Launch} {e : Env} {R : Room} {s : State} {m : MethodId} {args : Array Value} {below : List Frame} {meth : Method} {c : Code} {H : Heap} {locs : List Loc} {cells slots : Nat} {Q : State → Prop} {pc : Nat} {ls : Array Slot} {rest : List Value} {ws : va_W} {σ : St} {q : Int32} {st0 : List Value} {a : Array Value} (C : CX BM g A own cc ret nL p s m args meth c) (hw : HV g A s ws H locs) (hr : va_Run p l e R s m args below meth c H locs cells slots 0 0 (F0 m pc ls st0) rest (QI B0 g (q, σ) (va_A (wW B0 g σ) H.size) a) (va_A (wW B0 g σ) H.size))
    (kk : ∀ (H1 : Heap) (locs1 : List Loc), HV g A s ws H1 locs1 → W p l e R s m args below meth c H1 locs1 cells slots Q (F0 m (pc + 3) ls (.int q :: rest))) : W p l e R s m args below meth c H locs cells slots Q (F0 m pc ls st0) := by
  have hno : ∀ (k : Nat) (x : Nat × va_E), (wW B0 g σ)[k]? = some x → False := fun k x h => by cases h
  have hF : ∀ q, va_A (wW B0 g σ) H.size q → A q := by
    rintro q (⟨k, e, h⟩ | h)
    · exact (hno k _ h).elim
    · exact C.2.2.2.2.2.2.2.2.1 q (Nat.le_trans hw.2.2.1 h)
  refine va_calli hr hw.2.2 (fun q _ h => hF q h) hF (fun r u t H1 locs1 ht hvm hp hB hz hk hS => ?_)
  obtain ⟨rfl, -⟩ := hp
  refine kk H1 locs1 ⟨hw.1.kept (fun k x hx => hk x.1 (hw.1 k x hx).lt (fun h => ?_)), hw.2.1, hS⟩
  have hl := (hw.1 k x hx).lt
  rcases h with ⟨k2, e, h⟩ | h
  · exact hno k2 _ h
  · omega
theorem c0w {g : GX} {A : Nat → Prop} {own : String} {cc : ByteArray} {ret : Option FieldType} {nL : Nat} {p : Program} {s : State} {m : MethodId} {args : Array Value} {meth : Method} {c : Code} (C : CX BM g A own cc ret nL p s m args meth c) (hE : E0 g A s s.heap) : CX B0 g A own cc ret nL p s m args meth c := by
  obtain ⟨hx, hb, hr, hml, hown, hts, hK, -, hA, hlk⟩ := C
  exact ⟨hx, hb, hr, hml, hown, hts, hK, fun _ => hE, hA, hlk⟩
theorem h0w {g : GX} {A : Nat → Prop} {s : State} {ws : va_W} {H : Heap} {locs : List Loc} {σ : St} (hw : HV g A s ws H locs) : HW B0 g A s σ H locs := ⟨(fun k q h => by cases h), ⟨(fun i j p q h => by cases h), (fun k q h => by cases h)⟩, hw.2.2⟩
theorem len0 : f_jS_length 0 = some 6 := by decide +kernel
