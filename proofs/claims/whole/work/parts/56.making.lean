/-! ===== MAKING: worlds that grow, as lists ===== -/
def HV (g : GX) (A : Nat → Prop) (s : State) (ws : va_W) (H : Heap) (locs : List Loc) : Prop := va_P g.1 vwCl ws H ∧ va_D A ws ∧ va_S A s.heap H locs
def BN (g : GX) (ws : va_W) (sz : Nat) (U : State) : Prop := U.heap.size = sz ∧ va_P g.1 vwCl ws U.heap ∧ va_K g.1 vwCl (tyW g) U ∧ va_D (fun _ => True) ws ∧ E0 g (va_A ws sz) U U.heap
def atN (g : GX) (A : Nat → Prop) (ws : va_W) (t : State) : Prop := va_P g.1 vwCl ws t.heap ∧ va_K g.1 vwCl (tyW g) t ∧ va_D A ws
def rmN (n mc ms : Nat) : Room := { frames := n, cells := mc, slots := ms, locals := 64 * n }
abbrev QN (g : GX) (A : Nat → Prop) (w1 : (Nat → Nat) → va_W) : Array Value → State → Outcome → State → Prop := va_Qv (fun _ : Nat → Nat => True) (fun u t => atN g A (w1 u) t) A
def CN (l : Launch) (y : MethodName) (ws : List Cond) (lv mc ms : Nat) (av : List Value) (g : GX) (w0 : va_W) (w1 : (Nat → Nat) → va_W) : Prop :=
  ∀ sz : Nat, Met l y ws (rmN lv mc ms) (va_Pc av (BN g w0 sz)) (QN g (va_A w0 sz) w1) mc ms (va_A w0 sz)
theorem mkN {l : Launch} {own : String} {y : MethodName} {cc : ByteArray} {maxL lv mc ms : Nat} {ws : List Cond} {av : List Value} {g : GX} {w0 : va_W} {w1 : (Nat → Nat) → va_W} (hw : ws = Cond.code y cc maxL none :: lwG) (hy : plainName y.cls = true) (ho : y.cls = own) (hin : y.name = "<init>") (hn : (lg_sl av).length ≤ maxL)
    (body : ∀ (p : Program) (e : Env) (s : State) (m : MethodId) (args : Array Value) (below : List Frame) (meth : Method) (c : Code) (A : Nat → Prop) (ls : Array Slot), CX BM g A own cc none maxL p s m args meth c → meth.name = "<init>" → E0 g A s s.heap → lv_has ls maxL (lv_args 0 av) → HV g A s w0 s.heap [] → W p l e (rmN lv mc ms) s m args below meth c s.heap [] 0 0 (MQ below (QN g A w1) args s mc ms A) (F0 m 0 ls [])) : CN l y ws lv mc ms av g w0 w1 := by
  intro sz
  refine Met.ofW (cc := cc) (maxL := maxL) (ret := none) hy hw ?_
  intro p e s m args below meth c s₁ Bd hml hv
  obtain ⟨rfl, hsz, hP, hK, hD0, hE⟩ := hv
  have hts := atoms_spec (ws := ws) Bd.pre
  have hown : s.vm.findClass own = some m.cls := by rw [← ho]; exact findClass_of_methodNamed Bd.named
  subst hsz
  rw [lg_entry_eq]
  exact body p e s m av.toArray below meth c (va_A w0 s.heap.size) _ ⟨Bd.exec, Bd.bytes, Bd.returns, hml, hown, fun w h => hts w (by rw [hw]; exact List.mem_cons_of_mem _ h), hK, (fun h => absurd h (by decide)), fun q h => Or.inr h, Bd.notSynchronized⟩ ((name_of_methodNamed Bd.named Bd.method).1.trans hin) hE (lv_entry av hn) ⟨hP, hD0.self, va_S.rf⟩
theorem joinV {A0 : Nat → Prop} {D : va_G} {cl : List vw_C} {w w0 w1 : va_W} {H H1 : Heap} (hP : va_P D cl (w ++ w0) H) (hD : va_D A0 (w ++ w0)) (hk : ∀ q : Nat, q < H.size → ¬ va_A w0 H.size q → H1[q]? = H[q]?) (hF : ∀ q, va_A w0 H.size q → A0 q) (hP1 : va_P D cl w1 H1) (hD1 : va_D (va_A w0 H.size) w1) : va_P D cl (w ++ w1) H1 ∧ va_D A0 (w ++ w1) := by
  have at1 : ∀ (k : Nat) (q : Nat × va_E), w[k]? = some q → (w ++ w0)[k]? = some q := fun k q hq => by rw [List.getElem?_append_left (List.getElem?_eq_some_iff.mp hq).1]; exact hq
  have at2 : ∀ (k : Nat) (q : Nat × va_E), w0[k]? = some q → (w ++ w0)[w.length + k]? = some q := fun k q hq => by rw [List.getElem?_append_right (by omega), Nat.add_sub_cancel_left]; exact hq
  have apart : ∀ (k : Nat) (q : Nat × va_E), w[k]? = some q → q.1 < H.size ∧ ¬ va_A w0 H.size q.1 := by
    intro k q hq
    have hl := (hP k q (at1 k q hq)).lt
    have hk2 := (List.getElem?_eq_some_iff.mp hq).1
    refine ⟨hl, fun h => ?_⟩
    rcases h with ⟨k2, e, h⟩ | h
    · have := hD.1 k (w.length + k2) q (q.1, e) (at1 k q hq) (at2 k2 _ h) rfl
      omega
    · omega
  refine ⟨va_P.app (fun k q hq => ?_) hP1, va_D.app ⟨fun i j x y hx hy => hD.1 i j x y (at1 i x hx) (at1 j y hy), fun k q hq => hD.2 k q (at1 k q hq)⟩ (hD1.weaken (fun k q _ h => hF q.1 h)) (fun i j x y hx hy hxy => ?_)⟩
  · obtain ⟨g1, g2⟩ := apart k q hq
    exact (hP k q (at1 k q hq)).kept (hk q.1 g1 g2)
  · exact (apart i x hx).2 (by rw [hxy]; exact hD1.2 j y hy)
section MK
variable {g : GX} {A : Nat → Prop} {own : String} {cc : ByteArray} {ret : Option FieldType} {nL : Nat} {p : Program} {l : Launch} {e : Env} {R : Room} {s : State} {m : MethodId} {args : Array Value} {below : List Frame} {meth : Method} {c : Code} {H : Heap} {locs : List Loc} {cells slots : Nat} {Q : State → Prop} {pc : Nat} {ls : Array Slot} {rest : List Value} {ws w : va_W}
theorem HV.eq {ws' : va_W} (h : HV g A s ws H locs) (e : ws' = ws) : HV g A s ws' H locs := by rw [e]; exact h
theorem HV.swap {a b c : va_W} (h : HV g A s ((a ++ b) ++ c) H locs) : HV g A s ((a ++ c) ++ b) H locs := ⟨h.1.swap, h.2.1.swap, h.2.2⟩
theorem putV {ci N index k a : Nat} {T : u_T} {fs : List Value} {v : Value} {ty : FieldType} {ty0 : Nat → FieldType} (C : CX BM g A own cc ret nL p s m args meth c) (hin : meth.name = "<init>") (hw : HV g A s ((a, .inr (ci, fs)) :: w) H locs) (hc : vwCl[ci]? = some (own, T, N)) (hu : ∀ w ∈ u_ws own T N, w ∈ lwG) (hty : ∀ k, k < N → parseFieldDescriptor (T k).2.2.1 = some (ty0 k)) (hnm : ∀ a, a < N → ∀ b, b < N → a ≠ b → (T a).2.1 ≠ (T b).2.1) (hk : k < N) (hlink : Cond.fieldLink own index own (T k).2.1 (T k).2.2.1 ∈ lwG) (hT : (T k).1 = own) (hd : parseFieldDescriptor (T k).2.2.1 = some ty) (hn : narrow ty v = v) (hfit : fits ty v = true) (hl : fs.length = N) (hdg : decode cc pc = .ok (.putfield index, 3))
    (kk : ∀ (fs1 : List Value) (H1 : Heap) (locs1 : List Loc), fs1 = fs.set k v → fs1.length = N → HV g A s ((a, .inr (ci, fs1)) :: w) H1 locs1 → W p l e R s m args below meth c H1 locs1 cells slots Q (F0 m (pc + 3) ls rest)) : W p l e R s m args below meth c H locs cells slots Q (F0 m pc ls (v :: .ref a :: rest)) := by
  obtain ⟨hx, hb, hr, hml, hown, hts, hK, hE, hA, hlk⟩ := C
  obtain ⟨hP, hD, hS⟩ := hw
  have hsame : ∀ x, s.fieldFound? (T k).1 (T k).2.1 (T k).2.2.1 = some x → s.fieldFound? own (T k).2.1 (T k).2.2.1 = some x := fun x h => by rw [← hT]; rw [hT] at h ⊢; exact h
  have hl' : k < fs.length := by rw [hl]; exact hk
  have hl2 : (fs.set k v).length = N := by rw [List.length_set]; exact hl
  cases hfin : (T k).2.2.2 with
  | false => exact va_put (ref := own) hx hb hts hu ty0 hty hnm hown hK hP hD hS 0 rfl hc k hk (hts _ hlink) hsame hfin hd hn hfit hl' hdg (fun H1 locs1 hP1 hD1 hS1 => kk _ H1 locs1 rfl hl2 ⟨hP1, hD1, hS1⟩)
  | true => exact va_putF (ref := own) hx hb hts hu ty0 hty hnm hown hK hP hD hS 0 rfl hc k hk (hts _ hlink) hsame hfin hin hT hd hn hfit hl' hdg (fun H1 locs1 hP1 hD1 hS1 => kk _ H1 locs1 rfl hl2 ⟨hP1, hD1, hS1⟩)
theorem newV {atype : ArrayType} {ty : FieldType} {n : Int32} {N' k : Nat} {cA0 : ClassId} {a0 : vp_A} (C : CX BM g A own cc ret nL p s m args meth c) (hty : newarray.typeOf atype = ty) (hk : (tyW g)[k]? = some (cA0, ty)) (hra : ∀ cA, va_RA s cA ty → va_RA s cA0 ty → cA = cA0) (hwd : Cond.arrayClass ty ∈ lwG) (hw : HV g A s ws H locs) (ha : ∀ cA : ClassId, vp_cell cA a0 = arrV cA N' (fun _ => defaultValue ty)) (hn : ¬ n < 0) (hN : n.toNatClampNeg = N') (hbytes : N' * componentBytes ty ≤ 536870912) (hcells : cells + 1 ≤ R.cells) (hslots : slots + N' ≤ R.slots) (hdg : decode cc pc = .ok (.newarray atype, 2))
    (kk : ∀ (q : Nat) (H1 : Heap), HV g A s (ws ++ [(q, .inl (cA0, a0))]) H1 locs → W p l e R s m args below meth c H1 locs (cells + 1) (slots + N') Q (F0 m (pc + 2) ls (.ref q :: rest))) : W p l e R s m args below meth c H locs cells slots Q (F0 m pc ls (.int n :: rest)) := by
  obtain ⟨hx, hb, hr, hml, hown, hts, hK, hE, hA, hlk⟩ := C
  obtain ⟨hP, hD, hS⟩ := hw
  refine va_newa (atype := atype) (a0 := a0) hx hb (by rw [hty]; exact hts _ hwd) hty hK hP hD hS hA ha hn hN hbytes hcells hslots hdg (fun q cA H1 hK1 hP1 hD1 hS1 => ?_)
  have h1 : va_RA s cA ty := (hK1.2 (tyW g).length (cA, ty) (by rw [List.getElem?_append_right (Nat.le_refl _), Nat.sub_self]; rfl)).2
  have e := hra cA h1 (hK.2 k _ hk).2
  subst e
  exact kk q H1 ⟨hP1, hD1, hS1⟩
theorem newQ {C1 : String} {index : Nat} {n : Int32} {N' k : Nat} {cA0 : ClassId} (C : CX BM g A own cc ret nL p s m args meth c) (hk : (tyW g)[k]? = some (cA0, .object C1)) (hwd : Cond.classLink own index C1 ∈ lwG) (hover : va_AO C1 s) (hw : HV g A s ws H locs) (hn : ¬ n < 0) (hN : n.toNatClampNeg = N') (hbytes : N' * 4 ≤ 536870912) (hcells : cells + 1 ≤ R.cells) (hslots : slots + N' ≤ R.slots) (hdg : decode cc pc = .ok (.anewarray index, 3))
    (kk : ∀ (q : Nat) (H1 : Heap), HV g A s (ws ++ [(q, .inl (cA0, N', .inr (.inr (.inr (.inr (fun _ => none))))))]) H1 locs → W p l e R s m args below meth c H1 locs (cells + 1) (slots + N') Q (F0 m (pc + 3) ls (.ref q :: rest))) : W p l e R s m args below meth c H locs cells slots Q (F0 m pc ls (.int n :: rest)) := by
  obtain ⟨hx, hb, hr, hml, hown, hts, hK, hE, hA, hlk⟩ := C
  obtain ⟨hP, hD, hS⟩ := hw
  refine va_newq hx hb hown (hts _ hwd) hover hK hP hD hS hA hn hN hbytes hcells hslots hdg (fun q cA H1 hK1 hP1 hD1 hS1 => ?_)
  have h1 : va_RA s cA (.object C1) := (hK1.2 (tyW g).length (cA, .object C1) (by rw [List.getElem?_append_right (Nat.le_refl _), Nat.sub_self]; rfl)).2
  obtain ⟨kA, comp, -, -, -, e1⟩ := h1
  obtain ⟨kB, comp2, -, -, -, e2⟩ := (hK.2 k _ hk).2
  have e := Option.some.inj (e1.symm.trans e2)
  subst e
  exact kk q H1 ⟨hP1, hD1, hS1⟩
theorem newO {C1 : String} {T : u_T} {N ci index : Nat} {ty : Nat → FieldType} {fs : List Value} (C : CX BM g A own cc ret nL p s m args meth c) (hc : vwCl[ci]? = some (C1, T, N)) (hu : ∀ w ∈ u_ws C1 T N, w ∈ lwG) (hty : ∀ k, k < N → parseFieldDescriptor (T k).2.2.1 = some (ty k)) (h1 : Cond.classLink own index C1 ∈ lwG) (h2 : Cond.instantiable C1 N ∈ lwG) (h3 : Cond.initialized C1 ∈ lwG) (hw : HV g A s ws H locs) (hfs : ∀ j, j < N → defaultValue (ty j) = vp_V fs j) (hcells : cells + 1 ≤ R.cells) (hslots : slots + N ≤ R.slots) (hdg : decode cc pc = .ok (.new index, 3))
    (kk : ∀ (q : Nat) (H1 : Heap), HV g A s (ws ++ [(q, .inr (ci, fs))]) H1 locs → W p l e R s m args below meth c H1 locs (cells + 1) (slots + N) Q (F0 m (pc + 3) ls (.ref q :: rest))) : W p l e R s m args below meth c H locs cells slots Q (F0 m pc ls rest) := by
  obtain ⟨hx, hb, hr, hml, hown, hts, hK, hE, hA, hlk⟩ := C
  obtain ⟨hP, hD, hS⟩ := hw
  exact va_new hx hb hts hu ty hty hown (hts _ h1) (hts _ h2) (hts _ h3) hK hP hD hS hA hc hfs hcells hslots hdg (fun q H1 hP1 hD1 hS1 => kk q H1 ⟨hP1, hD1, hS1⟩)
/-- a constructor's call: the callee's cells lie last -/
theorem preN {w0 : va_W} {vs : List Value} (C : CX BM g A own cc ret nL p s m args meth c) (hE : E0 g A s s.heap) (hw : HV g A s (w ++ w0) H locs) : (∀ q, va_A w0 H.size q → A q) ∧ FrameBlind (va_Pc vs (BN g w0 H.size)) ∧ ∀ U : State, U.heap = H → s.WarmedH U.vm → va_Pc vs (BN g w0 H.size) vs.toArray U := by
  obtain ⟨hx, hb, hr, hml, hown, hts, hK, -, hA, hlk⟩ := C
  obtain ⟨hP, hD, hS⟩ := hw
  have at2 : ∀ (k : Nat) (q : Nat × va_E), w0[k]? = some q → (w ++ w0)[w.length + k]? = some q := fun k q hq => by rw [List.getElem?_append_right (by omega), Nat.add_sub_cancel_left]; exact hq
  have hF : ∀ q, va_A w0 H.size q → A q := by
    rintro q (⟨k, e, h⟩ | h)
    · exact hD.2 _ _ (at2 k _ h)
    · exact hA q (Nat.le_trans hS.1 h)
  refine ⟨hF, fun a U g2 mk q => ?_, fun U hU hW => ⟨rfl, by rw [hU], by rw [hU]; exact fun k q hk => hP _ q (at2 k q hk), va_K.moved hW.alike hK, ⟨fun i j x y hx hy hxy => ?_, fun _ _ _ => trivial⟩, hE.call hS hF hU hW⟩⟩
  · obtain ⟨q0, q1, qP, qK, qD, qE⟩ := q
    exact ⟨q0, q1, qP, va_K.moved (u := U) (U := U.calling g2 mk a) (Vm.Alike.refl U.vm) qK, qD, qE.frame rfl⟩
  · have := hD.1 _ _ x y (at2 i x hx) (at2 j y hy) hxy
    omega
theorem clN {w0 : va_W} {w1 : (Nat → Nat) → va_W} {st0 : List Value} {a : Array Value} {mc ms : Nat} (C : CX BM g A own cc ret nL p s m args meth c) (hE : E0 g A s s.heap) (hw : HV g A s (w ++ w0) H locs) (hr : va_Run p l e R s m args below meth c H locs cells slots mc ms (F0 m pc ls st0) rest (QN g (va_A w0 H.size) w1 a) (va_A w0 H.size))
    (kk : ∀ (u : Nat → Nat) (H1 : Heap) (locs1 : List Loc), HV g A s (w ++ w1 u) H1 locs1 → W p l e R s m args below meth c H1 locs1 (cells + mc) (slots + ms) Q (F0 m (pc + 3) ls rest)) : W p l e R s m args below meth c H locs cells slots Q (F0 m pc ls st0) := by
  obtain ⟨hF, -, -⟩ := preN (vs := []) C hE hw
  refine va_callv hr hw.2.2 (fun q _ h => hF q h) hF (fun u t H1 locs1 ht hvm hp hB hz hk hS => ?_)
  obtain ⟨hP1, -, hD1⟩ := hB
  rw [ht] at hP1
  obtain ⟨j1, j2⟩ := joinV hw.1 hw.2.1 hk hF hP1 hD1
  exact kk u H1 locs1 ⟨j1, j2, hS⟩
theorem invI {y : MethodName} {bytes : ByteArray} {maxL lvy mc ms n index b : Nat} {wsy : List Cond} {As : List Value} {w0 : va_W} {w1 : (Nat → Nat) → va_W} (C : CX BM g A own cc ret nL p s m args meth c) (hE : E0 g A s s.heap) (hw : HV g A s (w ++ w0) H locs) (hM : CN l y wsy lvy mc ms (.ref b :: As) g w0 w1) (hws : wsy = Cond.code y bytes maxL none :: lwG) (h1 : Cond.initialized y.cls ∈ lwG) (h2 : Cond.methodLink own index y ∈ lwG) (h3 : Cond.instanceMethod y ∈ lwG) (h4 : Cond.code y bytes maxL none ∈ lwG) (hy : y.name = "<init>")
    (hd : y.cls ≠ "java/lang/invoke/MethodHandle" ∧ y.cls ≠ "java/lang/invoke/VarHandle" ∧ (parseMethodDescriptor y.desc).map (fun d => d.parameters.length) = some n) (hR : lvy + 1 ≤ R.frames ∧ 8 + (maxL + 11) + 64 * lvy ≤ R.locals) (hn : As.length = n) (hsz : ls.size = nL) {st0 : List Value} (hst : st0 = As.reverse ++ .ref b :: rest) (hroom : (rest.map fun v => v.category).sum ≤ 8) (hdg : decode cc pc = .ok (.invokespecial index, 3)) (hf : cells + mc ≤ R.cells ∧ slots + ms ≤ R.slots) :
    va_Run p l e R s m args below meth c H locs cells slots mc ms (F0 m pc ls st0) rest (QN g (va_A w0 H.size) w1 (Value.ref b :: As).toArray) (va_A w0 H.size) := by
  obtain ⟨-, hp1, hp2⟩ := preN (vs := .ref b :: As) C hE hw
  subst hws
  have hts := C.2.2.2.2.2.1
  exact va_runI (As := As) (rest := rest) ⟨C.1, C.2.1, C.2.2.2.1, C.2.2.2.2.1, hts⟩ (hM H.size) (cwI n hts (goodOf (fun w hw => by
      rcases List.mem_cons.mp hw with h | h
      · rw [h]; exact h4
      · exact h)) rfl rfl rfl (hts _ h1) (hts _ h2) (hts _ h3) hy hd hR) ⟨hp1, hp2⟩ rfl hn hsz hst (lv_room hroom) hdg hf
theorem invIN {y : MethodName} {bytes : ByteArray} {maxL lvy mc ms n index b : Nat} {wsy : List Cond} {As : List Value} {w0 : va_W} {w1 : (Nat → Nat) → va_W} {host : String} (C : CX BM g A own cc ret nL p s m args meth c) (hE : E0 g A s s.heap) (hw : HV g A s (w ++ w0) H locs) (hM : CN l y wsy lvy mc ms (.ref b :: As) g w0 w1) (hws : wsy = Cond.code y bytes maxL none :: lwG) (h1 : Cond.initialized y.cls ∈ lwG) (h2 : (own, index, y, host) ∈ nestS) (h3 : Cond.instanceMethod y ∈ lwG) (h4 : Cond.code y bytes maxL none ∈ lwG) (hy : y.name = "<init>")
    (hd : y.cls ≠ "java/lang/invoke/MethodHandle" ∧ y.cls ≠ "java/lang/invoke/VarHandle" ∧ (parseMethodDescriptor y.desc).map (fun d => d.parameters.length) = some n) (hR : lvy + 1 ≤ R.frames ∧ 8 + (maxL + 11) + 64 * lvy ≤ R.locals) (hn : As.length = n) (hsz : ls.size = nL) {st0 : List Value} (hst : st0 = As.reverse ++ .ref b :: rest) (hroom : (rest.map fun v => v.category).sum ≤ 8) (hdg : decode cc pc = .ok (.invokespecial index, 3)) (hf : cells + mc ≤ R.cells ∧ slots + ms ≤ R.slots) :
    va_Run p l e R s m args below meth c H locs cells slots mc ms (F0 m pc ls st0) rest (QN g (va_A w0 H.size) w1 (Value.ref b :: As).toArray) (va_A w0 H.size) := by
  obtain ⟨-, hp1, hp2⟩ := preN (vs := .ref b :: As) C hE hw
  subst hws
  have hts := C.2.2.2.2.2.1
  exact va_runIN (As := As) (rest := rest) ⟨C.1, C.2.1, C.2.2.2.1, C.2.2.2.2.1, hts⟩ (hM H.size) ⟨va_cnB n hts (goodOf (fun w hw => by
      rcases List.mem_cons.mp hw with h | h
      · rw [h]; exact h4
      · exact h)) rfl rfl rfl (hE.1 _ h2) (hts _ h1) hd hR, hy, hts _ h3⟩ ⟨hp1, hp2⟩ rfl hn hsz hst (lv_room hroom) hdg hf
theorem retW {w1 : (Nat → Nat) → va_W} {mc ms : Nat} (u : Nat → Nat) (C : CX BM g A own cc none nL p s m args meth c) (hw : HV g A s ws H locs) (hu : w1 u = ws) (hm : cells ≤ mc) (hs : slots ≤ ms) (hdg : decode cc pc = .ok (.return_, 1)) : W p l e R s m args below meth c H locs cells slots (MQ below (QN g A w1) args s mc ms A) (F0 m pc ls []) := by
  obtain ⟨hx, hb, hrt, -, -, -, hK, -, -, hlk⟩ := C
  obtain ⟨hP, hD, hS⟩ := hw
  refine W.widen hm hs ?_
  exact W.vret hx hb hrt (fun t ht hW => ⟨⟨u, rfl, trivial, by rw [ht, hu]; exact hP, va_K.moved hW.alike hK, by rw [hu]; exact hD⟩, hS.F ht⟩) hS.2.2 hdg hlk
/-- a store into the last cell, a row of ints -/
theorem stN {q n : Nat} {f : Nat → Int32} {i x : Int32} (C : CX BM g A own cc ret nL p s m args meth c) (hw : HV g A s (w ++ [(q, .inl (g.2.2 0, n, .inl f))]) H locs) (hi : ok i n = true) (hdg : decode cc pc = .ok (.iastore, 1))
    (kk : ∀ (f1 : Nat → Int32) (H1 : Heap) (locs1 : List Loc), f1 = upd f (nx i) x → HV g A s (w ++ [(q, .inl (g.2.2 0, n, .inl f1))]) H1 locs1 → W p l e R s m args below meth c H1 locs1 cells slots Q (F0 m (pc + 1) ls rest)) : W p l e R s m args below meth c H locs cells slots Q (F0 m pc ls (.int x :: .int i :: .ref q :: rest)) := by
  obtain ⟨hx, hb, hr, hml, hown, hts, hK, hE, hA, hlk⟩ := C
  obtain ⟨hP, hD, hS⟩ := hw
  have e1 : (w ++ [((q, .inl (g.2.2 0, n, .inl f)) : Nat × va_E)])[w.length]? = some (q, .inl (g.2.2 0, n, .inl f)) := by rw [List.getElem?_append_right (Nat.le_refl _), Nat.sub_self]; rfl
  have e2 : (w ++ [((q, .inl (g.2.2 0, n, .inl f)) : Nat × va_E)]).set w.length (q, .inl (g.2.2 0, n, .inl (upd f i.toNatClampNeg x))) = w ++ [(q, .inl (g.2.2 0, n, .inl (upd f i.toNatClampNeg x)))] := by
    rw [List.set_append_right _ _ (Nat.le_refl _), Nat.sub_self]; rfl
  exact va_iast hx hb hK hP hD hS w.length 0 e1 rfl (ok_in hi) hdg (fun H1 locs1 hP1 hD1 hS1 => kk _ H1 locs1 rfl ⟨by rw [← e2]; exact hP1, by rw [← e2]; exact hD1, hS1⟩)
/-- a store of an object into the second cell's row -/
theorem stQ {q n v ci k : Nat} {r : vw_C} {vs : List Value} {f : Nat → Option Nat} {cA : ClassId} {i : Int32} {j : Nat} (C : CX BM g A own cc ret nL p s m args meth c) (hw : HV g A s ws H locs) (hq : ws[j]? = some (q, .inl (cA, n, .inr (.inr (.inr (.inr f)))))) (hk : (tyW g)[k]? = some (cA, .object r.1)) (hv : ∃ qk : Nat, ws[qk]? = some ((v, .inr (ci, vs)) : Nat × va_E)) (hc : vwCl[ci]? = some r) (hi : ok i n = true) (hdg : decode cc pc = .ok (.aastore, 1))
    (kk : ∀ (f1 : Nat → Option Nat) (H1 : Heap) (locs1 : List Loc), f1 = va_up f (nx i) (some v) → HV g A s (ws.set j (q, .inl (cA, n, .inr (.inr (.inr (.inr f1)))))) H1 locs1 → W p l e R s m args below meth c H1 locs1 cells slots Q (F0 m (pc + 1) ls rest)) : W p l e R s m args below meth c H locs cells slots Q (F0 m pc ls (.ref v :: .int i :: .ref q :: rest)) := by
  obtain ⟨hx, hb, hr, hml, hown, hts, hK, hE, hA, hlk⟩ := C
  obtain ⟨hP, hD, hS⟩ := hw
  obtain ⟨qk, hv⟩ := hv
  exact va_astq hx hb hK hP hD hS j k qk ci hq hk hv hc (ok_in hi) hdg (fun H1 locs1 hP1 hD1 hS1 => kk _ H1 locs1 rfl ⟨hP1, hD1, hS1⟩)
theorem getV {ci N index k a : Nat} {T : u_T} {Cn : String} {fs : List Value} {v : Value} {j : Nat} (C : CX BM g A own cc ret nL p s m args meth c) (hw : HV g A s ws H locs) (hj : ws[j]? = some (a, .inr (ci, fs))) (hc : vwCl[ci]? = some (Cn, T, N)) (hu : ∀ w ∈ u_ws Cn T N, w ∈ lwG) (hk : k < N) (hlink : Cond.fieldLink own index Cn (T k).2.1 (T k).2.2.1 ∈ lwG) (hT : (T k).1 = Cn) (hv : fs[k]? = some v) (hdg : decode cc pc = .ok (.getfield index, 3))
    (kk : W p l e R s m args below meth c H locs cells slots Q (F0 m (pc + 3) ls (v :: rest))) : W p l e R s m args below meth c H locs cells slots Q (F0 m pc ls (.ref a :: rest)) := by
  obtain ⟨hx, hb, hr, hml, hown, hts, hK, hE, hA, hlk⟩ := C
  have hsame : ∀ x, s.fieldFound? (T k).1 (T k).2.1 (T k).2.2.1 = some x → s.fieldFound? Cn (T k).2.1 (T k).2.2.1 = some x := fun x h => by rw [hT] at h; exact h
  exact va_get (ref := Cn) hx hb hts hu hown hK hw.1 j hj hc k hk (hts _ hlink) hsame hv hdg kk
theorem lenQ {q n j k : Nat} {f : Nat → Option Nat} {cA : ClassId} {C1 : String} {v : Int32} (C : CX BM g A own cc ret nL p s m args meth c) (hw : HV g A s ws H locs) (hq : ws[j]? = some (q, .inl (cA, n, .inr (.inr (.inr (.inr f)))))) (hk : (tyW g)[k]? = some (cA, .object C1)) (hv : Int32.ofNat n = v) (hdg : decode cc pc = .ok (.arraylength, 1))
    (kk : W p l e R s m args below meth c H locs cells slots Q (F0 m (pc + 1) ls (.int v :: rest))) : W p l e R s m args below meth c H locs cells slots Q (F0 m pc ls (.ref q :: rest)) :=
  va_alen C.1 C.2.1 C.2.2.2.2.2.2.1 hw.1 j k hq hk hv hdg kk
end MK
theorem ra_p {s : State} {cA cB : ClassId} (h1 : va_RA s cA .int) (h2 : va_RA s cB .int) : cA = cB := Option.some.inj (h1.symm.trans h2)
theorem ra_b {s : State} {cA cB : ClassId} (h1 : va_RA s cA .byte) (h2 : va_RA s cB .byte) : cA = cB := Option.some.inj (h1.symm.trans h2)
theorem ra_l {s : State} {cA cB : ClassId} (h1 : va_RA s cA .long) (h2 : va_RA s cB .long) : cA = cB := Option.some.inj (h1.symm.trans h2)
theorem ra_z {s : State} {cA cB : ClassId} (h1 : va_RA s cA .boolean) (h2 : va_RA s cB .boolean) : cA = cB := Option.some.inj (h1.symm.trans h2)
