/-! ===== THE LAW: the two makings ===== -/
theorem invIz {g : GX} {A : Nat → Prop} {own : String} {cc : ByteArray} {ret : Option FieldType} {nL : Nat} {p : Program} {l : Launch} {e : Env} {R : Room} {s : State} {m : MethodId} {args : Array Value} {below : List Frame} {meth : Method} {c : Code} {H : Heap} {locs : List Loc} {cells slots : Nat} {pc : Nat} {ls : Array Slot} {rest : List Value} {w : va_W} {y : MethodName} {bytes : ByteArray} {maxL lvy mc ms n index b : Nat} {wsy : List Cond} {As : List Value} {w0 : va_W} {w1 : (Nat → Nat) → va_W} (C : CX BM g A own cc ret nL p s m args meth c) (hE : E0 g A s s.heap) (hZ : ZO s) (hw : HV g A s (w ++ w0) H locs) (hM : CNz l y wsy lvy mc ms (.ref b :: As) g w0 w1) (hws : wsy = Cond.code y bytes maxL none :: lwG) (h1 : Cond.initialized y.cls ∈ lwG) (h2 : Cond.methodLink own index y ∈ lwG) (h3 : Cond.instanceMethod y ∈ lwG) (h4 : Cond.code y bytes maxL none ∈ lwG) (hy : y.name = "<init>")
    (hd : y.cls ≠ "java/lang/invoke/MethodHandle" ∧ y.cls ≠ "java/lang/invoke/VarHandle" ∧ (parseMethodDescriptor y.desc).map (fun d => d.parameters.length) = some n) (hR : lvy + 1 ≤ R.frames ∧ 8 + (maxL + 11) + 64 * lvy ≤ R.locals) (hn : As.length = n) (hsz : ls.size = nL) {st0 : List Value} (hst : st0 = As.reverse ++ .ref b :: rest) (hroom : (rest.map fun v => v.category).sum ≤ 8) (hdg : decode cc pc = .ok (.invokespecial index, 3)) (hf : cells + mc ≤ R.cells ∧ slots + ms ≤ R.slots) :
    va_Run p l e R s m args below meth c H locs cells slots mc ms (F0 m pc ls st0) rest (QN g (va_A w0 H.size) w1 (Value.ref b :: As).toArray) (va_A w0 H.size) := by
  obtain ⟨-, hp1, hp2⟩ := preN (vs := .ref b :: As) C hE hw
  subst hws
  have hts := C.2.2.2.2.2.1
  refine va_runI (As := As) (rest := rest) ⟨C.1, C.2.1, C.2.2.2.1, C.2.2.2.2.1, hts⟩ (hM H.size) (cwI n hts (goodOf (fun w hw => by
      rcases List.mem_cons.mp hw with h | h
      · rw [h]; exact h4
      · exact h)) rfl rfl rfl (hts _ h1) (hts _ h2) (hts _ h3) hy hd hR) ⟨fun a U g2 mk q => ?_, fun U hU hW => ?_⟩ rfl hn hsz hst (lv_room hroom) hdg hf
  · obtain ⟨q0, q1, q2⟩ := q
    obtain ⟨r0, r1⟩ := hp1 a U g2 mk ⟨q0, q1⟩
    exact ⟨r0, r1, q2.moved (u := U) (U := U.calling g2 mk a) (Vm.Alike.refl U.vm)⟩
  · obtain ⟨r0, r1⟩ := hp2 U hU hW
    exact ⟨r0, r1, hZ.moved hW.alike⟩
theorem E0_gX {g : GX} {A : Nat → Prop} {U : State} {H : Heap} {h : Nat} {u : Nat → Nat} (hE : E0 g A U H) : E0 (gX g h u) A U H := by
  have e : ∀ c, 104 ≤ c → (gX g h u).2.1 c = g.2.1 c := fun c hc => by
    show (if c = 0 then h else if c < 104 then u c else g.2.1 c) = g.2.1 c
    rw [if_neg (by omega), if_neg (by omega)]
  obtain ⟨h1, h2, h3, h4, h5, h6, h7⟩ := hE
  unfold E0
  rw [e 3000 (by decide)]
  have f1 : (fun i => (gX g h u).2.1 (1000 + i)) = fun i => g.2.1 (1000 + i) := by funext i; exact e _ (by omega)
  have f2 : (fun i => (gX g h u).2.1 (2000 + i)) = fun i => g.2.1 (2000 + i) := by funext i; exact e _ (by omega)
  rw [f1, f2]
  exact ⟨h1, fun q hq => by rw [e _ (by omega)]; exact h2 q hq, h3, h4, h5, h6, h7⟩
