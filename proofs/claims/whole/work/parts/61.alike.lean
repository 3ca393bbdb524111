/-! ===== THE LAW: how it begins, and its calls ===== -/
theorem Rl.le {N M : Nat} {σ τ : St} (h : Rl N σ τ) (hN : N ≤ M) : Rl M σ τ := by
  obtain ⟨t, d, CL, CLs, s, h⟩ := h
  exact ⟨t, d, CL, CLs, s, h.le hN⟩
theorem RR0 : RR 0 tX tM 0 0 [] [] 0 := by
  have xr : XR tX 1 [] := ⟨by decide, by decide, by decide, by decide, fun i c h => by simp at h⟩
  have z : (0 : Int32) = nI 0 := by decide
  refine ⟨⟨⟨⟨by decide, by decide, by decide, by decide, by decide, by decide⟩, ⟨100, by decide, by decide, by decide⟩, fun i hi => ⟨rfl, rfl, rfl, rfl, rfl, rfl⟩, fun i hi => rfl, fun i hi => absurd hi (Nat.not_lt_zero _), ⟨Or.inl ⟨by decide, by decide⟩, Or.inl ⟨by decide, by decide⟩⟩, Or.inl ⟨rfl, by decide⟩, (fun c hc => absurd hc (by simp)), ?_, xr⟩, by decide, fun i hi => absurd hi (Nat.not_lt_zero _), ⟨by decide, by decide, by decide, by decide⟩, Or.inl ⟨rfl, by decide, rfl⟩⟩, ⟨⟨by decide, by decide, by decide, xr, fun j CL h => by simp at h⟩, ⟨by decide, by decide, by decide, fun i hi => absurd hi (Nat.not_lt_zero _)⟩, ⟨0, 0, by decide, by decide, by decide, by decide, by decide, by decide, fun i hi => ⟨rfl, rfl⟩, fun i hi => rfl, fun i hi => absurd hi (Nat.not_lt_zero _)⟩, Or.inl ⟨by decide, by decide⟩, fun k hk => ?_, ⟨0, by decide, by decide, by decide, fun i hi => absurd hi (Nat.not_lt_zero _)⟩, ?_⟩, fun i hi => ⟨0, by decide, z⟩, fun i hi => ⟨0, by decide, z⟩⟩
  · exact (show (1 < 104 ∧ tagsX.getD 1 50 = 1) by decide)
  · have d6 : ∀ k, k < 6 → vI tX (92 + 2 * k) 0 = -1 ∧ vJ tM 37 k = -1 ∧ vI tX (92 + 2 * k) 1 = nI 0 := by decide
    obtain ⟨q1, q2, q3⟩ := d6 k hk
    exact ⟨-1, 0, Or.inl ⟨rfl, rfl⟩, by decide, q1, q2, q3, z, fun i hi => rfl⟩
  · have d16 : ∀ i, i < 16 → vJ tM 16 i = letA.getD i 0 := by decide
    exact d16
section LAW
variable {B : WT} {g : GX} {A : Nat → Prop} {own : String} {cc : ByteArray} {ret : Option FieldType} {nL : Nat} {p : Program} {l : Launch} {e : Env} {R : Room} {s : State} {m : MethodId} {args : Array Value} {below : List Frame} {meth : Method} {c : Code} {H : Heap} {locs : List Loc} {cells slots : Nat} {Q : State → Prop} {pc : Nat} {ls : Array Slot} {rest : List Value} {σ : St} {w : va_W}
theorem lhw (hw : HV g A s (w ++ wW B g σ) H locs) : HW B g A s σ H locs := by
  have at2 : ∀ (k : Nat) (q : Nat × va_E), (wW B g σ)[k]? = some q → (w ++ wW B g σ)[w.length + k]? = some q := fun k q hq => by rw [List.getElem?_append_right (by omega), Nat.add_sub_cancel_left]; exact hq
  refine ⟨fun k q hk => hw.1 _ q (at2 k q hk), ⟨fun i j x y hx hy hxy => ?_, fun k q hk => hw.2.1.2 _ q (at2 k q hk)⟩, hw.2.2⟩
  have := hw.2.1.1 _ _ x y (at2 i x hx) (at2 j y hy) hxy
  omega
theorem clJ {q : Int32 × St} {st0 : List Value} {a : Array Value} (C : CX B g A own cc ret nL p s m args meth c) (hw : HV g A s (w ++ wW B g σ) H locs) (hr : va_Run p l e R s m args below meth c H locs cells slots 0 0 (F0 m pc ls st0) rest (QI B g q (va_A (wW B g σ) H.size) a) (va_A (wW B g σ) H.size))
    (kk : ∀ (H1 : Heap) (locs1 : List Loc), HV g A s (w ++ wW B g q.2) H1 locs1 → W p l e R s m args below meth c H1 locs1 cells slots Q (F0 m (pc + 3) ls (.int q.1 :: rest))) : W p l e R s m args below meth c H locs cells slots Q (F0 m pc ls st0) := by
  have hF := freeW C (lhw hw)
  refine va_calli hr hw.2.2 (fun q _ h => hF q h) hF (fun r u t H1 locs1 ht hvm hp hB hz hk hS => ?_)
  obtain ⟨rfl, rfl⟩ := hp
  obtain ⟨hP1, -, hD1⟩ := hB
  rw [ht] at hP1
  obtain ⟨j1, j2⟩ := joinV hw.1 hw.2.1 hk hF hP1 hD1
  exact kk H1 locs1 ⟨j1, j2, hS⟩
theorem clJL {q : Int64 × St} {st0 : List Value} {a : Array Value} (C : CX B g A own cc ret nL p s m args meth c) (hw : HV g A s (w ++ wW B g σ) H locs) (hr : va_Run p l e R s m args below meth c H locs cells slots 0 0 (F0 m pc ls st0) rest (QL B g q (va_A (wW B g σ) H.size) a) (va_A (wW B g σ) H.size))
    (kk : ∀ (H1 : Heap) (locs1 : List Loc), HV g A s (w ++ wW B g q.2) H1 locs1 → W p l e R s m args below meth c H1 locs1 cells slots Q (F0 m (pc + 3) ls (.long q.1 :: rest))) : W p l e R s m args below meth c H locs cells slots Q (F0 m pc ls st0) := by
  have hF := freeW C (lhw hw)
  refine va_calll hr hw.2.2 (fun q _ h => hF q h) hF (fun r u t H1 locs1 ht hvm hp hB hz hk hS => ?_)
  obtain ⟨rfl, rfl⟩ := hp
  obtain ⟨hP1, -, hD1⟩ := hB
  rw [ht] at hP1
  obtain ⟨j1, j2⟩ := joinV hw.1 hw.2.1 hk hF hP1 hD1
  exact kk H1 locs1 ⟨j1, j2, hS⟩
end LAW
theorem HV.other {g g' : GX} {A : Nat → Prop} {s : State} {w w' : va_W} {H : Heap} {locs : List Loc} (hg : g'.1 = g.1) (h : HV g A s (w ++ w') H locs) : HV g' A s (w' ++ w) H locs := by
  have h2 : HV g A s (([] ++ w') ++ w) H locs := HV.swap (a := []) (b := w) (c := w') h
  unfold HV at h2 ⊢
  rw [hg]
  exact h2
theorem vin {i k L : Nat} {x : Int32} (h : i + k < L) (hL : L ≤ 3072) (e : x = nI k) : vp_in (nI i + x) L := by
  rw [e, nI_add]
  exact vp_in_nI h (by omega)
theorem cmp_s (x : Int64) : lg_cmp x x = 0 := by
  unfold lg_cmp
  simp
/-- the law's own place: its script, the two worlds' names -/
def LAt (gx gm : GX) (L b : Nat) (xs : Nat → Int32) (p : Program) (s : State) (m : MethodId) (meth : Method) (c : Code) : Prop :=
  CX BX gx (fun q => s.heap.size ≤ q) "LittleLeftLaw" code ret 4 p s m #[Value.ref b] meth c ∧ CX BM gm (fun q => s.heap.size ≤ q) "LittleLeftLaw" code ret 4 p s m #[Value.ref b] meth c ∧ gm.1 = gx.1 ∧ va_X b L xs s s.heap ∧ b < s.heap.size ∧ L ≤ 3072
def LSt (gx gm : GX) (s : State) (σ τ : St) (H : Heap) (locs : List Loc) : Prop := HV gx (fun q => s.heap.size ≤ q) s (wW BM gm τ ++ wW BX gx σ) H locs
