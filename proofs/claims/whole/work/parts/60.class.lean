/-! ===== MAKING: the class ===== -/
def n1_Ra (g : GX) (u : Nat → Nat) : va_W := [(u 1, .inl (g.2.2 0, 10, .inl (fun _ => 0))), (u 2, .inl (g.2.2 0, 10, .inl (fun _ => 0))), (u 3, .inl (g.2.2 0, 10, .inl (fun _ => 0))), (u 4, .inl (g.2.2 0, 10, .inl (fun _ => 0))), (u 5, .inl (g.2.2 0, 100, .inl (fun _ => 0)))]
def n1_Ka (g : GX) (h r : Nat) (u : Nat → Nat) : va_W := [(h, .inr (1, [.int 0, .ref (u 1), .ref (u 2), .ref (u 3), .ref (u 4), .ref (u 5), .ref (u 6), .ref (u 7), .int 100, .int 0, .ref r, .int 5, .int 200, .int 0, .ref (u 8)])), (u 1, .inl (g.2.2 0, 6, .inl (fun _ => 0))), (u 2, .inl (g.2.2 0, 6, .inl (fun _ => 0))), (u 3, .inl (g.2.2 0, 6, .inl (fun _ => 0))), (u 4, .inl (g.2.2 0, 6, .inl (fun _ => 0))), (u 5, .inl (g.2.2 0, 6, .inl (fun _ => 0))), (u 6, .inl (g.2.2 0, 6, .inl (fun _ => 0))), (u 7, .inl (g.2.2 0, 24, .inl (fun _ => 0))), (u 8, .inl (g.2.2 0, 6, .inl (fun _ => 0)))]
theorem n1_Rs (g : GX) (h : Nat) (u : Nat → Nat) : n1_R g h u = n1_Ra g u ++ [e_R h u] := rfl
theorem n1_Ks (g : GX) (h r : Nat) (v u : Nat → Nat) : n1_K g h r v u = n1_Ka g h r u ++ [e_R r v] := rfl
def iX (c f : Nat) : Int32 := if BX.1 c = 1 then (if f = 7 then 5 else if f = 8 then 200 else 0) else if BX.1 c = 4 then (if f = 8 then 100 else if f = 11 then 5 else if f = 12 then 200 else 0) else if BX.1 c = 16 then (if f = 0 then -1 else 0) else 0
def tX : St := (iX, fun _ _ => 0, fun _ _ => 0, fun c => if c = 84 then 43 else 1)
def gX (g : GX) (h : Nat) (u : Nat → Nat) : GX := (g.1, fun c => if c = 0 then h else if c < 104 then u c else g.2.1 c, g.2.2)
def lX (g : GX) (h : Nat) (u : Nat → Nat) : va_W := [(h, .inr (6, [.ref (u 1), .ref (u 49), .ref (u 58), .ref (u 67), .ref (u 76), .ref (u 80), .int 0, .ref (u 84), .ref (u 86), .int 0, .ref (u 87), .ref (u 88), .ref (u 89), .ref (u 91)])), (u 1, .inr (4, [.int 0, .ref (u 2), .ref (u 3), .ref (u 4), .ref (u 5), .ref (u 6), .int 0, .int 5, .int 200])), (u 2, .inl (g.2.2 0, 10, .inl (fun _ => 0))), (u 3, .inl (g.2.2 0, 10, .inl (fun _ => 0))), (u 4, .inl (g.2.2 0, 10, .inl (fun _ => 0))), (u 5, .inl (g.2.2 0, 10, .inl (fun _ => 0))), (u 6, .inl (g.2.2 0, 100, .inl (fun _ => 0))), (u 7, .inr (4, [.int 0, .ref (u 8), .ref (u 9), .ref (u 10), .ref (u 11), .ref (u 12), .int 0, .int 5, .int 200])), (u 8, .inl (g.2.2 0, 10, .inl (fun _ => 0))), (u 9, .inl (g.2.2 0, 10, .inl (fun _ => 0))), (u 10, .inl (g.2.2 0, 10, .inl (fun _ => 0))), (u 11, .inl (g.2.2 0, 10, .inl (fun _ => 0))), (u 12, .inl (g.2.2 0, 100, .inl (fun _ => 0))), (u 13, .inr (4, [.int 0, .ref (u 14), .ref (u 15), .ref (u 16), .ref (u 17), .ref (u 18), .int 0, .int 5, .int 200])), (u 14, .inl (g.2.2 0, 10, .inl (fun _ => 0))), (u 15, .inl (g.2.2 0, 10, .inl (fun _ => 0))), (u 16, .inl (g.2.2 0, 10, .inl (fun _ => 0))), (u 17, .inl (g.2.2 0, 10, .inl (fun _ => 0))), (u 18, .inl (g.2.2 0, 100, .inl (fun _ => 0))), (u 19, .inr (4, [.int 0, .ref (u 20), .ref (u 21), .ref (u 22), .ref (u 23), .ref (u 24), .int 0, .int 5, .int 200])), (u 20, .inl (g.2.2 0, 10, .inl (fun _ => 0))), (u 21, .inl (g.2.2 0, 10, .inl (fun _ => 0))), (u 22, .inl (g.2.2 0, 10, .inl (fun _ => 0))), (u 23, .inl (g.2.2 0, 10, .inl (fun _ => 0))), (u 24, .inl (g.2.2 0, 100, .inl (fun _ => 0))), (u 25, .inr (4, [.int 0, .ref (u 26), .ref (u 27), .ref (u 28), .ref (u 29), .ref (u 30), .int 0, .int 5, .int 200])), (u 26, .inl (g.2.2 0, 10, .inl (fun _ => 0))), (u 27, .inl (g.2.2 0, 10, .inl (fun _ => 0))), (u 28, .inl (g.2.2 0, 10, .inl (fun _ => 0))), (u 29, .inl (g.2.2 0, 10, .inl (fun _ => 0))), (u 30, .inl (g.2.2 0, 100, .inl (fun _ => 0))), (u 31, .inr (4, [.int 0, .ref (u 32), .ref (u 33), .ref (u 34), .ref (u 35), .ref (u 36), .int 0, .int 5, .int 200])), (u 32, .inl (g.2.2 0, 10, .inl (fun _ => 0))), (u 33, .inl (g.2.2 0, 10, .inl (fun _ => 0))), (u 34, .inl (g.2.2 0, 10, .inl (fun _ => 0))), (u 35, .inl (g.2.2 0, 10, .inl (fun _ => 0))), (u 36, .inl (g.2.2 0, 100, .inl (fun _ => 0))), (u 37, .inr (4, [.int 0, .ref (u 38), .ref (u 39), .ref (u 40), .ref (u 41), .ref (u 42), .int 0, .int 5, .int 200])), (u 38, .inl (g.2.2 0, 10, .inl (fun _ => 0))), (u 39, .inl (g.2.2 0, 10, .inl (fun _ => 0))), (u 40, .inl (g.2.2 0, 10, .inl (fun _ => 0))), (u 41, .inl (g.2.2 0, 10, .inl (fun _ => 0))), (u 42, .inl (g.2.2 0, 100, .inl (fun _ => 0))), (u 43, .inr (4, [.int 0, .ref (u 44), .ref (u 45), .ref (u 46), .ref (u 47), .ref (u 48), .int 0, .int 5, .int 200])), (u 44, .inl (g.2.2 0, 10, .inl (fun _ => 0))), (u 45, .inl (g.2.2 0, 10, .inl (fun _ => 0))), (u 46, .inl (g.2.2 0, 10, .inl (fun _ => 0))), (u 47, .inl (g.2.2 0, 10, .inl (fun _ => 0))), (u 48, .inl (g.2.2 0, 100, .inl (fun _ => 0))), (u 49, .inr (1, [.int 0, .ref (u 50), .ref (u 51), .ref (u 52), .ref (u 53), .ref (u 54), .ref (u 55), .ref (u 56), .int 100, .int 0, .ref (u 1), .int 5, .int 200, .int 0, .ref (u 57)])), (u 50, .inl (g.2.2 0, 6, .inl (fun _ => 0))), (u 51, .inl (g.2.2 0, 6, .inl (fun _ => 0))), (u 52, .inl (g.2.2 0, 6, .inl (fun _ => 0))), (u 53, .inl (g.2.2 0, 6, .inl (fun _ => 0))), (u 54, .inl (g.2.2 0, 6, .inl (fun _ => 0))), (u 55, .inl (g.2.2 0, 6, .inl (fun _ => 0))), (u 56, .inl (g.2.2 0, 24, .inl (fun _ => 0))), (u 57, .inl (g.2.2 0, 6, .inl (fun _ => 0))), (u 58, .inr (1, [.int 0, .ref (u 59), .ref (u 60), .ref (u 61), .ref (u 62), .ref (u 63), .ref (u 64), .ref (u 65), .int 100, .int 0, .ref (u 1), .int 5, .int 200, .int 0, .ref (u 66)])), (u 59, .inl (g.2.2 0, 6, .inl (fun _ => 0))), (u 60, .inl (g.2.2 0, 6, .inl (fun _ => 0))), (u 61, .inl (g.2.2 0, 6, .inl (fun _ => 0))), (u 62, .inl (g.2.2 0, 6, .inl (fun _ => 0))), (u 63, .inl (g.2.2 0, 6, .inl (fun _ => 0))), (u 64, .inl (g.2.2 0, 6, .inl (fun _ => 0))), (u 65, .inl (g.2.2 0, 24, .inl (fun _ => 0))), (u 66, .inl (g.2.2 0, 6, .inl (fun _ => 0))), (u 67, .inr (1, [.int 0, .ref (u 68), .ref (u 69), .ref (u 70), .ref (u 71), .ref (u 72), .ref (u 73), .ref (u 74), .int 100, .int 0, .ref (u 1), .int 5, .int 200, .int 0, .ref (u 75)])), (u 68, .inl (g.2.2 0, 6, .inl (fun _ => 0))), (u 69, .inl (g.2.2 0, 6, .inl (fun _ => 0))), (u 70, .inl (g.2.2 0, 6, .inl (fun _ => 0))), (u 71, .inl (g.2.2 0, 6, .inl (fun _ => 0))), (u 72, .inl (g.2.2 0, 6, .inl (fun _ => 0))), (u 73, .inl (g.2.2 0, 6, .inl (fun _ => 0))), (u 74, .inl (g.2.2 0, 24, .inl (fun _ => 0))), (u 75, .inl (g.2.2 0, 6, .inl (fun _ => 0))), (u 76, .inr (2, [.int 0, .ref (u 77), .ref (u 78), .int 0, .ref (u 79)])), (u 77, .inl (g.2.2 0, 6, .inl (fun _ => 0))), (u 78, .inl (g.2.2 0, 6, .inl (fun _ => 0))), (u 79, .inl (g.2.2 0, 12, .inl (fun _ => 0))), (u 80, .inr (2, [.int 0, .ref (u 81), .ref (u 82), .int 0, .ref (u 83)])), (u 81, .inl (g.2.2 0, 6, .inl (fun _ => 0))), (u 82, .inl (g.2.2 0, 6, .inl (fun _ => 0))), (u 83, .inl (g.2.2 0, 12, .inl (fun _ => 0))), (u 84, .inr (3, [.ref (u 85), .int 0, .int 0, .ref (u 43)])), (u 85, .inl (g.2.2 1, 100, .inl (fun _ => 0))), (u 86, .inl (g.2.2 4, 6, .inr (.inr (.inr (.inr (fun i => some ((gX g h u).2.1 (7 + 6 * i)))))))), (u 87, .inl (g.2.2 0, 5, .inl (fun _ => 0))), (u 88, .inl (g.2.2 0, 5, .inl (fun _ => 0))), (u 89, .inr (0, [.ref (u 90), .int 0, .int 0, .int 0, .int 0])), (u 90, .inl (g.2.2 0, 20, .inl (fun _ => 0))), (u 91, .inl (g.2.2 5, 6, .inr (.inr (.inr (.inr (fun i => some ((gX g h u).2.1 (92 + 2 * i)))))))), (u 92, .inr (5, [.int (-1), .int 0, .ref (u 93)])), (u 93, .inl (g.2.2 2, 60, .inr (.inl (fun _ => 0)))), (u 94, .inr (5, [.int (-1), .int 0, .ref (u 95)])), (u 95, .inl (g.2.2 2, 60, .inr (.inl (fun _ => 0)))), (u 96, .inr (5, [.int (-1), .int 0, .ref (u 97)])), (u 97, .inl (g.2.2 2, 60, .inr (.inl (fun _ => 0)))), (u 98, .inr (5, [.int (-1), .int 0, .ref (u 99)])), (u 99, .inl (g.2.2 2, 60, .inr (.inl (fun _ => 0)))), (u 100, .inr (5, [.int (-1), .int 0, .ref (u 101)])), (u 101, .inl (g.2.2 2, 60, .inr (.inl (fun _ => 0)))), (u 102, .inr (5, [.int (-1), .int 0, .ref (u 103)])), (u 103, .inl (g.2.2 2, 60, .inr (.inl (fun _ => 0))))]
set_option maxRecDepth 100000 in
theorem wX_eq (g : GX) (h : Nat) (u : Nat → Nat) : wW BX (gX g h u) tX = lX g h u := rfl
theorem HV.arrq {g : GX} {A : Nat → Prop} {s : State} {ws : va_W} {H : Heap} {locs : List Loc} {j q n : Nat} {cA : ClassId} {f f' : Nat → Option Nat} (h : HV g A s ws H locs) (hj : ws[j]? = some (q, .inl (cA, n, .inr (.inr (.inr (.inr f)))))) (hf : ∀ i, i < n → f i = f' i) : HV g A s (ws.set j (q, .inl (cA, n, .inr (.inr (.inr (.inr f')))))) H locs := by
  obtain ⟨hP, hD, hS⟩ := h
  refine ⟨fun k x hk => ?_, hD.set hj, hS⟩
  rw [List.getElem?_set] at hk
  by_cases e : j = k
  · subst e
    rw [if_pos rfl, if_pos (List.getElem?_eq_some_iff.mp hj).1] at hk
    cases hk
    have h1 : H[q]? = some (vp_cell cA (n, .inr (.inr (.inr (.inr f))))) := hP j _ hj
    show H[q]? = some (vp_cell cA (n, .inr (.inr (.inr (.inr f')))))
    rw [h1, vp_cell_q, vp_cell_q]
    have e2 : arrV cA n (fun j => va_rf (f j)) = arrV cA n (fun j => va_rf (f' j)) := by
      unfold arrV
      congr 2
      funext z
      exact congrArg va_rf (hf z.val z.isLt)
    rw [e2]
  · rw [if_neg e] at hk
    exact hP k x hk
/-- as CN, and what the tables say of rows of references -/
def ZO (U : State) : Prop := va_AO "LittleLeft$Rule" U ∧ va_AO "LittleLeft$Tape" U
theorem ZO.moved {u U : State} (hvm : u.vm.Alike U.vm) (h : ZO u) : ZO U := ⟨h.1.moved hvm, h.2.moved hvm⟩
def CNz (l : Launch) (y : MethodName) (ws : List Cond) (lv mc ms : Nat) (av : List Value) (g : GX) (w0 : va_W) (w1 : (Nat → Nat) → va_W) : Prop :=
  ∀ sz : Nat, Met l y ws (rmN lv mc ms) (va_Pc av (fun U => BN g w0 sz U ∧ ZO U)) (QN g (va_A w0 sz) w1) mc ms (va_A w0 sz)
theorem mkNz {l : Launch} {own : String} {y : MethodName} {cc : ByteArray} {maxL lv mc ms : Nat} {ws : List Cond} {av : List Value} {g : GX} {w0 : va_W} {w1 : (Nat → Nat) → va_W} (hw : ws = Cond.code y cc maxL none :: lwG) (hy : plainName y.cls = true) (ho : y.cls = own) (hin : y.name = "<init>") (hn : (lg_sl av).length ≤ maxL)
    (body : ∀ (p : Program) (e : Env) (s : State) (m : MethodId) (args : Array Value) (below : List Frame) (meth : Method) (c : Code) (A : Nat → Prop) (ls : Array Slot), CX BM g A own cc none maxL p s m args meth c → meth.name = "<init>" → E0 g A s s.heap → ZO s → lv_has ls maxL (lv_args 0 av) → HV g A s w0 s.heap [] → W p l e (rmN lv mc ms) s m args below meth c s.heap [] 0 0 (MQ below (QN g A w1) args s mc ms A) (F0 m 0 ls [])) : CNz l y ws lv mc ms av g w0 w1 := by
  intro sz
  refine Met.ofW (cc := cc) (maxL := maxL) (ret := none) hy hw ?_
  intro p e s m args below meth c s₁ Bd hml hv
  obtain ⟨rfl, ⟨hsz, hP, hK, hD0, hE⟩, hZ⟩ := hv
  have hts := atoms_spec (ws := ws) Bd.pre
  have hown : s.vm.findClass own = some m.cls := by rw [← ho]; exact findClass_of_methodNamed Bd.named
  subst hsz
  rw [lg_entry_eq]
  exact body p e s m av.toArray below meth c (va_A w0 s.heap.size) _ ⟨Bd.exec, Bd.bytes, Bd.returns, hml, hown, fun w h => hts w (by rw [hw]; exact List.mem_cons_of_mem _ h), hK, (fun h => absurd h (by decide)), fun q h => Or.inr h, Bd.notSynchronized⟩ ((name_of_methodNamed Bd.named Bd.method).1.trans hin) hE hZ (lv_entry av hn) ⟨hP, hD0.self, va_S.rf⟩
set_option maxHeartbeats 1000000 in
set_option maxRecDepth 100000 in
theorem mk_X_init (g : GX) (l : Launch) (h0 : Nat) : CNz l y_X_init (v_X_init :: lwG) 4 103 2022 [.ref h0] g [(h0, .inr (6, [.null, .null, .null, .null, .null, .null, .int 0, .null, .null, .int 0, .null, .null, .null, .null]))] (fun u => lX g h0 u) := by
  refine mkNz (cc := b_X_init) (maxL := 2) rfl (by decide) rfl rfl (Nat.le_of_ble_eq_true rfl) ?_
  intro p e s m args below meth c A ls C hin hE0 hZ0 hl hw
  obtain ⟨hx, hb, hr, hml, hown, hts, hK, hE, hA, hlk⟩ := id C
  replace hl : lv_has ls 2 [(0, .ref h0)] := hl
  obtain ⟨H, hH⟩ : ∃ z, z = s.heap := ⟨_, rfl⟩
  rw [← hH] at hw ⊢
  obtain ⟨locs, hlo⟩ : ∃ z : List Loc, z = [] := ⟨_, rfl⟩
  rw [← hlo] at hw ⊢
  obtain ⟨fs0, efs0⟩ : ∃ z : List Value, z = [.null, .null, .null, .null, .null, .null, .int 0, .null, .null, .int 0, .null, .null, .null, .null] := ⟨_, rfl⟩
  have hfl : fs0.length = 14 := by rw [efs0]; rfl
  obtain ⟨w0, ew0⟩ : ∃ z : va_W, z = [] := ⟨_, rfl⟩
  replace hw : HV g A s ((h0, .inr (6, [.null, .null, .null, .null, .null, .null, .int 0, .null, .null, .int 0, .null, .null, .null, .null])) :: w0) H locs := by rw [ew0]; exact hw
  refine lv_aload_n hx hb d_X_init_0 rfl (lv_at hl 0 rfl) ?_
  refine W.objInit hx hb hown (hts _ wo_X) (hts _ wo_i) (hts _ wo_c) rfl (by rw [hml]; exact hl.1) rfl d_X_init_1 (Nat.le_of_ble_eq_true rfl) (Nat.le_of_ble_eq_true rfl) ?_
  refine W.eq (g2 := F0 m 4 ls []) rfl ?_
  refine lv_aload_n hx hb d_X_init_4 rfl (lv_at hl 0 rfl) ?_
  refine newO (ci := 4) C rfl u_R_in ty_R_ok (inG 25 (by decide +kernel) (by decide +kernel)) wn_R wi_R hw df_R (Nat.le_of_ble_eq_true rfl) (Nat.le_of_ble_eq_true rfl) d_X_init_5 (fun q5_0 H hw => ?_)
  replace hw : HV g A s (((h0, .inr (6, [.null, .null, .null, .null, .null, .null, .int 0, .null, .null, .int 0, .null, .null, .null, .null])) :: w0) ++ [(q5_0, .inr (4, [.int 0, .null, .null, .null, .null, .null, .int 0, .int 0, .int 0]))]) H locs := hw
  refine lv_dup hx hb d_X_init_8 rfl ?_
  refine clN C hE0 hw (invIN (As := []) (host := "LittleLeft") C hE0 hw (mk_R_init g l q5_0) rfl wi_R (List.mem_of_getElem? (i := 0) rfl) wm_R k_R_init rfl nq_R ⟨by decide, by decide⟩ rfl hl.1 rfl (Nat.le_of_ble_eq_true rfl) d_X_init_9 ⟨Nat.le_of_ble_eq_true rfl, Nat.le_of_ble_eq_true rfl⟩) (fun u9_0 H locs hw => ?_)
  obtain ⟨w1, ew1⟩ : ∃ z, z = w0 ++ n1_Ra g u9_0 := ⟨_, rfl⟩
  replace hw : HV g A s ((h0, .inr (6, [.null, .null, .null, .null, .null, .null, .int 0, .null, .null, .int 0, .null, .null, .null, .null])) :: (w1 ++ [e_R q5_0 u9_0])) H locs := hw.eq (by rw [ew1]; show _ = ((h0, .inr (6, [.null, .null, .null, .null, .null, .null, .int 0, .null, .null, .int 0, .null, .null, .null, .null])) :: w0) ++ n1_R g q5_0 u9_0; rw [n1_Rs]; simp only [List.cons_append, List.append_assoc, List.nil_append])
  refine putV (v := .ref q5_0) (k := 0) (ty0 := ty_X) C hin hw rfl u_X_in ty_X_ok n_X (by decide) (inG 236 (by decide +kernel) (by decide +kernel)) rfl rfl (by first | rfl | decide) (by first | rfl | decide) rfl d_X_init_12 (fun fsN H locs efsN hflN hw => ?_)
  replace hw : HV g A s ((h0, .inr (6, [.ref q5_0, .null, .null, .null, .null, .null, .int 0, .null, .null, .int 0, .null, .null, .null, .null])) :: (w1 ++ [e_R q5_0 u9_0])) H locs := by rw [efsN] at hw; exact hw
  clear efsN hflN
  refine lv_aload_n hx hb d_X_init_15 rfl (lv_at hl 0 rfl) ?_
  refine newO (ci := 1) C rfl u_K_in ty_K_ok (inG 62 (by decide +kernel) (by decide +kernel)) wn_K wi_K hw df_K (Nat.le_of_ble_eq_true rfl) (Nat.le_of_ble_eq_true rfl) d_X_init_16 (fun q16_0 H hw => ?_)
  replace hw : HV g A s (((h0, .inr (6, [.ref q5_0, .null, .null, .null, .null, .null, .int 0, .null, .null, .int 0, .null, .null, .null, .null])) :: (w1 ++ [e_R q5_0 u9_0])) ++ [(q16_0, .inr (1, [.int 0, .null, .null, .null, .null, .null, .null, .null, .int 0, .int 0, .null, .int 0, .int 0, .int 0, .null]))]) H locs := hw
  refine lv_dup hx hb d_X_init_19 rfl ?_
  refine lv_aload_n hx hb d_X_init_20 rfl (lv_at hl 0 rfl) ?_
  refine getV (v := .ref q5_0) (j := 0) (k := 0) (T := F_X) (N := 14) (Cn := R_X) C hw rfl rfl u_X_in (by decide) (inG 236 (by decide +kernel) (by decide +kernel)) rfl rfl d_X_init_21 ?_
  replace hw : HV g A s (((h0, .inr (6, [.ref q5_0, .null, .null, .null, .null, .null, .int 0, .null, .null, .int 0, .null, .null, .null, .null])) :: w1) ++ [e_R q5_0 u9_0, (q16_0, .inr (1, [.int 0, .null, .null, .null, .null, .null, .null, .null, .int 0, .int 0, .null, .int 0, .int 0, .int 0, .null]))]) H locs := hw.eq (by simp only [List.cons_append, List.append_assoc, List.nil_append])
  refine clN C hE0 hw (invI (As := [.ref q5_0]) C hE0 hw (mk_K_init g l q16_0 q5_0 u9_0) rfl wi_K (inG 64 (by decide +kernel) (by decide +kernel)) wm_K k_K_init rfl nq_K ⟨by decide, by decide⟩ rfl hl.1 rfl (Nat.le_of_ble_eq_true rfl) d_X_init_24 ⟨Nat.le_of_ble_eq_true rfl, Nat.le_of_ble_eq_true rfl⟩) (fun u24_0 H locs hw => ?_)
  obtain ⟨w2, ew2⟩ : ∃ z, z = w1 ++ n1_Ka g q16_0 q5_0 u24_0 := ⟨_, rfl⟩
  replace hw : HV g A s ((h0, .inr (6, [.ref q5_0, .null, .null, .null, .null, .null, .int 0, .null, .null, .int 0, .null, .null, .null, .null])) :: (w2 ++ [e_R q5_0 u9_0])) H locs := hw.eq (by rw [ew2, n1_Ks]; simp only [List.cons_append, List.append_assoc, List.nil_append])
  refine putV (v := .ref q16_0) (k := 1) (ty0 := ty_X) C hin hw rfl u_X_in ty_X_ok n_X (by decide) (inG 237 (by decide +kernel) (by decide +kernel)) rfl rfl (by first | rfl | decide) (by first | rfl | decide) rfl d_X_init_27 (fun fsN H locs efsN hflN hw => ?_)
  replace hw : HV g A s ((h0, .inr (6, [.ref q5_0, .ref q16_0, .null, .null, .null, .null, .int 0, .null, .null, .int 0, .null, .null, .null, .null])) :: (w2 ++ [e_R q5_0 u9_0])) H locs := by rw [efsN] at hw; exact hw
  clear efsN hflN
  refine lv_aload_n hx hb d_X_init_30 rfl (lv_at hl 0 rfl) ?_
  refine newO (ci := 1) C rfl u_K_in ty_K_ok (inG 62 (by decide +kernel) (by decide +kernel)) wn_K wi_K hw df_K (Nat.le_of_ble_eq_true rfl) (Nat.le_of_ble_eq_true rfl) d_X_init_31 (fun q31_0 H hw => ?_)
  replace hw : HV g A s (((h0, .inr (6, [.ref q5_0, .ref q16_0, .null, .null, .null, .null, .int 0, .null, .null, .int 0, .null, .null, .null, .null])) :: (w2 ++ [e_R q5_0 u9_0])) ++ [(q31_0, .inr (1, [.int 0, .null, .null, .null, .null, .null, .null, .null, .int 0, .int 0, .null, .int 0, .int 0, .int 0, .null]))]) H locs := hw
  refine lv_dup hx hb d_X_init_34 rfl ?_
  refine lv_aload_n hx hb d_X_init_35 rfl (lv_at hl 0 rfl) ?_
  refine getV (v := .ref q5_0) (j := 0) (k := 0) (T := F_X) (N := 14) (Cn := R_X) C hw rfl rfl u_X_in (by decide) (inG 236 (by decide +kernel) (by decide +kernel)) rfl rfl d_X_init_36 ?_
  replace hw : HV g A s (((h0, .inr (6, [.ref q5_0, .ref q16_0, .null, .null, .null, .null, .int 0, .null, .null, .int 0, .null, .null, .null, .null])) :: w2) ++ [e_R q5_0 u9_0, (q31_0, .inr (1, [.int 0, .null, .null, .null, .null, .null, .null, .null, .int 0, .int 0, .null, .int 0, .int 0, .int 0, .null]))]) H locs := hw.eq (by simp only [List.cons_append, List.append_assoc, List.nil_append])
  refine clN C hE0 hw (invI (As := [.ref q5_0]) C hE0 hw (mk_K_init g l q31_0 q5_0 u9_0) rfl wi_K (inG 64 (by decide +kernel) (by decide +kernel)) wm_K k_K_init rfl nq_K ⟨by decide, by decide⟩ rfl hl.1 rfl (Nat.le_of_ble_eq_true rfl) d_X_init_39 ⟨Nat.le_of_ble_eq_true rfl, Nat.le_of_ble_eq_true rfl⟩) (fun u39_0 H locs hw => ?_)
  obtain ⟨w3, ew3⟩ : ∃ z, z = w2 ++ n1_Ka g q31_0 q5_0 u39_0 := ⟨_, rfl⟩
  replace hw : HV g A s ((h0, .inr (6, [.ref q5_0, .ref q16_0, .null, .null, .null, .null, .int 0, .null, .null, .int 0, .null, .null, .null, .null])) :: (w3 ++ [e_R q5_0 u9_0])) H locs := hw.eq (by rw [ew3, n1_Ks]; simp only [List.cons_append, List.append_assoc, List.nil_append])
  refine putV (v := .ref q31_0) (k := 2) (ty0 := ty_X) C hin hw rfl u_X_in ty_X_ok n_X (by decide) (inG 238 (by decide +kernel) (by decide +kernel)) rfl rfl (by first | rfl | decide) (by first | rfl | decide) rfl d_X_init_42 (fun fsN H locs efsN hflN hw => ?_)
  replace hw : HV g A s ((h0, .inr (6, [.ref q5_0, .ref q16_0, .ref q31_0, .null, .null, .null, .int 0, .null, .null, .int 0, .null, .null, .null, .null])) :: (w3 ++ [e_R q5_0 u9_0])) H locs := by rw [efsN] at hw; exact hw
  clear efsN hflN
  refine lv_aload_n hx hb d_X_init_45 rfl (lv_at hl 0 rfl) ?_
  refine newO (ci := 1) C rfl u_K_in ty_K_ok (inG 62 (by decide +kernel) (by decide +kernel)) wn_K wi_K hw df_K (Nat.le_of_ble_eq_true rfl) (Nat.le_of_ble_eq_true rfl) d_X_init_46 (fun q46_0 H hw => ?_)
  replace hw : HV g A s (((h0, .inr (6, [.ref q5_0, .ref q16_0, .ref q31_0, .null, .null, .null, .int 0, .null, .null, .int 0, .null, .null, .null, .null])) :: (w3 ++ [e_R q5_0 u9_0])) ++ [(q46_0, .inr (1, [.int 0, .null, .null, .null, .null, .null, .null, .null, .int 0, .int 0, .null, .int 0, .int 0, .int 0, .null]))]) H locs := hw
  refine lv_dup hx hb d_X_init_49 rfl ?_
  refine lv_aload_n hx hb d_X_init_50 rfl (lv_at hl 0 rfl) ?_
  refine getV (v := .ref q5_0) (j := 0) (k := 0) (T := F_X) (N := 14) (Cn := R_X) C hw rfl rfl u_X_in (by decide) (inG 236 (by decide +kernel) (by decide +kernel)) rfl rfl d_X_init_51 ?_
  replace hw : HV g A s (((h0, .inr (6, [.ref q5_0, .ref q16_0, .ref q31_0, .null, .null, .null, .int 0, .null, .null, .int 0, .null, .null, .null, .null])) :: w3) ++ [e_R q5_0 u9_0, (q46_0, .inr (1, [.int 0, .null, .null, .null, .null, .null, .null, .null, .int 0, .int 0, .null, .int 0, .int 0, .int 0, .null]))]) H locs := hw.eq (by simp only [List.cons_append, List.append_assoc, List.nil_append])
  refine clN C hE0 hw (invI (As := [.ref q5_0]) C hE0 hw (mk_K_init g l q46_0 q5_0 u9_0) rfl wi_K (inG 64 (by decide +kernel) (by decide +kernel)) wm_K k_K_init rfl nq_K ⟨by decide, by decide⟩ rfl hl.1 rfl (Nat.le_of_ble_eq_true rfl) d_X_init_54 ⟨Nat.le_of_ble_eq_true rfl, Nat.le_of_ble_eq_true rfl⟩) (fun u54_0 H locs hw => ?_)
  obtain ⟨w4, ew4⟩ : ∃ z, z = w3 ++ n1_Ka g q46_0 q5_0 u54_0 := ⟨_, rfl⟩
  replace hw : HV g A s ((h0, .inr (6, [.ref q5_0, .ref q16_0, .ref q31_0, .null, .null, .null, .int 0, .null, .null, .int 0, .null, .null, .null, .null])) :: (w4 ++ [e_R q5_0 u9_0])) H locs := hw.eq (by rw [ew4, n1_Ks]; simp only [List.cons_append, List.append_assoc, List.nil_append])
  refine putV (v := .ref q46_0) (k := 3) (ty0 := ty_X) C hin hw rfl u_X_in ty_X_ok n_X (by decide) (inG 239 (by decide +kernel) (by decide +kernel)) rfl rfl (by first | rfl | decide) (by first | rfl | decide) rfl d_X_init_57 (fun fsN H locs efsN hflN hw => ?_)
  replace hw : HV g A s ((h0, .inr (6, [.ref q5_0, .ref q16_0, .ref q31_0, .ref q46_0, .null, .null, .int 0, .null, .null, .int 0, .null, .null, .null, .null])) :: (w4 ++ [e_R q5_0 u9_0])) H locs := by rw [efsN] at hw; exact hw
  clear efsN hflN
  refine lv_aload_n hx hb d_X_init_60 rfl (lv_at hl 0 rfl) ?_
  refine newO (ci := 2) C rfl u_N_in ty_N_ok (inG 139 (by decide +kernel) (by decide +kernel)) wn_N wi_N hw df_N (Nat.le_of_ble_eq_true rfl) (Nat.le_of_ble_eq_true rfl) d_X_init_61 (fun q61_0 H hw => ?_)
  replace hw : HV g A s (((h0, .inr (6, [.ref q5_0, .ref q16_0, .ref q31_0, .ref q46_0, .null, .null, .int 0, .null, .null, .int 0, .null, .null, .null, .null])) :: (w4 ++ [e_R q5_0 u9_0])) ++ [(q61_0, .inr (2, [.int 0, .null, .null, .int 0, .null]))]) H locs := hw
  refine lv_dup hx hb d_X_init_64 rfl ?_
  refine clN C hE0 hw (invIN (As := []) (host := "LittleLeft") C hE0 hw (mk_N_init g l q61_0) rfl wi_N (List.mem_of_getElem? (i := 1) rfl) wm_N k_N_init rfl nq_N ⟨by decide, by decide⟩ rfl hl.1 rfl (Nat.le_of_ble_eq_true rfl) d_X_init_65 ⟨Nat.le_of_ble_eq_true rfl, Nat.le_of_ble_eq_true rfl⟩) (fun u65_0 H locs hw => ?_)
  obtain ⟨w5, ew5⟩ : ∃ z, z = (w4 ++ [e_R q5_0 u9_0]) ++ n1_N g q61_0 u65_0 := ⟨_, rfl⟩
  replace hw : HV g A s ((h0, .inr (6, [.ref q5_0, .ref q16_0, .ref q31_0, .ref q46_0, .null, .null, .int 0, .null, .null, .int 0, .null, .null, .null, .null])) :: w5) H locs := by rw [ew5]; exact hw
  refine putV (v := .ref q61_0) (k := 4) (ty0 := ty_X) C hin hw rfl u_X_in ty_X_ok n_X (by decide) (inG 240 (by decide +kernel) (by decide +kernel)) rfl rfl (by first | rfl | decide) (by first | rfl | decide) rfl d_X_init_68 (fun fsN H locs efsN hflN hw => ?_)
  replace hw : HV g A s ((h0, .inr (6, [.ref q5_0, .ref q16_0, .ref q31_0, .ref q46_0, .ref q61_0, .null, .int 0, .null, .null, .int 0, .null, .null, .null, .null])) :: w5) H locs := by rw [efsN] at hw; exact hw
  clear efsN hflN
  refine lv_aload_n hx hb d_X_init_71 rfl (lv_at hl 0 rfl) ?_
  refine newO (ci := 2) C rfl u_N_in ty_N_ok (inG 139 (by decide +kernel) (by decide +kernel)) wn_N wi_N hw df_N (Nat.le_of_ble_eq_true rfl) (Nat.le_of_ble_eq_true rfl) d_X_init_72 (fun q72_0 H hw => ?_)
  replace hw : HV g A s (((h0, .inr (6, [.ref q5_0, .ref q16_0, .ref q31_0, .ref q46_0, .ref q61_0, .null, .int 0, .null, .null, .int 0, .null, .null, .null, .null])) :: w5) ++ [(q72_0, .inr (2, [.int 0, .null, .null, .int 0, .null]))]) H locs := hw
  refine lv_dup hx hb d_X_init_75 rfl ?_
  refine clN C hE0 hw (invIN (As := []) (host := "LittleLeft") C hE0 hw (mk_N_init g l q72_0) rfl wi_N (List.mem_of_getElem? (i := 1) rfl) wm_N k_N_init rfl nq_N ⟨by decide, by decide⟩ rfl hl.1 rfl (Nat.le_of_ble_eq_true rfl) d_X_init_76 ⟨Nat.le_of_ble_eq_true rfl, Nat.le_of_ble_eq_true rfl⟩) (fun u76_0 H locs hw => ?_)
  obtain ⟨w6, ew6⟩ : ∃ z, z = w5 ++ n1_N g q72_0 u76_0 := ⟨_, rfl⟩
  replace hw : HV g A s ((h0, .inr (6, [.ref q5_0, .ref q16_0, .ref q31_0, .ref q46_0, .ref q61_0, .null, .int 0, .null, .null, .int 0, .null, .null, .null, .null])) :: w6) H locs := by rw [ew6]; exact hw
  refine putV (v := .ref q72_0) (k := 5) (ty0 := ty_X) C hin hw rfl u_X_in ty_X_ok n_X (by decide) (inG 241 (by decide +kernel) (by decide +kernel)) rfl rfl (by first | rfl | decide) (by first | rfl | decide) rfl d_X_init_79 (fun fsN H locs efsN hflN hw => ?_)
  replace hw : HV g A s ((h0, .inr (6, [.ref q5_0, .ref q16_0, .ref q31_0, .ref q46_0, .ref q61_0, .ref q72_0, .int 0, .null, .null, .int 0, .null, .null, .null, .null])) :: w6) H locs := by rw [efsN] at hw; exact hw
  clear efsN hflN
  refine lv_aload_n hx hb d_X_init_82 rfl (lv_at hl 0 rfl) ?_
  refine lv_iconst (v := 0) hx hb d_X_init_83 (by decide) ?_
  refine putV (v := .int 0) (k := 6) (ty0 := ty_X) C hin hw rfl u_X_in ty_X_ok n_X (by decide) (inG 242 (by decide +kernel) (by decide +kernel)) rfl rfl (by first | rfl | decide) (by first | rfl | decide) rfl d_X_init_84 (fun fsN H locs efsN hflN hw => ?_)
  replace hw : HV g A s ((h0, .inr (6, [.ref q5_0, .ref q16_0, .ref q31_0, .ref q46_0, .ref q61_0, .ref q72_0, .int 0, .null, .null, .int 0, .null, .null, .null, .null])) :: w6) H locs := by rw [efsN] at hw; exact hw
  clear efsN hflN
  refine lv_aload_n hx hb d_X_init_87 rfl (lv_at hl 0 rfl) ?_
  refine newO (ci := 3) C rfl u_E_in ty_E_ok (inG 166 (by decide +kernel) (by decide +kernel)) wn_E wi_E hw df_E (Nat.le_of_ble_eq_true rfl) (Nat.le_of_ble_eq_true rfl) d_X_init_88 (fun q88_0 H hw => ?_)
  replace hw : HV g A s (((h0, .inr (6, [.ref q5_0, .ref q16_0, .ref q31_0, .ref q46_0, .ref q61_0, .ref q72_0, .int 0, .null, .null, .int 0, .null, .null, .null, .null])) :: w6) ++ [(q88_0, .inr (3, [.null, .int 0, .int 0, .null]))]) H locs := hw
  refine lv_dup hx hb d_X_init_91 rfl ?_
  refine clN C hE0 hw (invIN (As := []) (host := "LittleLeft") C hE0 hw (mk_E_init g l q88_0) rfl wi_E (List.mem_of_getElem? (i := 2) rfl) wm_E k_E_init rfl nq_E ⟨by decide, by decide⟩ rfl hl.1 rfl (Nat.le_of_ble_eq_true rfl) d_X_init_92 ⟨Nat.le_of_ble_eq_true rfl, Nat.le_of_ble_eq_true rfl⟩) (fun u92_0 H locs hw => ?_)
  obtain ⟨w7, ew7⟩ : ∃ z, z = w6 ++ n1_E g q88_0 u92_0 := ⟨_, rfl⟩
  replace hw : HV g A s ((h0, .inr (6, [.ref q5_0, .ref q16_0, .ref q31_0, .ref q46_0, .ref q61_0, .ref q72_0, .int 0, .null, .null, .int 0, .null, .null, .null, .null])) :: w7) H locs := by rw [ew7]; exact hw
  refine putV (v := .ref q88_0) (k := 7) (ty0 := ty_X) C hin hw rfl u_X_in ty_X_ok n_X (by decide) (inG 243 (by decide +kernel) (by decide +kernel)) rfl rfl (by first | rfl | decide) (by first | rfl | decide) rfl d_X_init_95 (fun fsN H locs efsN hflN hw => ?_)
  replace hw : HV g A s ((h0, .inr (6, [.ref q5_0, .ref q16_0, .ref q31_0, .ref q46_0, .ref q61_0, .ref q72_0, .int 0, .ref q88_0, .null, .int 0, .null, .null, .null, .null])) :: w7) H locs := by rw [efsN] at hw; exact hw
  clear efsN hflN
  refine lv_aload_n hx hb d_X_init_98 rfl (lv_at hl 0 rfl) ?_
  refine lv_bipush (v := 6) hx hb d_X_init_99 (by decide) ?_
  refine newQ (C1 := "LittleLeft$Rule") (N' := 6) (k := 4) (cA0 := g.2.2 4) C rfl (inG 25 (by decide +kernel) (by decide +kernel)) hZ0.1 hw (by decide) (by decide) (Nat.le_of_ble_eq_true rfl) (Nat.le_of_ble_eq_true rfl) (Nat.le_of_ble_eq_true rfl) d_X_init_101 (fun q101_0 H hw => ?_)
  replace hw : HV g A s ((h0, .inr (6, [.ref q5_0, .ref q16_0, .ref q31_0, .ref q46_0, .ref q61_0, .ref q72_0, .int 0, .ref q88_0, .null, .int 0, .null, .null, .null, .null])) :: (q101_0, .inl (g.2.2 4, 6, .inr (.inr (.inr (.inr (fun _ => none)))))) :: w7) H locs := HV.swap (a := [(h0, .inr (6, [.ref q5_0, .ref q16_0, .ref q31_0, .ref q46_0, .ref q61_0, .ref q72_0, .int 0, .ref q88_0, .null, .int 0, .null, .null, .null, .null]))]) (b := w7) (c := [(q101_0, .inl (g.2.2 4, 6, .inr (.inr (.inr (.inr (fun _ => none))))))]) hw
  refine putV (v := .ref q101_0) (k := 8) (ty0 := ty_X) C hin hw rfl u_X_in ty_X_ok n_X (by decide) (inG 244 (by decide +kernel) (by decide +kernel)) rfl rfl (by first | rfl | decide) (by first | rfl | decide) rfl d_X_init_104 (fun fsN H locs efsN hflN hw => ?_)
  replace hw : HV g A s ((h0, .inr (6, [.ref q5_0, .ref q16_0, .ref q31_0, .ref q46_0, .ref q61_0, .ref q72_0, .int 0, .ref q88_0, .ref q101_0, .int 0, .null, .null, .null, .null])) :: (q101_0, .inl (g.2.2 4, 6, .inr (.inr (.inr (.inr (fun _ => none)))))) :: w7) H locs := by rw [efsN] at hw; exact hw
  clear efsN hflN
  refine lv_aload_n hx hb d_X_init_107 rfl (lv_at hl 0 rfl) ?_
  refine lv_iconst (v := 0) hx hb d_X_init_108 (by decide) ?_
  refine putV (v := .int 0) (k := 9) (ty0 := ty_X) C hin hw rfl u_X_in ty_X_ok n_X (by decide) (inG 245 (by decide +kernel) (by decide +kernel)) rfl rfl (by first | rfl | decide) (by first | rfl | decide) rfl d_X_init_109 (fun fsN H locs efsN hflN hw => ?_)
  replace hw : HV g A s ((h0, .inr (6, [.ref q5_0, .ref q16_0, .ref q31_0, .ref q46_0, .ref q61_0, .ref q72_0, .int 0, .ref q88_0, .ref q101_0, .int 0, .null, .null, .null, .null])) :: (q101_0, .inl (g.2.2 4, 6, .inr (.inr (.inr (.inr (fun _ => none)))))) :: w7) H locs := by rw [efsN] at hw; exact hw
  clear efsN hflN
  refine lv_aload_n hx hb d_X_init_112 rfl (lv_at hl 0 rfl) ?_
  refine lv_iconst (v := 5) hx hb d_X_init_113 (by decide) ?_
  refine newV (atype := .int) (N' := 5) (k := 0) (a0 := (5, .inl (fun _ => 0))) C rfl rfl (fun _ h1 h2 => ra_p h1 h2) wa_int hw (fun _ => rfl) (by decide) (by decide) (Nat.le_of_ble_eq_true rfl) (Nat.le_of_ble_eq_true rfl) (Nat.le_of_ble_eq_true rfl) d_X_init_114 (fun q114_0 H hw => ?_)
  obtain ⟨w8, ew8⟩ : ∃ z, z = w7 ++ [(q114_0, .inl (g.2.2 0, 5, .inl (fun _ => 0)))] := ⟨_, rfl⟩
  replace hw : HV g A s ((h0, .inr (6, [.ref q5_0, .ref q16_0, .ref q31_0, .ref q46_0, .ref q61_0, .ref q72_0, .int 0, .ref q88_0, .ref q101_0, .int 0, .null, .null, .null, .null])) :: (q101_0, .inl (g.2.2 4, 6, .inr (.inr (.inr (.inr (fun _ => none)))))) :: w8) H locs := by rw [ew8]; exact hw
  refine putV (v := .ref q114_0) (k := 10) (ty0 := ty_X) C hin hw rfl u_X_in ty_X_ok n_X (by decide) (inG 246 (by decide +kernel) (by decide +kernel)) rfl rfl (by first | rfl | decide) (by first | rfl | decide) rfl d_X_init_116 (fun fsN H locs efsN hflN hw => ?_)
  replace hw : HV g A s ((h0, .inr (6, [.ref q5_0, .ref q16_0, .ref q31_0, .ref q46_0, .ref q61_0, .ref q72_0, .int 0, .ref q88_0, .ref q101_0, .int 0, .ref q114_0, .null, .null, .null])) :: (q101_0, .inl (g.2.2 4, 6, .inr (.inr (.inr (.inr (fun _ => none)))))) :: w8) H locs := by rw [efsN] at hw; exact hw
  clear efsN hflN
  refine lv_aload_n hx hb d_X_init_119 rfl (lv_at hl 0 rfl) ?_
  refine lv_iconst (v := 5) hx hb d_X_init_120 (by decide) ?_
  refine newV (atype := .int) (N' := 5) (k := 0) (a0 := (5, .inl (fun _ => 0))) C rfl rfl (fun _ h1 h2 => ra_p h1 h2) wa_int hw (fun _ => rfl) (by decide) (by decide) (Nat.le_of_ble_eq_true rfl) (Nat.le_of_ble_eq_true rfl) (Nat.le_of_ble_eq_true rfl) d_X_init_121 (fun q121_0 H hw => ?_)
  obtain ⟨w9, ew9⟩ : ∃ z, z = w8 ++ [(q121_0, .inl (g.2.2 0, 5, .inl (fun _ => 0)))] := ⟨_, rfl⟩
  replace hw : HV g A s ((h0, .inr (6, [.ref q5_0, .ref q16_0, .ref q31_0, .ref q46_0, .ref q61_0, .ref q72_0, .int 0, .ref q88_0, .ref q101_0, .int 0, .ref q114_0, .null, .null, .null])) :: (q101_0, .inl (g.2.2 4, 6, .inr (.inr (.inr (.inr (fun _ => none)))))) :: w9) H locs := by rw [ew9]; exact hw
  refine putV (v := .ref q121_0) (k := 11) (ty0 := ty_X) C hin hw rfl u_X_in ty_X_ok n_X (by decide) (inG 247 (by decide +kernel) (by decide +kernel)) rfl rfl (by first | rfl | decide) (by first | rfl | decide) rfl d_X_init_123 (fun fsN H locs efsN hflN hw => ?_)
  replace hw : HV g A s ((h0, .inr (6, [.ref q5_0, .ref q16_0, .ref q31_0, .ref q46_0, .ref q61_0, .ref q72_0, .int 0, .ref q88_0, .ref q101_0, .int 0, .ref q114_0, .ref q121_0, .null, .null])) :: (q101_0, .inl (g.2.2 4, 6, .inr (.inr (.inr (.inr (fun _ => none)))))) :: w9) H locs := by rw [efsN] at hw; exact hw
  clear efsN hflN
  refine lv_aload_n hx hb d_X_init_126 rfl (lv_at hl 0 rfl) ?_
  refine newO (ci := 0) C rfl u_A_in ty_A_ok (inG 191 (by decide +kernel) (by decide +kernel)) wn_A wi_A hw df_A (Nat.le_of_ble_eq_true rfl) (Nat.le_of_ble_eq_true rfl) d_X_init_127 (fun q127_0 H hw => ?_)
  replace hw : HV g A s (((h0, .inr (6, [.ref q5_0, .ref q16_0, .ref q31_0, .ref q46_0, .ref q61_0, .ref q72_0, .int 0, .ref q88_0, .ref q101_0, .int 0, .ref q114_0, .ref q121_0, .null, .null])) :: (q101_0, .inl (g.2.2 4, 6, .inr (.inr (.inr (.inr (fun _ => none)))))) :: w9) ++ [(q127_0, .inr (0, [.null, .int 0, .int 0, .int 0, .int 0]))]) H locs := hw
  refine lv_dup hx hb d_X_init_130 rfl ?_
  refine clN C hE0 hw (invIN (As := []) (host := "LittleLeft") C hE0 hw (mk_A_init g l q127_0) rfl wi_A (List.mem_of_getElem? (i := 4) rfl) wm_A k_A_init rfl nq_A ⟨by decide, by decide⟩ rfl hl.1 rfl (Nat.le_of_ble_eq_true rfl) d_X_init_131 ⟨Nat.le_of_ble_eq_true rfl, Nat.le_of_ble_eq_true rfl⟩) (fun u131_0 H locs hw => ?_)
  obtain ⟨w10, ew10⟩ : ∃ z, z = w9 ++ n1_A g q127_0 u131_0 := ⟨_, rfl⟩
  replace hw : HV g A s ((h0, .inr (6, [.ref q5_0, .ref q16_0, .ref q31_0, .ref q46_0, .ref q61_0, .ref q72_0, .int 0, .ref q88_0, .ref q101_0, .int 0, .ref q114_0, .ref q121_0, .null, .null])) :: (q101_0, .inl (g.2.2 4, 6, .inr (.inr (.inr (.inr (fun _ => none)))))) :: w10) H locs := by rw [ew10]; exact hw
  refine putV (v := .ref q127_0) (k := 12) (ty0 := ty_X) C hin hw rfl u_X_in ty_X_ok n_X (by decide) (inG 248 (by decide +kernel) (by decide +kernel)) rfl rfl (by first | rfl | decide) (by first | rfl | decide) rfl d_X_init_134 (fun fsN H locs efsN hflN hw => ?_)
  replace hw : HV g A s ((h0, .inr (6, [.ref q5_0, .ref q16_0, .ref q31_0, .ref q46_0, .ref q61_0, .ref q72_0, .int 0, .ref q88_0, .ref q101_0, .int 0, .ref q114_0, .ref q121_0, .ref q127_0, .null])) :: (q101_0, .inl (g.2.2 4, 6, .inr (.inr (.inr (.inr (fun _ => none)))))) :: w10) H locs := by rw [efsN] at hw; exact hw
  clear efsN hflN
  refine lv_aload_n hx hb d_X_init_137 rfl (lv_at hl 0 rfl) ?_
  refine lv_bipush (v := 6) hx hb d_X_init_138 (by decide) ?_
  refine newQ (C1 := "LittleLeft$Tape") (N' := 6) (k := 5) (cA0 := g.2.2 5) C rfl (inG 215 (by decide +kernel) (by decide +kernel)) hZ0.2 hw (by decide) (by decide) (Nat.le_of_ble_eq_true rfl) (Nat.le_of_ble_eq_true rfl) (Nat.le_of_ble_eq_true rfl) d_X_init_140 (fun q140_0 H hw => ?_)
  replace hw : HV g A s ((h0, .inr (6, [.ref q5_0, .ref q16_0, .ref q31_0, .ref q46_0, .ref q61_0, .ref q72_0, .int 0, .ref q88_0, .ref q101_0, .int 0, .ref q114_0, .ref q121_0, .ref q127_0, .null])) :: (q101_0, .inl (g.2.2 4, 6, .inr (.inr (.inr (.inr (fun _ => none)))))) :: (q140_0, .inl (g.2.2 5, 6, .inr (.inr (.inr (.inr (fun _ => none)))))) :: w10) H locs := HV.swap (a := [(h0, .inr (6, [.ref q5_0, .ref q16_0, .ref q31_0, .ref q46_0, .ref q61_0, .ref q72_0, .int 0, .ref q88_0, .ref q101_0, .int 0, .ref q114_0, .ref q121_0, .ref q127_0, .null])), (q101_0, .inl (g.2.2 4, 6, .inr (.inr (.inr (.inr (fun _ => none))))))]) (b := w10) (c := [(q140_0, .inl (g.2.2 5, 6, .inr (.inr (.inr (.inr (fun _ => none))))))]) hw
  refine putV (v := .ref q140_0) (k := 13) (ty0 := ty_X) C hin hw rfl u_X_in ty_X_ok n_X (by decide) (inG 249 (by decide +kernel) (by decide +kernel)) rfl rfl (by first | rfl | decide) (by first | rfl | decide) rfl d_X_init_143 (fun fsN H locs efsN hflN hw => ?_)
  replace hw : HV g A s ((h0, .inr (6, [.ref q5_0, .ref q16_0, .ref q31_0, .ref q46_0, .ref q61_0, .ref q72_0, .int 0, .ref q88_0, .ref q101_0, .int 0, .ref q114_0, .ref q121_0, .ref q127_0, .ref q140_0])) :: (q101_0, .inl (g.2.2 4, 6, .inr (.inr (.inr (.inr (fun _ => none)))))) :: (q140_0, .inl (g.2.2 5, 6, .inr (.inr (.inr (.inr (fun _ => none)))))) :: w10) H locs := by rw [efsN] at hw; exact hw
  clear efsN hflN
  refine lv_iconst (v := 0) hx hb d_X_init_146 (by decide) ?_
  refine lv_istore_n (lv' := [(1, .int 0), (0, .ref h0)]) hx hb d_X_init_147 rfl hl (by decide) rfl (fun ls hl => ?_)
  refine lv_iload_n hx hb d_X_init_148 rfl (lv_at hl 0 rfl) ?_
  refine lv_aload_n hx hb d_X_init_149 rfl (lv_at hl 1 rfl) ?_
  refine getV (v := .ref q101_0) (j := 0) (k := 8) (T := F_X) (N := 14) (Cn := R_X) C hw rfl rfl u_X_in (by decide) (inG 244 (by decide +kernel) (by decide +kernel)) rfl rfl d_X_init_150 ?_
  refine lenQ (j := 1) (k := 4) (C1 := "LittleLeft$Rule") (v := 6) C hw rfl rfl rfl d_X_init_153 ?_
  refine lv_icmp_ge (tgt := 176) hx hb d_X_init_154 (by decide) (fun c => absurd c (by decide)) (fun _ => ?_)
  refine lv_aload_n hx hb d_X_init_157 rfl (lv_at hl 1 rfl) ?_
  refine getV (v := .ref q101_0) (j := 0) (k := 8) (T := F_X) (N := 14) (Cn := R_X) C hw rfl rfl u_X_in (by decide) (inG 244 (by decide +kernel) (by decide +kernel)) rfl rfl d_X_init_158 ?_
  refine lv_iload_n hx hb d_X_init_161 rfl (lv_at hl 0 rfl) ?_
  refine newO (ci := 4) C rfl u_R_in ty_R_ok (inG 25 (by decide +kernel) (by decide +kernel)) wn_R wi_R hw df_R (Nat.le_of_ble_eq_true rfl) (Nat.le_of_ble_eq_true rfl) d_X_init_162 (fun q162_0 H hw => ?_)
  replace hw : HV g A s (((h0, .inr (6, [.ref q5_0, .ref q16_0, .ref q31_0, .ref q46_0, .ref q61_0, .ref q72_0, .int 0, .ref q88_0, .ref q101_0, .int 0, .ref q114_0, .ref q121_0, .ref q127_0, .ref q140_0])) :: (q101_0, .inl (g.2.2 4, 6, .inr (.inr (.inr (.inr (fun _ => none)))))) :: (q140_0, .inl (g.2.2 5, 6, .inr (.inr (.inr (.inr (fun _ => none)))))) :: w10) ++ [(q162_0, .inr (4, [.int 0, .null, .null, .null, .null, .null, .int 0, .int 0, .int 0]))]) H locs := hw
  refine lv_dup hx hb d_X_init_165 rfl ?_
  refine clN C hE0 hw (invIN (As := []) (host := "LittleLeft") C hE0 hw (mk_R_init g l q162_0) rfl wi_R (List.mem_of_getElem? (i := 0) rfl) wm_R k_R_init rfl nq_R ⟨by decide, by decide⟩ rfl hl.1 rfl (Nat.le_of_ble_eq_true rfl) d_X_init_166 ⟨Nat.le_of_ble_eq_true rfl, Nat.le_of_ble_eq_true rfl⟩) (fun u166_0 H locs hw => ?_)
  obtain ⟨w11, ew11⟩ : ∃ z, z = w10 ++ n1_R g q162_0 u166_0 := ⟨_, rfl⟩
  replace hw : HV g A s ((h0, .inr (6, [.ref q5_0, .ref q16_0, .ref q31_0, .ref q46_0, .ref q61_0, .ref q72_0, .int 0, .ref q88_0, .ref q101_0, .int 0, .ref q114_0, .ref q121_0, .ref q127_0, .ref q140_0])) :: (q101_0, .inl (g.2.2 4, 6, .inr (.inr (.inr (.inr (fun _ => none)))))) :: (q140_0, .inl (g.2.2 5, 6, .inr (.inr (.inr (.inr (fun _ => none)))))) :: w11) H locs := by rw [ew11]; exact hw
  refine stQ (j := 1) (k := 4) (r := (R_R, F_R, 9)) C hw rfl rfl (List.getElem?_of_mem (List.mem_cons_of_mem _ (List.mem_cons_of_mem _ (List.mem_cons_of_mem _ (by rw [ew11]; exact List.mem_append_right _ (List.mem_of_getElem? (i := 5) rfl)))))) rfl (by decide) d_X_init_169 (fun f169_0 H locs ef169_0 hw => ?_)
  replace hw : HV g A s ((h0, .inr (6, [.ref q5_0, .ref q16_0, .ref q31_0, .ref q46_0, .ref q61_0, .ref q72_0, .int 0, .ref q88_0, .ref q101_0, .int 0, .ref q114_0, .ref q121_0, .ref q127_0, .ref q140_0])) :: (q101_0, .inl (g.2.2 4, 6, .inr (.inr (.inr (.inr f169_0))))) :: (q140_0, .inl (g.2.2 5, 6, .inr (.inr (.inr (.inr (fun _ => none)))))) :: w11) H locs := hw
  refine lv_iinc (v := 1) (lv' := [(1, .int 1), (0, .ref h0)]) hx hb d_X_init_170 hl (k := 0) rfl (by first | rfl | decide) (by decide) rfl (fun ls hl => ?_)
  refine lv_goto (tgt := 148) hx hb d_X_init_173 (by decide) ?_
  refine lv_iload_n hx hb d_X_init_148 rfl (lv_at hl 0 rfl) ?_
  refine lv_aload_n hx hb d_X_init_149 rfl (lv_at hl 1 rfl) ?_
  refine getV (v := .ref q101_0) (j := 0) (k := 8) (T := F_X) (N := 14) (Cn := R_X) C hw rfl rfl u_X_in (by decide) (inG 244 (by decide +kernel) (by decide +kernel)) rfl rfl d_X_init_150 ?_
  refine lenQ (j := 1) (k := 4) (C1 := "LittleLeft$Rule") (v := 6) C hw rfl rfl rfl d_X_init_153 ?_
  refine lv_icmp_ge (tgt := 176) hx hb d_X_init_154 (by decide) (fun c => absurd c (by decide)) (fun _ => ?_)
  refine lv_aload_n hx hb d_X_init_157 rfl (lv_at hl 1 rfl) ?_
  refine getV (v := .ref q101_0) (j := 0) (k := 8) (T := F_X) (N := 14) (Cn := R_X) C hw rfl rfl u_X_in (by decide) (inG 244 (by decide +kernel) (by decide +kernel)) rfl rfl d_X_init_158 ?_
  refine lv_iload_n hx hb d_X_init_161 rfl (lv_at hl 0 rfl) ?_
  refine newO (ci := 4) C rfl u_R_in ty_R_ok (inG 25 (by decide +kernel) (by decide +kernel)) wn_R wi_R hw df_R (Nat.le_of_ble_eq_true rfl) (Nat.le_of_ble_eq_true rfl) d_X_init_162 (fun q162_1 H hw => ?_)
  replace hw : HV g A s (((h0, .inr (6, [.ref q5_0, .ref q16_0, .ref q31_0, .ref q46_0, .ref q61_0, .ref q72_0, .int 0, .ref q88_0, .ref q101_0, .int 0, .ref q114_0, .ref q121_0, .ref q127_0, .ref q140_0])) :: (q101_0, .inl (g.2.2 4, 6, .inr (.inr (.inr (.inr f169_0))))) :: (q140_0, .inl (g.2.2 5, 6, .inr (.inr (.inr (.inr (fun _ => none)))))) :: w11) ++ [(q162_1, .inr (4, [.int 0, .null, .null, .null, .null, .null, .int 0, .int 0, .int 0]))]) H locs := hw
  refine lv_dup hx hb d_X_init_165 rfl ?_
  refine clN C hE0 hw (invIN (As := []) (host := "LittleLeft") C hE0 hw (mk_R_init g l q162_1) rfl wi_R (List.mem_of_getElem? (i := 0) rfl) wm_R k_R_init rfl nq_R ⟨by decide, by decide⟩ rfl hl.1 rfl (Nat.le_of_ble_eq_true rfl) d_X_init_166 ⟨Nat.le_of_ble_eq_true rfl, Nat.le_of_ble_eq_true rfl⟩) (fun u166_1 H locs hw => ?_)
  obtain ⟨w12, ew12⟩ : ∃ z, z = w11 ++ n1_R g q162_1 u166_1 := ⟨_, rfl⟩
  replace hw : HV g A s ((h0, .inr (6, [.ref q5_0, .ref q16_0, .ref q31_0, .ref q46_0, .ref q61_0, .ref q72_0, .int 0, .ref q88_0, .ref q101_0, .int 0, .ref q114_0, .ref q121_0, .ref q127_0, .ref q140_0])) :: (q101_0, .inl (g.2.2 4, 6, .inr (.inr (.inr (.inr f169_0))))) :: (q140_0, .inl (g.2.2 5, 6, .inr (.inr (.inr (.inr (fun _ => none)))))) :: w12) H locs := by rw [ew12]; exact hw
  refine stQ (j := 1) (k := 4) (r := (R_R, F_R, 9)) C hw rfl rfl (List.getElem?_of_mem (List.mem_cons_of_mem _ (List.mem_cons_of_mem _ (List.mem_cons_of_mem _ (by rw [ew12]; exact List.mem_append_right _ (List.mem_of_getElem? (i := 5) rfl)))))) rfl (by decide) d_X_init_169 (fun f169_1 H locs ef169_1 hw => ?_)
  replace hw : HV g A s ((h0, .inr (6, [.ref q5_0, .ref q16_0, .ref q31_0, .ref q46_0, .ref q61_0, .ref q72_0, .int 0, .ref q88_0, .ref q101_0, .int 0, .ref q114_0, .ref q121_0, .ref q127_0, .ref q140_0])) :: (q101_0, .inl (g.2.2 4, 6, .inr (.inr (.inr (.inr f169_1))))) :: (q140_0, .inl (g.2.2 5, 6, .inr (.inr (.inr (.inr (fun _ => none)))))) :: w12) H locs := hw
  refine lv_iinc (v := 2) (lv' := [(1, .int 2), (0, .ref h0)]) hx hb d_X_init_170 hl (k := 0) rfl (by first | rfl | decide) (by decide) rfl (fun ls hl => ?_)
  refine lv_goto (tgt := 148) hx hb d_X_init_173 (by decide) ?_
  refine lv_iload_n hx hb d_X_init_148 rfl (lv_at hl 0 rfl) ?_
  refine lv_aload_n hx hb d_X_init_149 rfl (lv_at hl 1 rfl) ?_
  refine getV (v := .ref q101_0) (j := 0) (k := 8) (T := F_X) (N := 14) (Cn := R_X) C hw rfl rfl u_X_in (by decide) (inG 244 (by decide +kernel) (by decide +kernel)) rfl rfl d_X_init_150 ?_
  refine lenQ (j := 1) (k := 4) (C1 := "LittleLeft$Rule") (v := 6) C hw rfl rfl rfl d_X_init_153 ?_
  refine lv_icmp_ge (tgt := 176) hx hb d_X_init_154 (by decide) (fun c => absurd c (by decide)) (fun _ => ?_)
  refine lv_aload_n hx hb d_X_init_157 rfl (lv_at hl 1 rfl) ?_
  refine getV (v := .ref q101_0) (j := 0) (k := 8) (T := F_X) (N := 14) (Cn := R_X) C hw rfl rfl u_X_in (by decide) (inG 244 (by decide +kernel) (by decide +kernel)) rfl rfl d_X_init_158 ?_
  refine lv_iload_n hx hb d_X_init_161 rfl (lv_at hl 0 rfl) ?_
  refine newO (ci := 4) C rfl u_R_in ty_R_ok (inG 25 (by decide +kernel) (by decide +kernel)) wn_R wi_R hw df_R (Nat.le_of_ble_eq_true rfl) (Nat.le_of_ble_eq_true rfl) d_X_init_162 (fun q162_2 H hw => ?_)
  replace hw : HV g A s (((h0, .inr (6, [.ref q5_0, .ref q16_0, .ref q31_0, .ref q46_0, .ref q61_0, .ref q72_0, .int 0, .ref q88_0, .ref q101_0, .int 0, .ref q114_0, .ref q121_0, .ref q127_0, .ref q140_0])) :: (q101_0, .inl (g.2.2 4, 6, .inr (.inr (.inr (.inr f169_1))))) :: (q140_0, .inl (g.2.2 5, 6, .inr (.inr (.inr (.inr (fun _ => none)))))) :: w12) ++ [(q162_2, .inr (4, [.int 0, .null, .null, .null, .null, .null, .int 0, .int 0, .int 0]))]) H locs := hw
  refine lv_dup hx hb d_X_init_165 rfl ?_
  refine clN C hE0 hw (invIN (As := []) (host := "LittleLeft") C hE0 hw (mk_R_init g l q162_2) rfl wi_R (List.mem_of_getElem? (i := 0) rfl) wm_R k_R_init rfl nq_R ⟨by decide, by decide⟩ rfl hl.1 rfl (Nat.le_of_ble_eq_true rfl) d_X_init_166 ⟨Nat.le_of_ble_eq_true rfl, Nat.le_of_ble_eq_true rfl⟩) (fun u166_2 H locs hw => ?_)
  obtain ⟨w13, ew13⟩ : ∃ z, z = w12 ++ n1_R g q162_2 u166_2 := ⟨_, rfl⟩
  replace hw : HV g A s ((h0, .inr (6, [.ref q5_0, .ref q16_0, .ref q31_0, .ref q46_0, .ref q61_0, .ref q72_0, .int 0, .ref q88_0, .ref q101_0, .int 0, .ref q114_0, .ref q121_0, .ref q127_0, .ref q140_0])) :: (q101_0, .inl (g.2.2 4, 6, .inr (.inr (.inr (.inr f169_1))))) :: (q140_0, .inl (g.2.2 5, 6, .inr (.inr (.inr (.inr (fun _ => none)))))) :: w13) H locs := by rw [ew13]; exact hw
  refine stQ (j := 1) (k := 4) (r := (R_R, F_R, 9)) C hw rfl rfl (List.getElem?_of_mem (List.mem_cons_of_mem _ (List.mem_cons_of_mem _ (List.mem_cons_of_mem _ (by rw [ew13]; exact List.mem_append_right _ (List.mem_of_getElem? (i := 5) rfl)))))) rfl (by decide) d_X_init_169 (fun f169_2 H locs ef169_2 hw => ?_)
  replace hw : HV g A s ((h0, .inr (6, [.ref q5_0, .ref q16_0, .ref q31_0, .ref q46_0, .ref q61_0, .ref q72_0, .int 0, .ref q88_0, .ref q101_0, .int 0, .ref q114_0, .ref q121_0, .ref q127_0, .ref q140_0])) :: (q101_0, .inl (g.2.2 4, 6, .inr (.inr (.inr (.inr f169_2))))) :: (q140_0, .inl (g.2.2 5, 6, .inr (.inr (.inr (.inr (fun _ => none)))))) :: w13) H locs := hw
  refine lv_iinc (v := 3) (lv' := [(1, .int 3), (0, .ref h0)]) hx hb d_X_init_170 hl (k := 0) rfl (by first | rfl | decide) (by decide) rfl (fun ls hl => ?_)
  refine lv_goto (tgt := 148) hx hb d_X_init_173 (by decide) ?_
  refine lv_iload_n hx hb d_X_init_148 rfl (lv_at hl 0 rfl) ?_
  refine lv_aload_n hx hb d_X_init_149 rfl (lv_at hl 1 rfl) ?_
  refine getV (v := .ref q101_0) (j := 0) (k := 8) (T := F_X) (N := 14) (Cn := R_X) C hw rfl rfl u_X_in (by decide) (inG 244 (by decide +kernel) (by decide +kernel)) rfl rfl d_X_init_150 ?_
  refine lenQ (j := 1) (k := 4) (C1 := "LittleLeft$Rule") (v := 6) C hw rfl rfl rfl d_X_init_153 ?_
  refine lv_icmp_ge (tgt := 176) hx hb d_X_init_154 (by decide) (fun c => absurd c (by decide)) (fun _ => ?_)
  refine lv_aload_n hx hb d_X_init_157 rfl (lv_at hl 1 rfl) ?_
  refine getV (v := .ref q101_0) (j := 0) (k := 8) (T := F_X) (N := 14) (Cn := R_X) C hw rfl rfl u_X_in (by decide) (inG 244 (by decide +kernel) (by decide +kernel)) rfl rfl d_X_init_158 ?_
  refine lv_iload_n hx hb d_X_init_161 rfl (lv_at hl 0 rfl) ?_
  refine newO (ci := 4) C rfl u_R_in ty_R_ok (inG 25 (by decide +kernel) (by decide +kernel)) wn_R wi_R hw df_R (Nat.le_of_ble_eq_true rfl) (Nat.le_of_ble_eq_true rfl) d_X_init_162 (fun q162_3 H hw => ?_)
  replace hw : HV g A s (((h0, .inr (6, [.ref q5_0, .ref q16_0, .ref q31_0, .ref q46_0, .ref q61_0, .ref q72_0, .int 0, .ref q88_0, .ref q101_0, .int 0, .ref q114_0, .ref q121_0, .ref q127_0, .ref q140_0])) :: (q101_0, .inl (g.2.2 4, 6, .inr (.inr (.inr (.inr f169_2))))) :: (q140_0, .inl (g.2.2 5, 6, .inr (.inr (.inr (.inr (fun _ => none)))))) :: w13) ++ [(q162_3, .inr (4, [.int 0, .null, .null, .null, .null, .null, .int 0, .int 0, .int 0]))]) H locs := hw
  refine lv_dup hx hb d_X_init_165 rfl ?_
  refine clN C hE0 hw (invIN (As := []) (host := "LittleLeft") C hE0 hw (mk_R_init g l q162_3) rfl wi_R (List.mem_of_getElem? (i := 0) rfl) wm_R k_R_init rfl nq_R ⟨by decide, by decide⟩ rfl hl.1 rfl (Nat.le_of_ble_eq_true rfl) d_X_init_166 ⟨Nat.le_of_ble_eq_true rfl, Nat.le_of_ble_eq_true rfl⟩) (fun u166_3 H locs hw => ?_)
  obtain ⟨w14, ew14⟩ : ∃ z, z = w13 ++ n1_R g q162_3 u166_3 := ⟨_, rfl⟩
  replace hw : HV g A s ((h0, .inr (6, [.ref q5_0, .ref q16_0, .ref q31_0, .ref q46_0, .ref q61_0, .ref q72_0, .int 0, .ref q88_0, .ref q101_0, .int 0, .ref q114_0, .ref q121_0, .ref q127_0, .ref q140_0])) :: (q101_0, .inl (g.2.2 4, 6, .inr (.inr (.inr (.inr f169_2))))) :: (q140_0, .inl (g.2.2 5, 6, .inr (.inr (.inr (.inr (fun _ => none)))))) :: w14) H locs := by rw [ew14]; exact hw
  refine stQ (j := 1) (k := 4) (r := (R_R, F_R, 9)) C hw rfl rfl (List.getElem?_of_mem (List.mem_cons_of_mem _ (List.mem_cons_of_mem _ (List.mem_cons_of_mem _ (by rw [ew14]; exact List.mem_append_right _ (List.mem_of_getElem? (i := 5) rfl)))))) rfl (by decide) d_X_init_169 (fun f169_3 H locs ef169_3 hw => ?_)
  replace hw : HV g A s ((h0, .inr (6, [.ref q5_0, .ref q16_0, .ref q31_0, .ref q46_0, .ref q61_0, .ref q72_0, .int 0, .ref q88_0, .ref q101_0, .int 0, .ref q114_0, .ref q121_0, .ref q127_0, .ref q140_0])) :: (q101_0, .inl (g.2.2 4, 6, .inr (.inr (.inr (.inr f169_3))))) :: (q140_0, .inl (g.2.2 5, 6, .inr (.inr (.inr (.inr (fun _ => none)))))) :: w14) H locs := hw
  refine lv_iinc (v := 4) (lv' := [(1, .int 4), (0, .ref h0)]) hx hb d_X_init_170 hl (k := 0) rfl (by first | rfl | decide) (by decide) rfl (fun ls hl => ?_)
  refine lv_goto (tgt := 148) hx hb d_X_init_173 (by decide) ?_
  refine lv_iload_n hx hb d_X_init_148 rfl (lv_at hl 0 rfl) ?_
  refine lv_aload_n hx hb d_X_init_149 rfl (lv_at hl 1 rfl) ?_
  refine getV (v := .ref q101_0) (j := 0) (k := 8) (T := F_X) (N := 14) (Cn := R_X) C hw rfl rfl u_X_in (by decide) (inG 244 (by decide +kernel) (by decide +kernel)) rfl rfl d_X_init_150 ?_
  refine lenQ (j := 1) (k := 4) (C1 := "LittleLeft$Rule") (v := 6) C hw rfl rfl rfl d_X_init_153 ?_
  refine lv_icmp_ge (tgt := 176) hx hb d_X_init_154 (by decide) (fun c => absurd c (by decide)) (fun _ => ?_)
  refine lv_aload_n hx hb d_X_init_157 rfl (lv_at hl 1 rfl) ?_
  refine getV (v := .ref q101_0) (j := 0) (k := 8) (T := F_X) (N := 14) (Cn := R_X) C hw rfl rfl u_X_in (by decide) (inG 244 (by decide +kernel) (by decide +kernel)) rfl rfl d_X_init_158 ?_
  refine lv_iload_n hx hb d_X_init_161 rfl (lv_at hl 0 rfl) ?_
  refine newO (ci := 4) C rfl u_R_in ty_R_ok (inG 25 (by decide +kernel) (by decide +kernel)) wn_R wi_R hw df_R (Nat.le_of_ble_eq_true rfl) (Nat.le_of_ble_eq_true rfl) d_X_init_162 (fun q162_4 H hw => ?_)
  replace hw : HV g A s (((h0, .inr (6, [.ref q5_0, .ref q16_0, .ref q31_0, .ref q46_0, .ref q61_0, .ref q72_0, .int 0, .ref q88_0, .ref q101_0, .int 0, .ref q114_0, .ref q121_0, .ref q127_0, .ref q140_0])) :: (q101_0, .inl (g.2.2 4, 6, .inr (.inr (.inr (.inr f169_3))))) :: (q140_0, .inl (g.2.2 5, 6, .inr (.inr (.inr (.inr (fun _ => none)))))) :: w14) ++ [(q162_4, .inr (4, [.int 0, .null, .null, .null, .null, .null, .int 0, .int 0, .int 0]))]) H locs := hw
  refine lv_dup hx hb d_X_init_165 rfl ?_
  refine clN C hE0 hw (invIN (As := []) (host := "LittleLeft") C hE0 hw (mk_R_init g l q162_4) rfl wi_R (List.mem_of_getElem? (i := 0) rfl) wm_R k_R_init rfl nq_R ⟨by decide, by decide⟩ rfl hl.1 rfl (Nat.le_of_ble_eq_true rfl) d_X_init_166 ⟨Nat.le_of_ble_eq_true rfl, Nat.le_of_ble_eq_true rfl⟩) (fun u166_4 H locs hw => ?_)
  obtain ⟨w15, ew15⟩ : ∃ z, z = w14 ++ n1_R g q162_4 u166_4 := ⟨_, rfl⟩
  replace hw : HV g A s ((h0, .inr (6, [.ref q5_0, .ref q16_0, .ref q31_0, .ref q46_0, .ref q61_0, .ref q72_0, .int 0, .ref q88_0, .ref q101_0, .int 0, .ref q114_0, .ref q121_0, .ref q127_0, .ref q140_0])) :: (q101_0, .inl (g.2.2 4, 6, .inr (.inr (.inr (.inr f169_3))))) :: (q140_0, .inl (g.2.2 5, 6, .inr (.inr (.inr (.inr (fun _ => none)))))) :: w15) H locs := by rw [ew15]; exact hw
  refine stQ (j := 1) (k := 4) (r := (R_R, F_R, 9)) C hw rfl rfl (List.getElem?_of_mem (List.mem_cons_of_mem _ (List.mem_cons_of_mem _ (List.mem_cons_of_mem _ (by rw [ew15]; exact List.mem_append_right _ (List.mem_of_getElem? (i := 5) rfl)))))) rfl (by decide) d_X_init_169 (fun f169_4 H locs ef169_4 hw => ?_)
  replace hw : HV g A s ((h0, .inr (6, [.ref q5_0, .ref q16_0, .ref q31_0, .ref q46_0, .ref q61_0, .ref q72_0, .int 0, .ref q88_0, .ref q101_0, .int 0, .ref q114_0, .ref q121_0, .ref q127_0, .ref q140_0])) :: (q101_0, .inl (g.2.2 4, 6, .inr (.inr (.inr (.inr f169_4))))) :: (q140_0, .inl (g.2.2 5, 6, .inr (.inr (.inr (.inr (fun _ => none)))))) :: w15) H locs := hw
  refine lv_iinc (v := 5) (lv' := [(1, .int 5), (0, .ref h0)]) hx hb d_X_init_170 hl (k := 0) rfl (by first | rfl | decide) (by decide) rfl (fun ls hl => ?_)
  refine lv_goto (tgt := 148) hx hb d_X_init_173 (by decide) ?_
  refine lv_iload_n hx hb d_X_init_148 rfl (lv_at hl 0 rfl) ?_
  refine lv_aload_n hx hb d_X_init_149 rfl (lv_at hl 1 rfl) ?_
  refine getV (v := .ref q101_0) (j := 0) (k := 8) (T := F_X) (N := 14) (Cn := R_X) C hw rfl rfl u_X_in (by decide) (inG 244 (by decide +kernel) (by decide +kernel)) rfl rfl d_X_init_150 ?_
  refine lenQ (j := 1) (k := 4) (C1 := "LittleLeft$Rule") (v := 6) C hw rfl rfl rfl d_X_init_153 ?_
  refine lv_icmp_ge (tgt := 176) hx hb d_X_init_154 (by decide) (fun c => absurd c (by decide)) (fun _ => ?_)
  refine lv_aload_n hx hb d_X_init_157 rfl (lv_at hl 1 rfl) ?_
  refine getV (v := .ref q101_0) (j := 0) (k := 8) (T := F_X) (N := 14) (Cn := R_X) C hw rfl rfl u_X_in (by decide) (inG 244 (by decide +kernel) (by decide +kernel)) rfl rfl d_X_init_158 ?_
  refine lv_iload_n hx hb d_X_init_161 rfl (lv_at hl 0 rfl) ?_
  refine newO (ci := 4) C rfl u_R_in ty_R_ok (inG 25 (by decide +kernel) (by decide +kernel)) wn_R wi_R hw df_R (Nat.le_of_ble_eq_true rfl) (Nat.le_of_ble_eq_true rfl) d_X_init_162 (fun q162_5 H hw => ?_)
  replace hw : HV g A s (((h0, .inr (6, [.ref q5_0, .ref q16_0, .ref q31_0, .ref q46_0, .ref q61_0, .ref q72_0, .int 0, .ref q88_0, .ref q101_0, .int 0, .ref q114_0, .ref q121_0, .ref q127_0, .ref q140_0])) :: (q101_0, .inl (g.2.2 4, 6, .inr (.inr (.inr (.inr f169_4))))) :: (q140_0, .inl (g.2.2 5, 6, .inr (.inr (.inr (.inr (fun _ => none)))))) :: w15) ++ [(q162_5, .inr (4, [.int 0, .null, .null, .null, .null, .null, .int 0, .int 0, .int 0]))]) H locs := hw
  refine lv_dup hx hb d_X_init_165 rfl ?_
  refine clN C hE0 hw (invIN (As := []) (host := "LittleLeft") C hE0 hw (mk_R_init g l q162_5) rfl wi_R (List.mem_of_getElem? (i := 0) rfl) wm_R k_R_init rfl nq_R ⟨by decide, by decide⟩ rfl hl.1 rfl (Nat.le_of_ble_eq_true rfl) d_X_init_166 ⟨Nat.le_of_ble_eq_true rfl, Nat.le_of_ble_eq_true rfl⟩) (fun u166_5 H locs hw => ?_)
  obtain ⟨w16, ew16⟩ : ∃ z, z = w15 ++ n1_R g q162_5 u166_5 := ⟨_, rfl⟩
  replace hw : HV g A s ((h0, .inr (6, [.ref q5_0, .ref q16_0, .ref q31_0, .ref q46_0, .ref q61_0, .ref q72_0, .int 0, .ref q88_0, .ref q101_0, .int 0, .ref q114_0, .ref q121_0, .ref q127_0, .ref q140_0])) :: (q101_0, .inl (g.2.2 4, 6, .inr (.inr (.inr (.inr f169_4))))) :: (q140_0, .inl (g.2.2 5, 6, .inr (.inr (.inr (.inr (fun _ => none)))))) :: w16) H locs := by rw [ew16]; exact hw
  refine stQ (j := 1) (k := 4) (r := (R_R, F_R, 9)) C hw rfl rfl (List.getElem?_of_mem (List.mem_cons_of_mem _ (List.mem_cons_of_mem _ (List.mem_cons_of_mem _ (by rw [ew16]; exact List.mem_append_right _ (List.mem_of_getElem? (i := 5) rfl)))))) rfl (by decide) d_X_init_169 (fun f169_5 H locs ef169_5 hw => ?_)
  replace hw : HV g A s ((h0, .inr (6, [.ref q5_0, .ref q16_0, .ref q31_0, .ref q46_0, .ref q61_0, .ref q72_0, .int 0, .ref q88_0, .ref q101_0, .int 0, .ref q114_0, .ref q121_0, .ref q127_0, .ref q140_0])) :: (q101_0, .inl (g.2.2 4, 6, .inr (.inr (.inr (.inr f169_5))))) :: (q140_0, .inl (g.2.2 5, 6, .inr (.inr (.inr (.inr (fun _ => none)))))) :: w16) H locs := hw
  refine lv_iinc (v := 6) (lv' := [(1, .int 6), (0, .ref h0)]) hx hb d_X_init_170 hl (k := 0) rfl (by first | rfl | decide) (by decide) rfl (fun ls hl => ?_)
  refine lv_goto (tgt := 148) hx hb d_X_init_173 (by decide) ?_
  refine lv_iload_n hx hb d_X_init_148 rfl (lv_at hl 0 rfl) ?_
  refine lv_aload_n hx hb d_X_init_149 rfl (lv_at hl 1 rfl) ?_
  refine getV (v := .ref q101_0) (j := 0) (k := 8) (T := F_X) (N := 14) (Cn := R_X) C hw rfl rfl u_X_in (by decide) (inG 244 (by decide +kernel) (by decide +kernel)) rfl rfl d_X_init_150 ?_
  refine lenQ (j := 1) (k := 4) (C1 := "LittleLeft$Rule") (v := 6) C hw rfl rfl rfl d_X_init_153 ?_
  refine lv_icmp_ge (tgt := 176) hx hb d_X_init_154 (by decide) (fun _ => ?_) (fun c => absurd (by decide) c)
  refine lv_iconst (v := 0) hx hb d_X_init_176 (by decide) ?_
  refine lv_istore_n (lv' := [(1, .int 0), (0, .ref h0)]) hx hb d_X_init_177 rfl hl (by decide) rfl (fun ls hl => ?_)
  refine lv_iload_n hx hb d_X_init_178 rfl (lv_at hl 0 rfl) ?_
  refine lv_aload_n hx hb d_X_init_179 rfl (lv_at hl 1 rfl) ?_
  refine getV (v := .ref q140_0) (j := 0) (k := 13) (T := F_X) (N := 14) (Cn := R_X) C hw rfl rfl u_X_in (by decide) (inG 249 (by decide +kernel) (by decide +kernel)) rfl rfl d_X_init_180 ?_
  refine lenQ (j := 2) (k := 5) (C1 := "LittleLeft$Tape") (v := 6) C hw rfl rfl rfl d_X_init_183 ?_
  refine lv_icmp_ge (tgt := 206) hx hb d_X_init_184 (by decide) (fun c => absurd c (by decide)) (fun _ => ?_)
  refine lv_aload_n hx hb d_X_init_187 rfl (lv_at hl 1 rfl) ?_
  refine getV (v := .ref q140_0) (j := 0) (k := 13) (T := F_X) (N := 14) (Cn := R_X) C hw rfl rfl u_X_in (by decide) (inG 249 (by decide +kernel) (by decide +kernel)) rfl rfl d_X_init_188 ?_
  refine lv_iload_n hx hb d_X_init_191 rfl (lv_at hl 0 rfl) ?_
  refine newO (ci := 5) C rfl u_T_in ty_T_ok (inG 215 (by decide +kernel) (by decide +kernel)) wn_T wi_T hw df_T (Nat.le_of_ble_eq_true rfl) (Nat.le_of_ble_eq_true rfl) d_X_init_192 (fun q192_0 H hw => ?_)
  replace hw : HV g A s (((h0, .inr (6, [.ref q5_0, .ref q16_0, .ref q31_0, .ref q46_0, .ref q61_0, .ref q72_0, .int 0, .ref q88_0, .ref q101_0, .int 0, .ref q114_0, .ref q121_0, .ref q127_0, .ref q140_0])) :: (q101_0, .inl (g.2.2 4, 6, .inr (.inr (.inr (.inr f169_5))))) :: (q140_0, .inl (g.2.2 5, 6, .inr (.inr (.inr (.inr (fun _ => none)))))) :: w16) ++ [(q192_0, .inr (5, [.int 0, .int 0, .null]))]) H locs := hw
  refine lv_dup hx hb d_X_init_195 rfl ?_
  refine clN C hE0 hw (invIN (As := []) (host := "LittleLeft") C hE0 hw (mk_T_init g l q192_0) rfl wi_T (List.mem_of_getElem? (i := 5) rfl) wm_T k_T_init rfl nq_T ⟨by decide, by decide⟩ rfl hl.1 rfl (Nat.le_of_ble_eq_true rfl) d_X_init_196 ⟨Nat.le_of_ble_eq_true rfl, Nat.le_of_ble_eq_true rfl⟩) (fun u196_0 H locs hw => ?_)
  obtain ⟨w17, ew17⟩ : ∃ z, z = w16 ++ n1_T g q192_0 u196_0 := ⟨_, rfl⟩
  replace hw : HV g A s ((h0, .inr (6, [.ref q5_0, .ref q16_0, .ref q31_0, .ref q46_0, .ref q61_0, .ref q72_0, .int 0, .ref q88_0, .ref q101_0, .int 0, .ref q114_0, .ref q121_0, .ref q127_0, .ref q140_0])) :: (q101_0, .inl (g.2.2 4, 6, .inr (.inr (.inr (.inr f169_5))))) :: (q140_0, .inl (g.2.2 5, 6, .inr (.inr (.inr (.inr (fun _ => none)))))) :: w17) H locs := by rw [ew17]; exact hw
  refine stQ (j := 2) (k := 5) (r := (R_T, F_T, 3)) C hw rfl rfl (List.getElem?_of_mem (List.mem_cons_of_mem _ (List.mem_cons_of_mem _ (List.mem_cons_of_mem _ (by rw [ew17]; exact List.mem_append_right _ (List.mem_of_getElem? (i := 0) rfl)))))) rfl (by decide) d_X_init_199 (fun f199_0 H locs ef199_0 hw => ?_)
  replace hw : HV g A s ((h0, .inr (6, [.ref q5_0, .ref q16_0, .ref q31_0, .ref q46_0, .ref q61_0, .ref q72_0, .int 0, .ref q88_0, .ref q101_0, .int 0, .ref q114_0, .ref q121_0, .ref q127_0, .ref q140_0])) :: (q101_0, .inl (g.2.2 4, 6, .inr (.inr (.inr (.inr f169_5))))) :: (q140_0, .inl (g.2.2 5, 6, .inr (.inr (.inr (.inr f199_0))))) :: w17) H locs := hw
  refine lv_iinc (v := 1) (lv' := [(1, .int 1), (0, .ref h0)]) hx hb d_X_init_200 hl (k := 0) rfl (by first | rfl | decide) (by decide) rfl (fun ls hl => ?_)
  refine lv_goto (tgt := 178) hx hb d_X_init_203 (by decide) ?_
  refine lv_iload_n hx hb d_X_init_178 rfl (lv_at hl 0 rfl) ?_
  refine lv_aload_n hx hb d_X_init_179 rfl (lv_at hl 1 rfl) ?_
  refine getV (v := .ref q140_0) (j := 0) (k := 13) (T := F_X) (N := 14) (Cn := R_X) C hw rfl rfl u_X_in (by decide) (inG 249 (by decide +kernel) (by decide +kernel)) rfl rfl d_X_init_180 ?_
  refine lenQ (j := 2) (k := 5) (C1 := "LittleLeft$Tape") (v := 6) C hw rfl rfl rfl d_X_init_183 ?_
  refine lv_icmp_ge (tgt := 206) hx hb d_X_init_184 (by decide) (fun c => absurd c (by decide)) (fun _ => ?_)
  refine lv_aload_n hx hb d_X_init_187 rfl (lv_at hl 1 rfl) ?_
  refine getV (v := .ref q140_0) (j := 0) (k := 13) (T := F_X) (N := 14) (Cn := R_X) C hw rfl rfl u_X_in (by decide) (inG 249 (by decide +kernel) (by decide +kernel)) rfl rfl d_X_init_188 ?_
  refine lv_iload_n hx hb d_X_init_191 rfl (lv_at hl 0 rfl) ?_
  refine newO (ci := 5) C rfl u_T_in ty_T_ok (inG 215 (by decide +kernel) (by decide +kernel)) wn_T wi_T hw df_T (Nat.le_of_ble_eq_true rfl) (Nat.le_of_ble_eq_true rfl) d_X_init_192 (fun q192_1 H hw => ?_)
  replace hw : HV g A s (((h0, .inr (6, [.ref q5_0, .ref q16_0, .ref q31_0, .ref q46_0, .ref q61_0, .ref q72_0, .int 0, .ref q88_0, .ref q101_0, .int 0, .ref q114_0, .ref q121_0, .ref q127_0, .ref q140_0])) :: (q101_0, .inl (g.2.2 4, 6, .inr (.inr (.inr (.inr f169_5))))) :: (q140_0, .inl (g.2.2 5, 6, .inr (.inr (.inr (.inr f199_0))))) :: w17) ++ [(q192_1, .inr (5, [.int 0, .int 0, .null]))]) H locs := hw
  refine lv_dup hx hb d_X_init_195 rfl ?_
  refine clN C hE0 hw (invIN (As := []) (host := "LittleLeft") C hE0 hw (mk_T_init g l q192_1) rfl wi_T (List.mem_of_getElem? (i := 5) rfl) wm_T k_T_init rfl nq_T ⟨by decide, by decide⟩ rfl hl.1 rfl (Nat.le_of_ble_eq_true rfl) d_X_init_196 ⟨Nat.le_of_ble_eq_true rfl, Nat.le_of_ble_eq_true rfl⟩) (fun u196_1 H locs hw => ?_)
  obtain ⟨w18, ew18⟩ : ∃ z, z = w17 ++ n1_T g q192_1 u196_1 := ⟨_, rfl⟩
  replace hw : HV g A s ((h0, .inr (6, [.ref q5_0, .ref q16_0, .ref q31_0, .ref q46_0, .ref q61_0, .ref q72_0, .int 0, .ref q88_0, .ref q101_0, .int 0, .ref q114_0, .ref q121_0, .ref q127_0, .ref q140_0])) :: (q101_0, .inl (g.2.2 4, 6, .inr (.inr (.inr (.inr f169_5))))) :: (q140_0, .inl (g.2.2 5, 6, .inr (.inr (.inr (.inr f199_0))))) :: w18) H locs := by rw [ew18]; exact hw
  refine stQ (j := 2) (k := 5) (r := (R_T, F_T, 3)) C hw rfl rfl (List.getElem?_of_mem (List.mem_cons_of_mem _ (List.mem_cons_of_mem _ (List.mem_cons_of_mem _ (by rw [ew18]; exact List.mem_append_right _ (List.mem_of_getElem? (i := 0) rfl)))))) rfl (by decide) d_X_init_199 (fun f199_1 H locs ef199_1 hw => ?_)
  replace hw : HV g A s ((h0, .inr (6, [.ref q5_0, .ref q16_0, .ref q31_0, .ref q46_0, .ref q61_0, .ref q72_0, .int 0, .ref q88_0, .ref q101_0, .int 0, .ref q114_0, .ref q121_0, .ref q127_0, .ref q140_0])) :: (q101_0, .inl (g.2.2 4, 6, .inr (.inr (.inr (.inr f169_5))))) :: (q140_0, .inl (g.2.2 5, 6, .inr (.inr (.inr (.inr f199_1))))) :: w18) H locs := hw
  refine lv_iinc (v := 2) (lv' := [(1, .int 2), (0, .ref h0)]) hx hb d_X_init_200 hl (k := 0) rfl (by first | rfl | decide) (by decide) rfl (fun ls hl => ?_)
  refine lv_goto (tgt := 178) hx hb d_X_init_203 (by decide) ?_
  refine lv_iload_n hx hb d_X_init_178 rfl (lv_at hl 0 rfl) ?_
  refine lv_aload_n hx hb d_X_init_179 rfl (lv_at hl 1 rfl) ?_
  refine getV (v := .ref q140_0) (j := 0) (k := 13) (T := F_X) (N := 14) (Cn := R_X) C hw rfl rfl u_X_in (by decide) (inG 249 (by decide +kernel) (by decide +kernel)) rfl rfl d_X_init_180 ?_
  refine lenQ (j := 2) (k := 5) (C1 := "LittleLeft$Tape") (v := 6) C hw rfl rfl rfl d_X_init_183 ?_
  refine lv_icmp_ge (tgt := 206) hx hb d_X_init_184 (by decide) (fun c => absurd c (by decide)) (fun _ => ?_)
  refine lv_aload_n hx hb d_X_init_187 rfl (lv_at hl 1 rfl) ?_
  refine getV (v := .ref q140_0) (j := 0) (k := 13) (T := F_X) (N := 14) (Cn := R_X) C hw rfl rfl u_X_in (by decide) (inG 249 (by decide +kernel) (by decide +kernel)) rfl rfl d_X_init_188 ?_
  refine lv_iload_n hx hb d_X_init_191 rfl (lv_at hl 0 rfl) ?_
  refine newO (ci := 5) C rfl u_T_in ty_T_ok (inG 215 (by decide +kernel) (by decide +kernel)) wn_T wi_T hw df_T (Nat.le_of_ble_eq_true rfl) (Nat.le_of_ble_eq_true rfl) d_X_init_192 (fun q192_2 H hw => ?_)
  replace hw : HV g A s (((h0, .inr (6, [.ref q5_0, .ref q16_0, .ref q31_0, .ref q46_0, .ref q61_0, .ref q72_0, .int 0, .ref q88_0, .ref q101_0, .int 0, .ref q114_0, .ref q121_0, .ref q127_0, .ref q140_0])) :: (q101_0, .inl (g.2.2 4, 6, .inr (.inr (.inr (.inr f169_5))))) :: (q140_0, .inl (g.2.2 5, 6, .inr (.inr (.inr (.inr f199_1))))) :: w18) ++ [(q192_2, .inr (5, [.int 0, .int 0, .null]))]) H locs := hw
  refine lv_dup hx hb d_X_init_195 rfl ?_
  refine clN C hE0 hw (invIN (As := []) (host := "LittleLeft") C hE0 hw (mk_T_init g l q192_2) rfl wi_T (List.mem_of_getElem? (i := 5) rfl) wm_T k_T_init rfl nq_T ⟨by decide, by decide⟩ rfl hl.1 rfl (Nat.le_of_ble_eq_true rfl) d_X_init_196 ⟨Nat.le_of_ble_eq_true rfl, Nat.le_of_ble_eq_true rfl⟩) (fun u196_2 H locs hw => ?_)
  obtain ⟨w19, ew19⟩ : ∃ z, z = w18 ++ n1_T g q192_2 u196_2 := ⟨_, rfl⟩
  replace hw : HV g A s ((h0, .inr (6, [.ref q5_0, .ref q16_0, .ref q31_0, .ref q46_0, .ref q61_0, .ref q72_0, .int 0, .ref q88_0, .ref q101_0, .int 0, .ref q114_0, .ref q121_0, .ref q127_0, .ref q140_0])) :: (q101_0, .inl (g.2.2 4, 6, .inr (.inr (.inr (.inr f169_5))))) :: (q140_0, .inl (g.2.2 5, 6, .inr (.inr (.inr (.inr f199_1))))) :: w19) H locs := by rw [ew19]; exact hw
  refine stQ (j := 2) (k := 5) (r := (R_T, F_T, 3)) C hw rfl rfl (List.getElem?_of_mem (List.mem_cons_of_mem _ (List.mem_cons_of_mem _ (List.mem_cons_of_mem _ (by rw [ew19]; exact List.mem_append_right _ (List.mem_of_getElem? (i := 0) rfl)))))) rfl (by decide) d_X_init_199 (fun f199_2 H locs ef199_2 hw => ?_)
  replace hw : HV g A s ((h0, .inr (6, [.ref q5_0, .ref q16_0, .ref q31_0, .ref q46_0, .ref q61_0, .ref q72_0, .int 0, .ref q88_0, .ref q101_0, .int 0, .ref q114_0, .ref q121_0, .ref q127_0, .ref q140_0])) :: (q101_0, .inl (g.2.2 4, 6, .inr (.inr (.inr (.inr f169_5))))) :: (q140_0, .inl (g.2.2 5, 6, .inr (.inr (.inr (.inr f199_2))))) :: w19) H locs := hw
  refine lv_iinc (v := 3) (lv' := [(1, .int 3), (0, .ref h0)]) hx hb d_X_init_200 hl (k := 0) rfl (by first | rfl | decide) (by decide) rfl (fun ls hl => ?_)
  refine lv_goto (tgt := 178) hx hb d_X_init_203 (by decide) ?_
  refine lv_iload_n hx hb d_X_init_178 rfl (lv_at hl 0 rfl) ?_
  refine lv_aload_n hx hb d_X_init_179 rfl (lv_at hl 1 rfl) ?_
  refine getV (v := .ref q140_0) (j := 0) (k := 13) (T := F_X) (N := 14) (Cn := R_X) C hw rfl rfl u_X_in (by decide) (inG 249 (by decide +kernel) (by decide +kernel)) rfl rfl d_X_init_180 ?_
  refine lenQ (j := 2) (k := 5) (C1 := "LittleLeft$Tape") (v := 6) C hw rfl rfl rfl d_X_init_183 ?_
  refine lv_icmp_ge (tgt := 206) hx hb d_X_init_184 (by decide) (fun c => absurd c (by decide)) (fun _ => ?_)
  refine lv_aload_n hx hb d_X_init_187 rfl (lv_at hl 1 rfl) ?_
  refine getV (v := .ref q140_0) (j := 0) (k := 13) (T := F_X) (N := 14) (Cn := R_X) C hw rfl rfl u_X_in (by decide) (inG 249 (by decide +kernel) (by decide +kernel)) rfl rfl d_X_init_188 ?_
  refine lv_iload_n hx hb d_X_init_191 rfl (lv_at hl 0 rfl) ?_
  refine newO (ci := 5) C rfl u_T_in ty_T_ok (inG 215 (by decide +kernel) (by decide +kernel)) wn_T wi_T hw df_T (Nat.le_of_ble_eq_true rfl) (Nat.le_of_ble_eq_true rfl) d_X_init_192 (fun q192_3 H hw => ?_)
  replace hw : HV g A s (((h0, .inr (6, [.ref q5_0, .ref q16_0, .ref q31_0, .ref q46_0, .ref q61_0, .ref q72_0, .int 0, .ref q88_0, .ref q101_0, .int 0, .ref q114_0, .ref q121_0, .ref q127_0, .ref q140_0])) :: (q101_0, .inl (g.2.2 4, 6, .inr (.inr (.inr (.inr f169_5))))) :: (q140_0, .inl (g.2.2 5, 6, .inr (.inr (.inr (.inr f199_2))))) :: w19) ++ [(q192_3, .inr (5, [.int 0, .int 0, .null]))]) H locs := hw
  refine lv_dup hx hb d_X_init_195 rfl ?_
  refine clN C hE0 hw (invIN (As := []) (host := "LittleLeft") C hE0 hw (mk_T_init g l q192_3) rfl wi_T (List.mem_of_getElem? (i := 5) rfl) wm_T k_T_init rfl nq_T ⟨by decide, by decide⟩ rfl hl.1 rfl (Nat.le_of_ble_eq_true rfl) d_X_init_196 ⟨Nat.le_of_ble_eq_true rfl, Nat.le_of_ble_eq_true rfl⟩) (fun u196_3 H locs hw => ?_)
  obtain ⟨w20, ew20⟩ : ∃ z, z = w19 ++ n1_T g q192_3 u196_3 := ⟨_, rfl⟩
  replace hw : HV g A s ((h0, .inr (6, [.ref q5_0, .ref q16_0, .ref q31_0, .ref q46_0, .ref q61_0, .ref q72_0, .int 0, .ref q88_0, .ref q101_0, .int 0, .ref q114_0, .ref q121_0, .ref q127_0, .ref q140_0])) :: (q101_0, .inl (g.2.2 4, 6, .inr (.inr (.inr (.inr f169_5))))) :: (q140_0, .inl (g.2.2 5, 6, .inr (.inr (.inr (.inr f199_2))))) :: w20) H locs := by rw [ew20]; exact hw
  refine stQ (j := 2) (k := 5) (r := (R_T, F_T, 3)) C hw rfl rfl (List.getElem?_of_mem (List.mem_cons_of_mem _ (List.mem_cons_of_mem _ (List.mem_cons_of_mem _ (by rw [ew20]; exact List.mem_append_right _ (List.mem_of_getElem? (i := 0) rfl)))))) rfl (by decide) d_X_init_199 (fun f199_3 H locs ef199_3 hw => ?_)
  replace hw : HV g A s ((h0, .inr (6, [.ref q5_0, .ref q16_0, .ref q31_0, .ref q46_0, .ref q61_0, .ref q72_0, .int 0, .ref q88_0, .ref q101_0, .int 0, .ref q114_0, .ref q121_0, .ref q127_0, .ref q140_0])) :: (q101_0, .inl (g.2.2 4, 6, .inr (.inr (.inr (.inr f169_5))))) :: (q140_0, .inl (g.2.2 5, 6, .inr (.inr (.inr (.inr f199_3))))) :: w20) H locs := hw
  refine lv_iinc (v := 4) (lv' := [(1, .int 4), (0, .ref h0)]) hx hb d_X_init_200 hl (k := 0) rfl (by first | rfl | decide) (by decide) rfl (fun ls hl => ?_)
  refine lv_goto (tgt := 178) hx hb d_X_init_203 (by decide) ?_
  refine lv_iload_n hx hb d_X_init_178 rfl (lv_at hl 0 rfl) ?_
  refine lv_aload_n hx hb d_X_init_179 rfl (lv_at hl 1 rfl) ?_
  refine getV (v := .ref q140_0) (j := 0) (k := 13) (T := F_X) (N := 14) (Cn := R_X) C hw rfl rfl u_X_in (by decide) (inG 249 (by decide +kernel) (by decide +kernel)) rfl rfl d_X_init_180 ?_
  refine lenQ (j := 2) (k := 5) (C1 := "LittleLeft$Tape") (v := 6) C hw rfl rfl rfl d_X_init_183 ?_
  refine lv_icmp_ge (tgt := 206) hx hb d_X_init_184 (by decide) (fun c => absurd c (by decide)) (fun _ => ?_)
  refine lv_aload_n hx hb d_X_init_187 rfl (lv_at hl 1 rfl) ?_
  refine getV (v := .ref q140_0) (j := 0) (k := 13) (T := F_X) (N := 14) (Cn := R_X) C hw rfl rfl u_X_in (by decide) (inG 249 (by decide +kernel) (by decide +kernel)) rfl rfl d_X_init_188 ?_
  refine lv_iload_n hx hb d_X_init_191 rfl (lv_at hl 0 rfl) ?_
  refine newO (ci := 5) C rfl u_T_in ty_T_ok (inG 215 (by decide +kernel) (by decide +kernel)) wn_T wi_T hw df_T (Nat.le_of_ble_eq_true rfl) (Nat.le_of_ble_eq_true rfl) d_X_init_192 (fun q192_4 H hw => ?_)
  replace hw : HV g A s (((h0, .inr (6, [.ref q5_0, .ref q16_0, .ref q31_0, .ref q46_0, .ref q61_0, .ref q72_0, .int 0, .ref q88_0, .ref q101_0, .int 0, .ref q114_0, .ref q121_0, .ref q127_0, .ref q140_0])) :: (q101_0, .inl (g.2.2 4, 6, .inr (.inr (.inr (.inr f169_5))))) :: (q140_0, .inl (g.2.2 5, 6, .inr (.inr (.inr (.inr f199_3))))) :: w20) ++ [(q192_4, .inr (5, [.int 0, .int 0, .null]))]) H locs := hw
  refine lv_dup hx hb d_X_init_195 rfl ?_
  refine clN C hE0 hw (invIN (As := []) (host := "LittleLeft") C hE0 hw (mk_T_init g l q192_4) rfl wi_T (List.mem_of_getElem? (i := 5) rfl) wm_T k_T_init rfl nq_T ⟨by decide, by decide⟩ rfl hl.1 rfl (Nat.le_of_ble_eq_true rfl) d_X_init_196 ⟨Nat.le_of_ble_eq_true rfl, Nat.le_of_ble_eq_true rfl⟩) (fun u196_4 H locs hw => ?_)
  obtain ⟨w21, ew21⟩ : ∃ z, z = w20 ++ n1_T g q192_4 u196_4 := ⟨_, rfl⟩
  replace hw : HV g A s ((h0, .inr (6, [.ref q5_0, .ref q16_0, .ref q31_0, .ref q46_0, .ref q61_0, .ref q72_0, .int 0, .ref q88_0, .ref q101_0, .int 0, .ref q114_0, .ref q121_0, .ref q127_0, .ref q140_0])) :: (q101_0, .inl (g.2.2 4, 6, .inr (.inr (.inr (.inr f169_5))))) :: (q140_0, .inl (g.2.2 5, 6, .inr (.inr (.inr (.inr f199_3))))) :: w21) H locs := by rw [ew21]; exact hw
  refine stQ (j := 2) (k := 5) (r := (R_T, F_T, 3)) C hw rfl rfl (List.getElem?_of_mem (List.mem_cons_of_mem _ (List.mem_cons_of_mem _ (List.mem_cons_of_mem _ (by rw [ew21]; exact List.mem_append_right _ (List.mem_of_getElem? (i := 0) rfl)))))) rfl (by decide) d_X_init_199 (fun f199_4 H locs ef199_4 hw => ?_)
  replace hw : HV g A s ((h0, .inr (6, [.ref q5_0, .ref q16_0, .ref q31_0, .ref q46_0, .ref q61_0, .ref q72_0, .int 0, .ref q88_0, .ref q101_0, .int 0, .ref q114_0, .ref q121_0, .ref q127_0, .ref q140_0])) :: (q101_0, .inl (g.2.2 4, 6, .inr (.inr (.inr (.inr f169_5))))) :: (q140_0, .inl (g.2.2 5, 6, .inr (.inr (.inr (.inr f199_4))))) :: w21) H locs := hw
  refine lv_iinc (v := 5) (lv' := [(1, .int 5), (0, .ref h0)]) hx hb d_X_init_200 hl (k := 0) rfl (by first | rfl | decide) (by decide) rfl (fun ls hl => ?_)
  refine lv_goto (tgt := 178) hx hb d_X_init_203 (by decide) ?_
  refine lv_iload_n hx hb d_X_init_178 rfl (lv_at hl 0 rfl) ?_
  refine lv_aload_n hx hb d_X_init_179 rfl (lv_at hl 1 rfl) ?_
  refine getV (v := .ref q140_0) (j := 0) (k := 13) (T := F_X) (N := 14) (Cn := R_X) C hw rfl rfl u_X_in (by decide) (inG 249 (by decide +kernel) (by decide +kernel)) rfl rfl d_X_init_180 ?_
  refine lenQ (j := 2) (k := 5) (C1 := "LittleLeft$Tape") (v := 6) C hw rfl rfl rfl d_X_init_183 ?_
  refine lv_icmp_ge (tgt := 206) hx hb d_X_init_184 (by decide) (fun c => absurd c (by decide)) (fun _ => ?_)
  refine lv_aload_n hx hb d_X_init_187 rfl (lv_at hl 1 rfl) ?_
  refine getV (v := .ref q140_0) (j := 0) (k := 13) (T := F_X) (N := 14) (Cn := R_X) C hw rfl rfl u_X_in (by decide) (inG 249 (by decide +kernel) (by decide +kernel)) rfl rfl d_X_init_188 ?_
  refine lv_iload_n hx hb d_X_init_191 rfl (lv_at hl 0 rfl) ?_
  refine newO (ci := 5) C rfl u_T_in ty_T_ok (inG 215 (by decide +kernel) (by decide +kernel)) wn_T wi_T hw df_T (Nat.le_of_ble_eq_true rfl) (Nat.le_of_ble_eq_true rfl) d_X_init_192 (fun q192_5 H hw => ?_)
  replace hw : HV g A s (((h0, .inr (6, [.ref q5_0, .ref q16_0, .ref q31_0, .ref q46_0, .ref q61_0, .ref q72_0, .int 0, .ref q88_0, .ref q101_0, .int 0, .ref q114_0, .ref q121_0, .ref q127_0, .ref q140_0])) :: (q101_0, .inl (g.2.2 4, 6, .inr (.inr (.inr (.inr f169_5))))) :: (q140_0, .inl (g.2.2 5, 6, .inr (.inr (.inr (.inr f199_4))))) :: w21) ++ [(q192_5, .inr (5, [.int 0, .int 0, .null]))]) H locs := hw
  refine lv_dup hx hb d_X_init_195 rfl ?_
  refine clN C hE0 hw (invIN (As := []) (host := "LittleLeft") C hE0 hw (mk_T_init g l q192_5) rfl wi_T (List.mem_of_getElem? (i := 5) rfl) wm_T k_T_init rfl nq_T ⟨by decide, by decide⟩ rfl hl.1 rfl (Nat.le_of_ble_eq_true rfl) d_X_init_196 ⟨Nat.le_of_ble_eq_true rfl, Nat.le_of_ble_eq_true rfl⟩) (fun u196_5 H locs hw => ?_)
  obtain ⟨w22, ew22⟩ : ∃ z, z = w21 ++ n1_T g q192_5 u196_5 := ⟨_, rfl⟩
  replace hw : HV g A s ((h0, .inr (6, [.ref q5_0, .ref q16_0, .ref q31_0, .ref q46_0, .ref q61_0, .ref q72_0, .int 0, .ref q88_0, .ref q101_0, .int 0, .ref q114_0, .ref q121_0, .ref q127_0, .ref q140_0])) :: (q101_0, .inl (g.2.2 4, 6, .inr (.inr (.inr (.inr f169_5))))) :: (q140_0, .inl (g.2.2 5, 6, .inr (.inr (.inr (.inr f199_4))))) :: w22) H locs := by rw [ew22]; exact hw
  refine stQ (j := 2) (k := 5) (r := (R_T, F_T, 3)) C hw rfl rfl (List.getElem?_of_mem (List.mem_cons_of_mem _ (List.mem_cons_of_mem _ (List.mem_cons_of_mem _ (by rw [ew22]; exact List.mem_append_right _ (List.mem_of_getElem? (i := 0) rfl)))))) rfl (by decide) d_X_init_199 (fun f199_5 H locs ef199_5 hw => ?_)
  replace hw : HV g A s ((h0, .inr (6, [.ref q5_0, .ref q16_0, .ref q31_0, .ref q46_0, .ref q61_0, .ref q72_0, .int 0, .ref q88_0, .ref q101_0, .int 0, .ref q114_0, .ref q121_0, .ref q127_0, .ref q140_0])) :: (q101_0, .inl (g.2.2 4, 6, .inr (.inr (.inr (.inr f169_5))))) :: (q140_0, .inl (g.2.2 5, 6, .inr (.inr (.inr (.inr f199_5))))) :: w22) H locs := hw
  refine lv_iinc (v := 6) (lv' := [(1, .int 6), (0, .ref h0)]) hx hb d_X_init_200 hl (k := 0) rfl (by first | rfl | decide) (by decide) rfl (fun ls hl => ?_)
  refine lv_goto (tgt := 178) hx hb d_X_init_203 (by decide) ?_
  refine lv_iload_n hx hb d_X_init_178 rfl (lv_at hl 0 rfl) ?_
  refine lv_aload_n hx hb d_X_init_179 rfl (lv_at hl 1 rfl) ?_
  refine getV (v := .ref q140_0) (j := 0) (k := 13) (T := F_X) (N := 14) (Cn := R_X) C hw rfl rfl u_X_in (by decide) (inG 249 (by decide +kernel) (by decide +kernel)) rfl rfl d_X_init_180 ?_
  refine lenQ (j := 2) (k := 5) (C1 := "LittleLeft$Tape") (v := 6) C hw rfl rfl rfl d_X_init_183 ?_
  refine lv_icmp_ge (tgt := 206) hx hb d_X_init_184 (by decide) (fun _ => ?_) (fun c => absurd (by decide) c)
  obtain ⟨u, eu⟩ : ∃ z : Nat → Nat, z = (fun k => [h0, q5_0, u9_0 1, u9_0 2, u9_0 3, u9_0 4, u9_0 5, q162_0, u166_0 1, u166_0 2, u166_0 3, u166_0 4, u166_0 5, q162_1, u166_1 1, u166_1 2, u166_1 3, u166_1 4, u166_1 5, q162_2, u166_2 1, u166_2 2, u166_2 3, u166_2 4, u166_2 5, q162_3, u166_3 1, u166_3 2, u166_3 3, u166_3 4, u166_3 5, q162_4, u166_4 1, u166_4 2, u166_4 3, u166_4 4, u166_4 5, q162_5, u166_5 1, u166_5 2, u166_5 3, u166_5 4, u166_5 5, u92_0 2, u92_0 3, u92_0 4, u92_0 5, u92_0 6, u92_0 7, q16_0, u24_0 1, u24_0 2, u24_0 3, u24_0 4, u24_0 5, u24_0 6, u24_0 7, u24_0 8, q31_0, u39_0 1, u39_0 2, u39_0 3, u39_0 4, u39_0 5, u39_0 6, u39_0 7, u39_0 8, q46_0, u54_0 1, u54_0 2, u54_0 3, u54_0 4, u54_0 5, u54_0 6, u54_0 7, u54_0 8, q61_0, u65_0 1, u65_0 2, u65_0 3, q72_0, u76_0 1, u76_0 2, u76_0 3, q88_0, u92_0 1, q101_0, q114_0, q121_0, q127_0, u131_0 1, q140_0, q192_0, u196_0 1, q192_1, u196_1 1, q192_2, u196_2 1, q192_3, u196_3 1, q192_4, u196_4 1, q192_5, u196_5 1].getD k 0) := ⟨_, rfl⟩
  have hf0 : ∀ i, i < 6 → f169_5 i = (fun i => some ((gX g h0 u).2.1 (7 + 6 * i))) i := by
    intro i hi
    rw [eu, ef169_5, ef169_4, ef169_3, ef169_2, ef169_1, ef169_0]
    rcases (show i = 0 ∨ i = 1 ∨ i = 2 ∨ i = 3 ∨ i = 4 ∨ i = 5 by omega) with rfl | rfl | rfl | rfl | rfl | rfl <;> rfl
  have hf1 : ∀ i, i < 6 → f199_5 i = (fun i => some ((gX g h0 u).2.1 (92 + 2 * i))) i := by
    intro i hi
    rw [eu, ef199_5, ef199_4, ef199_3, ef199_2, ef199_1, ef199_0]
    rcases (show i = 0 ∨ i = 1 ∨ i = 2 ∨ i = 3 ∨ i = 4 ∨ i = 5 by omega) with rfl | rfl | rfl | rfl | rfl | rfl <;> rfl
  replace hw := HV.arrq (j := 1) (f' := (fun i => some ((gX g h0 u).2.1 (7 + 6 * i)))) hw rfl hf0
  replace hw : HV g A s ((h0, .inr (6, [.ref q5_0, .ref q16_0, .ref q31_0, .ref q46_0, .ref q61_0, .ref q72_0, .int 0, .ref q88_0, .ref q101_0, .int 0, .ref q114_0, .ref q121_0, .ref q127_0, .ref q140_0])) :: (q101_0, .inl (g.2.2 4, 6, .inr (.inr (.inr (.inr (fun i => some ((gX g h0 u).2.1 (7 + 6 * i)))))))) :: (q140_0, .inl (g.2.2 5, 6, .inr (.inr (.inr (.inr f199_5))))) :: w22) H locs := hw
  replace hw := HV.arrq (j := 2) (f' := (fun i => some ((gX g h0 u).2.1 (92 + 2 * i)))) hw rfl hf1
  replace hw : HV g A s ((h0, .inr (6, [.ref q5_0, .ref q16_0, .ref q31_0, .ref q46_0, .ref q61_0, .ref q72_0, .int 0, .ref q88_0, .ref q101_0, .int 0, .ref q114_0, .ref q121_0, .ref q127_0, .ref q140_0])) :: (q101_0, .inl (g.2.2 4, 6, .inr (.inr (.inr (.inr (fun i => some ((gX g h0 u).2.1 (7 + 6 * i)))))))) :: (q140_0, .inl (g.2.2 5, 6, .inr (.inr (.inr (.inr (fun i => some ((gX g h0 u).2.1 (92 + 2 * i)))))))) :: w22) H locs := hw
  rw [ew22, ew21, ew20, ew19, ew18, ew17, ew16, ew15, ew14, ew13, ew12, ew11, ew10, ew9, ew8, ew7, ew6, ew5, ew4, ew3, ew2, ew1, ew0] at hw
  simp only [List.cons_append, List.append_assoc, List.nil_append, n1_R, n1_Ra, n1_Ka, n1_N, n1_E, n1_A, n1_T, e_R] at hw
  have hs : HV g A s (lX g h0 u) H locs := by
    refine ⟨hw.1.sub [0, 35, 3, 4, 5, 6, 7, 61, 56, 57, 58, 59, 60, 67, 62, 63, 64, 65, 66, 73, 68, 69, 70, 71, 72, 79, 74, 75, 76, 77, 78, 85, 80, 81, 82, 83, 84, 91, 86, 87, 88, 89, 90, 51, 46, 47, 48, 49, 50, 8, 9, 10, 11, 12, 13, 14, 15, 16, 17, 18, 19, 20, 21, 22, 23, 24, 25, 26, 27, 28, 29, 30, 31, 32, 33, 34, 36, 37, 38, 39, 40, 41, 42, 43, 44, 45, 1, 52, 53, 54, 55, 2, 92, 93, 94, 95, 96, 97, 98, 99, 100, 101, 102, 103] ?_, hw.2.1.sub [0, 35, 3, 4, 5, 6, 7, 61, 56, 57, 58, 59, 60, 67, 62, 63, 64, 65, 66, 73, 68, 69, 70, 71, 72, 79, 74, 75, 76, 77, 78, 85, 80, 81, 82, 83, 84, 91, 86, 87, 88, 89, 90, 51, 46, 47, 48, 49, 50, 8, 9, 10, 11, 12, 13, 14, 15, 16, 17, 18, 19, 20, 21, 22, 23, 24, 25, 26, 27, 28, 29, 30, 31, 32, 33, 34, 36, 37, 38, 39, 40, 41, 42, 43, 44, 45, 1, 52, 53, 54, 55, 2, 92, 93, 94, 95, 96, 97, 98, 99, 100, 101, 102, 103] (by decide) ?_, hw.2.2⟩
    · rw [eu]; rfl
    · rw [eu]; rfl
  exact retW u C hs rfl (Nat.le_of_ble_eq_true rfl) (Nat.le_of_ble_eq_true rfl) d_X_init_206
