/-! ===== MAKING: the constructors ===== -/
theorem wo_i : Cond.instanceMethod objectInit ∈ lwG := inG 23 (by decide +kernel) (by decide +kernel)
theorem wo_c : Cond.code objectInit ⟨#[0xb1]⟩ 1 none ∈ lwG := inG 24 (by decide +kernel) (by decide +kernel)
theorem wa_int : Cond.arrayClass .int ∈ lwG := inG 61 (by decide +kernel) (by decide +kernel)
theorem wa_byte : Cond.arrayClass .byte ∈ lwG := inG 138 (by decide +kernel) (by decide +kernel)
theorem wa_long : Cond.arrayClass .long ∈ lwG := inG 235 (by decide +kernel) (by decide +kernel)
theorem wa_boolean : Cond.arrayClass .boolean ∈ lwG := inG 958 (by decide +kernel) (by decide +kernel)
theorem df_A : ∀ j, j < 5 → defaultValue (ty_A j) = vp_V [.null, .int 0, .int 0, .int 0, .int 0] j := fun j hj => match j, hj with
  | 0, _ => rfl
  | 1, _ => rfl
  | 2, _ => rfl
  | 3, _ => rfl
  | 4, _ => rfl
  | j + 5, hj => absurd hj (by omega)
theorem df_K : ∀ j, j < 15 → defaultValue (ty_K j) = vp_V [.int 0, .null, .null, .null, .null, .null, .null, .null, .int 0, .int 0, .null, .int 0, .int 0, .int 0, .null] j := fun j hj => match j, hj with
  | 0, _ => rfl
  | 1, _ => rfl
  | 2, _ => rfl
  | 3, _ => rfl
  | 4, _ => rfl
  | 5, _ => rfl
  | 6, _ => rfl
  | 7, _ => rfl
  | 8, _ => rfl
  | 9, _ => rfl
  | 10, _ => rfl
  | 11, _ => rfl
  | 12, _ => rfl
  | 13, _ => rfl
  | 14, _ => rfl
  | j + 15, hj => absurd hj (by omega)
theorem df_N : ∀ j, j < 5 → defaultValue (ty_N j) = vp_V [.int 0, .null, .null, .int 0, .null] j := fun j hj => match j, hj with
  | 0, _ => rfl
  | 1, _ => rfl
  | 2, _ => rfl
  | 3, _ => rfl
  | 4, _ => rfl
  | j + 5, hj => absurd hj (by omega)
theorem df_E : ∀ j, j < 4 → defaultValue (ty_E j) = vp_V [.null, .int 0, .int 0, .null] j := fun j hj => match j, hj with
  | 0, _ => rfl
  | 1, _ => rfl
  | 2, _ => rfl
  | 3, _ => rfl
  | j + 4, hj => absurd hj (by omega)
theorem df_R : ∀ j, j < 9 → defaultValue (ty_R j) = vp_V [.int 0, .null, .null, .null, .null, .null, .int 0, .int 0, .int 0] j := fun j hj => match j, hj with
  | 0, _ => rfl
  | 1, _ => rfl
  | 2, _ => rfl
  | 3, _ => rfl
  | 4, _ => rfl
  | 5, _ => rfl
  | 6, _ => rfl
  | 7, _ => rfl
  | 8, _ => rfl
  | j + 9, hj => absurd hj (by omega)
theorem df_T : ∀ j, j < 3 → defaultValue (ty_T j) = vp_V [.int 0, .int 0, .null] j := fun j hj => match j, hj with
  | 0, _ => rfl
  | 1, _ => rfl
  | 2, _ => rfl
  | j + 3, hj => absurd hj (by omega)
theorem df_X : ∀ j, j < 14 → defaultValue (ty_X j) = vp_V [.null, .null, .null, .null, .null, .null, .int 0, .null, .null, .int 0, .null, .null, .null, .null] j := fun j hj => match j, hj with
  | 0, _ => rfl
  | 1, _ => rfl
  | 2, _ => rfl
  | 3, _ => rfl
  | 4, _ => rfl
  | 5, _ => rfl
  | 6, _ => rfl
  | 7, _ => rfl
  | 8, _ => rfl
  | 9, _ => rfl
  | 10, _ => rfl
  | 11, _ => rfl
  | 12, _ => rfl
  | 13, _ => rfl
  | j + 14, hj => absurd hj (by omega)
theorem df_M : ∀ j, j < 68 → defaultValue (ty_M j) = vp_V [.int 0, .int 0, .int 0, .null, .null, .null, .null, .null, .null, .null, .int 0, .int 0, .int 0, .int 0, .int 0, .null, .null, .null, .null, .null, .null, .null, .null, .int 0, .int 0, .int 0, .null, .int 0, .int 0, .null, .int 0, .int 0, .int 0, .int 0, .int 0, .null, .null, .null, .null, .null, .int 0, .null, .null, .int 0, .null, .int 0, .int 0, .int 0, .int 0, .int 0, .int 0, .int 0, .null, .null, .null, .null, .null, .null, .null, .null, .null, .null, .int 0, .null, .null, .null, .null, .null] j := fun j hj => match j, hj with
  | 0, _ => rfl
  | 1, _ => rfl
  | 2, _ => rfl
  | 3, _ => rfl
  | 4, _ => rfl
  | 5, _ => rfl
  | 6, _ => rfl
  | 7, _ => rfl
  | 8, _ => rfl
  | 9, _ => rfl
  | 10, _ => rfl
  | 11, _ => rfl
  | 12, _ => rfl
  | 13, _ => rfl
  | 14, _ => rfl
  | 15, _ => rfl
  | 16, _ => rfl
  | 17, _ => rfl
  | 18, _ => rfl
  | 19, _ => rfl
  | 20, _ => rfl
  | 21, _ => rfl
  | 22, _ => rfl
  | 23, _ => rfl
  | 24, _ => rfl
  | 25, _ => rfl
  | 26, _ => rfl
  | 27, _ => rfl
  | 28, _ => rfl
  | 29, _ => rfl
  | 30, _ => rfl
  | 31, _ => rfl
  | 32, _ => rfl
  | 33, _ => rfl
  | 34, _ => rfl
  | 35, _ => rfl
  | 36, _ => rfl
  | 37, _ => rfl
  | 38, _ => rfl
  | 39, _ => rfl
  | 40, _ => rfl
  | 41, _ => rfl
  | 42, _ => rfl
  | 43, _ => rfl
  | 44, _ => rfl
  | 45, _ => rfl
  | 46, _ => rfl
  | 47, _ => rfl
  | 48, _ => rfl
  | 49, _ => rfl
  | 50, _ => rfl
  | 51, _ => rfl
  | 52, _ => rfl
  | 53, _ => rfl
  | 54, _ => rfl
  | 55, _ => rfl
  | 56, _ => rfl
  | 57, _ => rfl
  | 58, _ => rfl
  | 59, _ => rfl
  | 60, _ => rfl
  | 61, _ => rfl
  | 62, _ => rfl
  | 63, _ => rfl
  | 64, _ => rfl
  | 65, _ => rfl
  | 66, _ => rfl
  | 67, _ => rfl
  | j + 68, hj => absurd hj (by omega)
theorem wi_A : Cond.initialized R_A ∈ lwG := inG 7 (by decide +kernel) (by decide +kernel)
theorem wn_A : Cond.instantiable R_A 5 ∈ lwG := inG 192 (by decide +kernel) (by decide +kernel)
theorem wm_A : Cond.instanceMethod y_A_init ∈ lwG := inG 194 (by decide +kernel) (by decide +kernel)
theorem wi_K : Cond.initialized R_K ∈ lwG := inG 3 (by decide +kernel) (by decide +kernel)
theorem wn_K : Cond.instantiable R_K 15 ∈ lwG := inG 63 (by decide +kernel) (by decide +kernel)
theorem wm_K : Cond.instanceMethod y_K_init ∈ lwG := inG 65 (by decide +kernel) (by decide +kernel)
theorem wi_N : Cond.initialized R_N ∈ lwG := inG 5 (by decide +kernel) (by decide +kernel)
theorem wn_N : Cond.instantiable R_N 5 ∈ lwG := inG 140 (by decide +kernel) (by decide +kernel)
theorem wm_N : Cond.instanceMethod y_N_init ∈ lwG := inG 142 (by decide +kernel) (by decide +kernel)
theorem wi_E : Cond.initialized R_E ∈ lwG := inG 6 (by decide +kernel) (by decide +kernel)
theorem wn_E : Cond.instantiable R_E 4 ∈ lwG := inG 167 (by decide +kernel) (by decide +kernel)
theorem wm_E : Cond.instanceMethod y_E_init ∈ lwG := inG 169 (by decide +kernel) (by decide +kernel)
theorem wi_R : Cond.initialized R_R ∈ lwG := inG 2 (by decide +kernel) (by decide +kernel)
theorem wn_R : Cond.instantiable R_R 9 ∈ lwG := inG 26 (by decide +kernel) (by decide +kernel)
theorem wm_R : Cond.instanceMethod y_R_init ∈ lwG := inG 28 (by decide +kernel) (by decide +kernel)
theorem wi_T : Cond.initialized R_T ∈ lwG := inG 8 (by decide +kernel) (by decide +kernel)
theorem wn_T : Cond.instantiable R_T 3 ∈ lwG := inG 217 (by decide +kernel) (by decide +kernel)
theorem wm_T : Cond.instanceMethod y_T_init ∈ lwG := inG 219 (by decide +kernel) (by decide +kernel)
theorem wi_X : Cond.initialized R_X ∈ lwG := inG 1 (by decide +kernel) (by decide +kernel)
theorem wn_X : Cond.instantiable R_X 14 ∈ lwG := inG 18 (by decide +kernel) (by decide +kernel)
theorem wm_X : Cond.instanceMethod y_X_init ∈ lwG := inG 20 (by decide +kernel) (by decide +kernel)
theorem wi_M : Cond.initialized R_M ∈ lwG := inG 9 (by decide +kernel) (by decide +kernel)
theorem wn_M : Cond.instantiable R_M 68 ∈ lwG := inG 748 (by decide +kernel) (by decide +kernel)
theorem wm_M : Cond.instanceMethod y_M_init ∈ lwG := inG 750 (by decide +kernel) (by decide +kernel)
theorem wo_A : Cond.methodLink R_A 3 objectInit ∈ lwG := inG 196 (by decide +kernel) (by decide +kernel)
theorem wo_K : Cond.methodLink R_K 3 objectInit ∈ lwG := inG 67 (by decide +kernel) (by decide +kernel)
theorem wo_N : Cond.methodLink R_N 3 objectInit ∈ lwG := inG 144 (by decide +kernel) (by decide +kernel)
theorem wo_E : Cond.methodLink R_E 3 objectInit ∈ lwG := inG 171 (by decide +kernel) (by decide +kernel)
theorem wo_R : Cond.methodLink R_R 3 objectInit ∈ lwG := inG 30 (by decide +kernel) (by decide +kernel)
theorem wo_T : Cond.methodLink R_T 3 objectInit ∈ lwG := inG 221 (by decide +kernel) (by decide +kernel)
theorem wo_X : Cond.methodLink R_X 3 objectInit ∈ lwG := inG 22 (by decide +kernel) (by decide +kernel)
theorem wo_M : Cond.methodLink R_M 1 objectInit ∈ lwG := inG 752 (by decide +kernel) (by decide +kernel)
def n1_R (g : GX) (h : Nat) (u : Nat → Nat) : va_W := [(u 1, .inl (g.2.2 0, 10, .inl (fun _ => 0))), (u 2, .inl (g.2.2 0, 10, .inl (fun _ => 0))), (u 3, .inl (g.2.2 0, 10, .inl (fun _ => 0))), (u 4, .inl (g.2.2 0, 10, .inl (fun _ => 0))), (u 5, .inl (g.2.2 0, 100, .inl (fun _ => 0))), (h, .inr (4, [.int 0, .ref (u 1), .ref (u 2), .ref (u 3), .ref (u 4), .ref (u 5), .int 0, .int 5, .int 200]))]
def n1_N (g : GX) (h : Nat) (u : Nat → Nat) : va_W := [(h, .inr (2, [.int 0, .ref (u 1), .ref (u 2), .int 0, .ref (u 3)])), (u 1, .inl (g.2.2 0, 6, .inl (fun _ => 0))), (u 2, .inl (g.2.2 0, 6, .inl (fun _ => 0))), (u 3, .inl (g.2.2 0, 12, .inl (fun _ => 0)))]
def n1_A (g : GX) (h : Nat) (u : Nat → Nat) : va_W := [(h, .inr (0, [.ref (u 1), .int 0, .int 0, .int 0, .int 0])), (u 1, .inl (g.2.2 0, 20, .inl (fun _ => 0)))]
def n1_T (g : GX) (h : Nat) (u : Nat → Nat) : va_W := [(h, .inr (5, [.int (-1), .int 0, .ref (u 1)])), (u 1, .inl (g.2.2 2, 60, .inr (.inl (fun _ => 0))))]
def n1_E (g : GX) (h : Nat) (u : Nat → Nat) : va_W := [(h, .inr (3, [.ref (u 1), .int 0, .int 0, .ref (u 2)])), (u 1, .inl (g.2.2 1, 100, .inl (fun _ => 0)))] ++ n1_R g (u 2) (fun k => u (2 + k))
def e_R (q : Nat) (u : Nat → Nat) : Nat × va_E := (q, .inr (4, [.int 0, .ref (u 1), .ref (u 2), .ref (u 3), .ref (u 4), .ref (u 5), .int 0, .int 5, .int 200]))
def n1_K (g : GX) (h r : Nat) (v : Nat → Nat) (u : Nat → Nat) : va_W := [(h, .inr (1, [.int 0, .ref (u 1), .ref (u 2), .ref (u 3), .ref (u 4), .ref (u 5), .ref (u 6), .ref (u 7), .int 100, .int 0, .ref r, .int 5, .int 200, .int 0, .ref (u 8)])), (u 1, .inl (g.2.2 0, 6, .inl (fun _ => 0))), (u 2, .inl (g.2.2 0, 6, .inl (fun _ => 0))), (u 3, .inl (g.2.2 0, 6, .inl (fun _ => 0))), (u 4, .inl (g.2.2 0, 6, .inl (fun _ => 0))), (u 5, .inl (g.2.2 0, 6, .inl (fun _ => 0))), (u 6, .inl (g.2.2 0, 6, .inl (fun _ => 0))), (u 7, .inl (g.2.2 0, 24, .inl (fun _ => 0))), (u 8, .inl (g.2.2 0, 6, .inl (fun _ => 0)))] ++ [e_R r v]
set_option maxHeartbeats 4000000 in
set_option maxRecDepth 100000 in
theorem mk_R_init (g : GX) (l : Launch) (h0 : Nat) : CN l y_R_init (v_R_init :: lwG) 1 5 140 [.ref h0] g [(h0, .inr (4, [.int 0, .null, .null, .null, .null, .null, .int 0, .int 0, .int 0]))] (fun u => n1_R g h0 u) := by
  refine mkN (cc := b_R_init) (maxL := 1) rfl (by decide) rfl rfl (Nat.le_of_ble_eq_true rfl) ?_
  intro p e s m args below meth c A ls C hin hE0 hl hw
  obtain ⟨hx, hb, hr, hml, hown, hts, hK, hE, hA, hlk⟩ := id C
  replace hl : lv_has ls 1 [(0, .ref h0)] := hl
  obtain ⟨H, hH⟩ : ∃ z, z = s.heap := ⟨_, rfl⟩
  rw [← hH] at hw ⊢
  obtain ⟨locs, hlo⟩ : ∃ z : List Loc, z = [] := ⟨_, rfl⟩
  rw [← hlo] at hw ⊢
  obtain ⟨fs0, efs0⟩ : ∃ z : List Value, z = [.int 0, .null, .null, .null, .null, .null, .int 0, .int 0, .int 0] := ⟨_, rfl⟩
  have hfl : fs0.length = 9 := by rw [efs0]; rfl
  obtain ⟨w0, ew0⟩ : ∃ z : va_W, z = [] := ⟨_, rfl⟩
  replace hw : HV g A s ((h0, .inr (4, fs0)) :: w0) H locs := by rw [efs0, ew0]; exact hw
  refine lv_aload_n hx hb d_R_init_0 rfl (lv_at hl 0 rfl) ?_
  refine W.objInit hx hb hown (hts _ wo_R) (hts _ wo_i) (hts _ wo_c) rfl (by rw [hml]; exact hl.1) rfl d_R_init_1 (Nat.le_of_ble_eq_true rfl) (Nat.le_of_ble_eq_true rfl) ?_
  refine W.eq (g2 := F0 m 4 ls []) rfl ?_
  refine lv_aload_n hx hb d_R_init_4 rfl (lv_at hl 0 rfl) ?_
  refine lv_iconst (v := 0) hx hb d_R_init_5 (by decide) ?_
  refine putV (v := .int 0) (k := 0) (ty0 := ty_R) C hin hw rfl u_R_in ty_R_ok n_R (by decide) (inG 31 (by decide +kernel) (by decide +kernel)) rfl rfl (by first | rfl | decide) (by first | rfl | decide) hfl d_R_init_6 (fun fs1 H locs efs1 hfl hw => ?_)
  refine lv_aload_n hx hb d_R_init_9 rfl (lv_at hl 0 rfl) ?_
  refine lv_bipush (v := 10) hx hb d_R_init_10 (by decide) ?_
  refine newV (atype := .int) (N' := 10) (k := 0) (a0 := (10, .inl (fun _ => 0))) C rfl rfl (fun _ h1 h2 => ra_p h1 h2) wa_int hw (fun _ => rfl) (by decide) (by decide) (Nat.le_of_ble_eq_true rfl) (Nat.le_of_ble_eq_true rfl) (Nat.le_of_ble_eq_true rfl) d_R_init_12 (fun q12 H hw => ?_)
  obtain ⟨w1, ew1⟩ : ∃ z, z = w0 ++ [(q12, .inl (g.2.2 0, 10, .inl (fun _ => 0)))] := ⟨_, rfl⟩
  replace hw : HV g A s ((h0, .inr (4, fs1)) :: w1) H locs := by rw [ew1]; exact hw
  refine putV (v := .ref q12) (k := 1) (ty0 := ty_R) C hin hw rfl u_R_in ty_R_ok n_R (by decide) (inG 32 (by decide +kernel) (by decide +kernel)) rfl rfl (by first | rfl | decide) (by first | rfl | decide) hfl d_R_init_14 (fun fs2 H locs efs2 hfl hw => ?_)
  refine lv_aload_n hx hb d_R_init_17 rfl (lv_at hl 0 rfl) ?_
  refine lv_bipush (v := 10) hx hb d_R_init_18 (by decide) ?_
  refine newV (atype := .int) (N' := 10) (k := 0) (a0 := (10, .inl (fun _ => 0))) C rfl rfl (fun _ h1 h2 => ra_p h1 h2) wa_int hw (fun _ => rfl) (by decide) (by decide) (Nat.le_of_ble_eq_true rfl) (Nat.le_of_ble_eq_true rfl) (Nat.le_of_ble_eq_true rfl) d_R_init_20 (fun q20 H hw => ?_)
  obtain ⟨w2, ew2⟩ : ∃ z, z = w1 ++ [(q20, .inl (g.2.2 0, 10, .inl (fun _ => 0)))] := ⟨_, rfl⟩
  replace hw : HV g A s ((h0, .inr (4, fs2)) :: w2) H locs := by rw [ew2]; exact hw
  refine putV (v := .ref q20) (k := 2) (ty0 := ty_R) C hin hw rfl u_R_in ty_R_ok n_R (by decide) (inG 33 (by decide +kernel) (by decide +kernel)) rfl rfl (by first | rfl | decide) (by first | rfl | decide) hfl d_R_init_22 (fun fs3 H locs efs3 hfl hw => ?_)
  refine lv_aload_n hx hb d_R_init_25 rfl (lv_at hl 0 rfl) ?_
  refine lv_bipush (v := 10) hx hb d_R_init_26 (by decide) ?_
  refine newV (atype := .int) (N' := 10) (k := 0) (a0 := (10, .inl (fun _ => 0))) C rfl rfl (fun _ h1 h2 => ra_p h1 h2) wa_int hw (fun _ => rfl) (by decide) (by decide) (Nat.le_of_ble_eq_true rfl) (Nat.le_of_ble_eq_true rfl) (Nat.le_of_ble_eq_true rfl) d_R_init_28 (fun q28 H hw => ?_)
  obtain ⟨w3, ew3⟩ : ∃ z, z = w2 ++ [(q28, .inl (g.2.2 0, 10, .inl (fun _ => 0)))] := ⟨_, rfl⟩
  replace hw : HV g A s ((h0, .inr (4, fs3)) :: w3) H locs := by rw [ew3]; exact hw
  refine putV (v := .ref q28) (k := 3) (ty0 := ty_R) C hin hw rfl u_R_in ty_R_ok n_R (by decide) (inG 34 (by decide +kernel) (by decide +kernel)) rfl rfl (by first | rfl | decide) (by first | rfl | decide) hfl d_R_init_30 (fun fs4 H locs efs4 hfl hw => ?_)
  refine lv_aload_n hx hb d_R_init_33 rfl (lv_at hl 0 rfl) ?_
  refine lv_bipush (v := 10) hx hb d_R_init_34 (by decide) ?_
  refine newV (atype := .int) (N' := 10) (k := 0) (a0 := (10, .inl (fun _ => 0))) C rfl rfl (fun _ h1 h2 => ra_p h1 h2) wa_int hw (fun _ => rfl) (by decide) (by decide) (Nat.le_of_ble_eq_true rfl) (Nat.le_of_ble_eq_true rfl) (Nat.le_of_ble_eq_true rfl) d_R_init_36 (fun q36 H hw => ?_)
  obtain ⟨w4, ew4⟩ : ∃ z, z = w3 ++ [(q36, .inl (g.2.2 0, 10, .inl (fun _ => 0)))] := ⟨_, rfl⟩
  replace hw : HV g A s ((h0, .inr (4, fs4)) :: w4) H locs := by rw [ew4]; exact hw
  refine putV (v := .ref q36) (k := 4) (ty0 := ty_R) C hin hw rfl u_R_in ty_R_ok n_R (by decide) (inG 35 (by decide +kernel) (by decide +kernel)) rfl rfl (by first | rfl | decide) (by first | rfl | decide) hfl d_R_init_38 (fun fs5 H locs efs5 hfl hw => ?_)
  refine lv_aload_n hx hb d_R_init_41 rfl (lv_at hl 0 rfl) ?_
  refine lv_bipush (v := 100) hx hb d_R_init_42 (by decide) ?_
  refine newV (atype := .int) (N' := 100) (k := 0) (a0 := (100, .inl (fun _ => 0))) C rfl rfl (fun _ h1 h2 => ra_p h1 h2) wa_int hw (fun _ => rfl) (by decide) (by decide) (Nat.le_of_ble_eq_true rfl) (Nat.le_of_ble_eq_true rfl) (Nat.le_of_ble_eq_true rfl) d_R_init_44 (fun q44 H hw => ?_)
  obtain ⟨w5, ew5⟩ : ∃ z, z = w4 ++ [(q44, .inl (g.2.2 0, 100, .inl (fun _ => 0)))] := ⟨_, rfl⟩
  replace hw : HV g A s ((h0, .inr (4, fs5)) :: w5) H locs := by rw [ew5]; exact hw
  refine putV (v := .ref q44) (k := 5) (ty0 := ty_R) C hin hw rfl u_R_in ty_R_ok n_R (by decide) (inG 36 (by decide +kernel) (by decide +kernel)) rfl rfl (by first | rfl | decide) (by first | rfl | decide) hfl d_R_init_46 (fun fs6 H locs efs6 hfl hw => ?_)
  refine lv_aload_n hx hb d_R_init_49 rfl (lv_at hl 0 rfl) ?_
  refine lv_iconst (v := 0) hx hb d_R_init_50 (by decide) ?_
  refine putV (v := .int 0) (k := 6) (ty0 := ty_R) C hin hw rfl u_R_in ty_R_ok n_R (by decide) (inG 37 (by decide +kernel) (by decide +kernel)) rfl rfl (by first | rfl | decide) (by first | rfl | decide) hfl d_R_init_51 (fun fs7 H locs efs7 hfl hw => ?_)
  refine lv_aload_n hx hb d_R_init_54 rfl (lv_at hl 0 rfl) ?_
  refine lv_iconst (v := 5) hx hb d_R_init_55 (by decide) ?_
  refine putV (v := .int 5) (k := 7) (ty0 := ty_R) C hin hw rfl u_R_in ty_R_ok n_R (by decide) (inG 38 (by decide +kernel) (by decide +kernel)) rfl rfl (by first | rfl | decide) (by first | rfl | decide) hfl d_R_init_56 (fun fs8 H locs efs8 hfl hw => ?_)
  refine lv_aload_n hx hb d_R_init_59 rfl (lv_at hl 0 rfl) ?_
  refine lv_sipush (v := 200) hx hb d_R_init_60 (by decide) ?_
  refine putV (v := .int 200) (k := 8) (ty0 := ty_R) C hin hw rfl u_R_in ty_R_ok n_R (by decide) (inG 40 (by decide +kernel) (by decide +kernel)) rfl rfl (by first | rfl | decide) (by first | rfl | decide) hfl d_R_init_63 (fun fs9 H locs efs9 hfl hw => ?_)
  replace hw : HV g A s (([] ++ w5) ++ [(h0, .inr (4, fs9))]) H locs := HV.swap (a := []) (b := [(h0, .inr (4, fs9))]) (c := w5) hw
  exact retW (fun k => [0, q12, q20, q28, q36, q44].getD k 0) C hw (by subst efs0 ew0 efs1 ew1 efs2 ew2 efs3 ew3 efs4 ew4 efs5 ew5 efs6 efs7 efs8 efs9; rfl) (Nat.le_of_ble_eq_true rfl) (Nat.le_of_ble_eq_true rfl) d_R_init_66
set_option maxHeartbeats 4000000 in
set_option maxRecDepth 100000 in
theorem mk_N_init (g : GX) (l : Launch) (h0 : Nat) : CN l y_N_init (v_N_init :: lwG) 1 3 24 [.ref h0] g [(h0, .inr (2, [.int 0, .null, .null, .int 0, .null]))] (fun u => n1_N g h0 u) := by
  refine mkN (cc := b_N_init) (maxL := 1) rfl (by decide) rfl rfl (Nat.le_of_ble_eq_true rfl) ?_
  intro p e s m args below meth c A ls C hin hE0 hl hw
  obtain ⟨hx, hb, hr, hml, hown, hts, hK, hE, hA, hlk⟩ := id C
  replace hl : lv_has ls 1 [(0, .ref h0)] := hl
  obtain ⟨H, hH⟩ : ∃ z, z = s.heap := ⟨_, rfl⟩
  rw [← hH] at hw ⊢
  obtain ⟨locs, hlo⟩ : ∃ z : List Loc, z = [] := ⟨_, rfl⟩
  rw [← hlo] at hw ⊢
  obtain ⟨fs0, efs0⟩ : ∃ z : List Value, z = [.int 0, .null, .null, .int 0, .null] := ⟨_, rfl⟩
  have hfl : fs0.length = 5 := by rw [efs0]; rfl
  obtain ⟨w0, ew0⟩ : ∃ z : va_W, z = [] := ⟨_, rfl⟩
  replace hw : HV g A s ((h0, .inr (2, fs0)) :: w0) H locs := by rw [efs0, ew0]; exact hw
  refine lv_aload_n hx hb d_N_init_0 rfl (lv_at hl 0 rfl) ?_
  refine W.objInit hx hb hown (hts _ wo_N) (hts _ wo_i) (hts _ wo_c) rfl (by rw [hml]; exact hl.1) rfl d_N_init_1 (Nat.le_of_ble_eq_true rfl) (Nat.le_of_ble_eq_true rfl) ?_
  refine W.eq (g2 := F0 m 4 ls []) rfl ?_
  refine lv_aload_n hx hb d_N_init_4 rfl (lv_at hl 0 rfl) ?_
  refine lv_iconst (v := 0) hx hb d_N_init_5 (by decide) ?_
  refine putV (v := .int 0) (k := 0) (ty0 := ty_N) C hin hw rfl u_N_in ty_N_ok n_N (by decide) (inG 145 (by decide +kernel) (by decide +kernel)) rfl rfl (by first | rfl | decide) (by first | rfl | decide) hfl d_N_init_6 (fun fs1 H locs efs1 hfl hw => ?_)
  refine lv_aload_n hx hb d_N_init_9 rfl (lv_at hl 0 rfl) ?_
  refine lv_bipush (v := 6) hx hb d_N_init_10 (by decide) ?_
  refine newV (atype := .int) (N' := 6) (k := 0) (a0 := (6, .inl (fun _ => 0))) C rfl rfl (fun _ h1 h2 => ra_p h1 h2) wa_int hw (fun _ => rfl) (by decide) (by decide) (Nat.le_of_ble_eq_true rfl) (Nat.le_of_ble_eq_true rfl) (Nat.le_of_ble_eq_true rfl) d_N_init_12 (fun q12 H hw => ?_)
  obtain ⟨w1, ew1⟩ : ∃ z, z = w0 ++ [(q12, .inl (g.2.2 0, 6, .inl (fun _ => 0)))] := ⟨_, rfl⟩
  replace hw : HV g A s ((h0, .inr (2, fs1)) :: w1) H locs := by rw [ew1]; exact hw
  refine putV (v := .ref q12) (k := 1) (ty0 := ty_N) C hin hw rfl u_N_in ty_N_ok n_N (by decide) (inG 147 (by decide +kernel) (by decide +kernel)) rfl rfl (by first | rfl | decide) (by first | rfl | decide) hfl d_N_init_14 (fun fs2 H locs efs2 hfl hw => ?_)
  refine lv_aload_n hx hb d_N_init_17 rfl (lv_at hl 0 rfl) ?_
  refine lv_bipush (v := 6) hx hb d_N_init_18 (by decide) ?_
  refine newV (atype := .int) (N' := 6) (k := 0) (a0 := (6, .inl (fun _ => 0))) C rfl rfl (fun _ h1 h2 => ra_p h1 h2) wa_int hw (fun _ => rfl) (by decide) (by decide) (Nat.le_of_ble_eq_true rfl) (Nat.le_of_ble_eq_true rfl) (Nat.le_of_ble_eq_true rfl) d_N_init_20 (fun q20 H hw => ?_)
  obtain ⟨w2, ew2⟩ : ∃ z, z = w1 ++ [(q20, .inl (g.2.2 0, 6, .inl (fun _ => 0)))] := ⟨_, rfl⟩
  replace hw : HV g A s ((h0, .inr (2, fs2)) :: w2) H locs := by rw [ew2]; exact hw
  refine putV (v := .ref q20) (k := 2) (ty0 := ty_N) C hin hw rfl u_N_in ty_N_ok n_N (by decide) (inG 149 (by decide +kernel) (by decide +kernel)) rfl rfl (by first | rfl | decide) (by first | rfl | decide) hfl d_N_init_22 (fun fs3 H locs efs3 hfl hw => ?_)
  refine lv_aload_n hx hb d_N_init_25 rfl (lv_at hl 0 rfl) ?_
  refine lv_iconst (v := 0) hx hb d_N_init_26 (by decide) ?_
  refine putV (v := .int 0) (k := 3) (ty0 := ty_N) C hin hw rfl u_N_in ty_N_ok n_N (by decide) (inG 151 (by decide +kernel) (by decide +kernel)) rfl rfl (by first | rfl | decide) (by first | rfl | decide) hfl d_N_init_27 (fun fs4 H locs efs4 hfl hw => ?_)
  refine lv_aload_n hx hb d_N_init_30 rfl (lv_at hl 0 rfl) ?_
  refine lv_bipush (v := 12) hx hb d_N_init_31 (by decide) ?_
  refine newV (atype := .int) (N' := 12) (k := 0) (a0 := (12, .inl (fun _ => 0))) C rfl rfl (fun _ h1 h2 => ra_p h1 h2) wa_int hw (fun _ => rfl) (by decide) (by decide) (Nat.le_of_ble_eq_true rfl) (Nat.le_of_ble_eq_true rfl) (Nat.le_of_ble_eq_true rfl) d_N_init_33 (fun q33 H hw => ?_)
  obtain ⟨w3, ew3⟩ : ∃ z, z = w2 ++ [(q33, .inl (g.2.2 0, 12, .inl (fun _ => 0)))] := ⟨_, rfl⟩
  replace hw : HV g A s ((h0, .inr (2, fs4)) :: w3) H locs := by rw [ew3]; exact hw
  refine putV (v := .ref q33) (k := 4) (ty0 := ty_N) C hin hw rfl u_N_in ty_N_ok n_N (by decide) (inG 153 (by decide +kernel) (by decide +kernel)) rfl rfl (by first | rfl | decide) (by first | rfl | decide) hfl d_N_init_35 (fun fs5 H locs efs5 hfl hw => ?_)
  exact retW (fun k => [0, q12, q20, q33].getD k 0) C hw (by subst efs0 ew0 efs1 ew1 efs2 ew2 efs3 efs4 ew3 efs5; rfl) (Nat.le_of_ble_eq_true rfl) (Nat.le_of_ble_eq_true rfl) d_N_init_38
set_option maxHeartbeats 4000000 in
set_option maxRecDepth 100000 in
theorem mk_A_init (g : GX) (l : Launch) (h0 : Nat) : CN l y_A_init (v_A_init :: lwG) 1 1 20 [.ref h0] g [(h0, .inr (0, [.null, .int 0, .int 0, .int 0, .int 0]))] (fun u => n1_A g h0 u) := by
  refine mkN (cc := b_A_init) (maxL := 1) rfl (by decide) rfl rfl (Nat.le_of_ble_eq_true rfl) ?_
  intro p e s m args below meth c A ls C hin hE0 hl hw
  obtain ⟨hx, hb, hr, hml, hown, hts, hK, hE, hA, hlk⟩ := id C
  replace hl : lv_has ls 1 [(0, .ref h0)] := hl
  obtain ⟨H, hH⟩ : ∃ z, z = s.heap := ⟨_, rfl⟩
  rw [← hH] at hw ⊢
  obtain ⟨locs, hlo⟩ : ∃ z : List Loc, z = [] := ⟨_, rfl⟩
  rw [← hlo] at hw ⊢
  obtain ⟨fs0, efs0⟩ : ∃ z : List Value, z = [.null, .int 0, .int 0, .int 0, .int 0] := ⟨_, rfl⟩
  have hfl : fs0.length = 5 := by rw [efs0]; rfl
  obtain ⟨w0, ew0⟩ : ∃ z : va_W, z = [] := ⟨_, rfl⟩
  replace hw : HV g A s ((h0, .inr (0, fs0)) :: w0) H locs := by rw [efs0, ew0]; exact hw
  refine lv_aload_n hx hb d_A_init_0 rfl (lv_at hl 0 rfl) ?_
  refine W.objInit hx hb hown (hts _ wo_A) (hts _ wo_i) (hts _ wo_c) rfl (by rw [hml]; exact hl.1) rfl d_A_init_1 (Nat.le_of_ble_eq_true rfl) (Nat.le_of_ble_eq_true rfl) ?_
  refine W.eq (g2 := F0 m 4 ls []) rfl ?_
  refine lv_aload_n hx hb d_A_init_4 rfl (lv_at hl 0 rfl) ?_
  refine lv_bipush (v := 20) hx hb d_A_init_5 (by decide) ?_
  refine newV (atype := .int) (N' := 20) (k := 0) (a0 := (20, .inl (fun _ => 0))) C rfl rfl (fun _ h1 h2 => ra_p h1 h2) wa_int hw (fun _ => rfl) (by decide) (by decide) (Nat.le_of_ble_eq_true rfl) (Nat.le_of_ble_eq_true rfl) (Nat.le_of_ble_eq_true rfl) d_A_init_7 (fun q7 H hw => ?_)
  obtain ⟨w1, ew1⟩ : ∃ z, z = w0 ++ [(q7, .inl (g.2.2 0, 20, .inl (fun _ => 0)))] := ⟨_, rfl⟩
  replace hw : HV g A s ((h0, .inr (0, fs0)) :: w1) H locs := by rw [ew1]; exact hw
  refine putV (v := .ref q7) (k := 0) (ty0 := ty_A) C hin hw rfl u_A_in ty_A_ok n_A (by decide) (inG 197 (by decide +kernel) (by decide +kernel)) rfl rfl (by first | rfl | decide) (by first | rfl | decide) hfl d_A_init_9 (fun fs1 H locs efs1 hfl hw => ?_)
  refine lv_aload_n hx hb d_A_init_12 rfl (lv_at hl 0 rfl) ?_
  refine lv_iconst (v := 0) hx hb d_A_init_13 (by decide) ?_
  refine putV (v := .int 0) (k := 1) (ty0 := ty_A) C hin hw rfl u_A_in ty_A_ok n_A (by decide) (inG 199 (by decide +kernel) (by decide +kernel)) rfl rfl (by first | rfl | decide) (by first | rfl | decide) hfl d_A_init_14 (fun fs2 H locs efs2 hfl hw => ?_)
  refine lv_aload_n hx hb d_A_init_17 rfl (lv_at hl 0 rfl) ?_
  refine lv_iconst (v := 0) hx hb d_A_init_18 (by decide) ?_
  refine putV (v := .int 0) (k := 2) (ty0 := ty_A) C hin hw rfl u_A_in ty_A_ok n_A (by decide) (inG 201 (by decide +kernel) (by decide +kernel)) rfl rfl (by first | rfl | decide) (by first | rfl | decide) hfl d_A_init_19 (fun fs3 H locs efs3 hfl hw => ?_)
  refine lv_aload_n hx hb d_A_init_22 rfl (lv_at hl 0 rfl) ?_
  refine lv_iconst (v := 0) hx hb d_A_init_23 (by decide) ?_
  refine putV (v := .int 0) (k := 3) (ty0 := ty_A) C hin hw rfl u_A_in ty_A_ok n_A (by decide) (inG 202 (by decide +kernel) (by decide +kernel)) rfl rfl (by first | rfl | decide) (by first | rfl | decide) hfl d_A_init_24 (fun fs4 H locs efs4 hfl hw => ?_)
  refine lv_aload_n hx hb d_A_init_27 rfl (lv_at hl 0 rfl) ?_
  refine lv_iconst (v := 0) hx hb d_A_init_28 (by decide) ?_
  refine putV (v := .int 0) (k := 4) (ty0 := ty_A) C hin hw rfl u_A_in ty_A_ok n_A (by decide) (inG 203 (by decide +kernel) (by decide +kernel)) rfl rfl (by first | rfl | decide) (by first | rfl | decide) hfl d_A_init_29 (fun fs5 H locs efs5 hfl hw => ?_)
  exact retW (fun k => [0, q7].getD k 0) C hw (by subst efs0 ew0 ew1 efs1 efs2 efs3 efs4 efs5; rfl) (Nat.le_of_ble_eq_true rfl) (Nat.le_of_ble_eq_true rfl) d_A_init_32
set_option maxHeartbeats 4000000 in
set_option maxRecDepth 100000 in
theorem mk_T_init (g : GX) (l : Launch) (h0 : Nat) : CN l y_T_init (v_T_init :: lwG) 1 1 60 [.ref h0] g [(h0, .inr (5, [.int 0, .int 0, .null]))] (fun u => n1_T g h0 u) := by
  refine mkN (cc := b_T_init) (maxL := 1) rfl (by decide) rfl rfl (Nat.le_of_ble_eq_true rfl) ?_
  intro p e s m args below meth c A ls C hin hE0 hl hw
  obtain ⟨hx, hb, hr, hml, hown, hts, hK, hE, hA, hlk⟩ := id C
  replace hl : lv_has ls 1 [(0, .ref h0)] := hl
  obtain ⟨H, hH⟩ : ∃ z, z = s.heap := ⟨_, rfl⟩
  rw [← hH] at hw ⊢
  obtain ⟨locs, hlo⟩ : ∃ z : List Loc, z = [] := ⟨_, rfl⟩
  rw [← hlo] at hw ⊢
  obtain ⟨fs0, efs0⟩ : ∃ z : List Value, z = [.int 0, .int 0, .null] := ⟨_, rfl⟩
  have hfl : fs0.length = 3 := by rw [efs0]; rfl
  obtain ⟨w0, ew0⟩ : ∃ z : va_W, z = [] := ⟨_, rfl⟩
  replace hw : HV g A s ((h0, .inr (5, fs0)) :: w0) H locs := by rw [efs0, ew0]; exact hw
  refine lv_aload_n hx hb d_T_init_0 rfl (lv_at hl 0 rfl) ?_
  refine W.objInit hx hb hown (hts _ wo_T) (hts _ wo_i) (hts _ wo_c) rfl (by rw [hml]; exact hl.1) rfl d_T_init_1 (Nat.le_of_ble_eq_true rfl) (Nat.le_of_ble_eq_true rfl) ?_
  refine W.eq (g2 := F0 m 4 ls []) rfl ?_
  refine lv_aload_n hx hb d_T_init_4 rfl (lv_at hl 0 rfl) ?_
  refine lv_iconst (v := (-1)) hx hb d_T_init_5 (by decide) ?_
  refine putV (v := .int (-1)) (k := 0) (ty0 := ty_T) C hin hw rfl u_T_in ty_T_ok n_T (by decide) (inG 222 (by decide +kernel) (by decide +kernel)) rfl rfl (by first | rfl | decide) (by first | rfl | decide) hfl d_T_init_6 (fun fs1 H locs efs1 hfl hw => ?_)
  refine lv_aload_n hx hb d_T_init_9 rfl (lv_at hl 0 rfl) ?_
  refine lv_iconst (v := 0) hx hb d_T_init_10 (by decide) ?_
  refine putV (v := .int 0) (k := 1) (ty0 := ty_T) C hin hw rfl u_T_in ty_T_ok n_T (by decide) (inG 224 (by decide +kernel) (by decide +kernel)) rfl rfl (by first | rfl | decide) (by first | rfl | decide) hfl d_T_init_11 (fun fs2 H locs efs2 hfl hw => ?_)
  refine lv_aload_n hx hb d_T_init_14 rfl (lv_at hl 0 rfl) ?_
  refine lv_bipush (v := 60) hx hb d_T_init_15 (by decide) ?_
  refine newV (atype := .long) (N' := 60) (k := 2) (a0 := (60, .inr (.inl (fun _ => 0)))) C rfl rfl (fun _ h1 h2 => ra_l h1 h2) wa_long hw (fun _ => rfl) (by decide) (by decide) (Nat.le_of_ble_eq_true rfl) (Nat.le_of_ble_eq_true rfl) (Nat.le_of_ble_eq_true rfl) d_T_init_17 (fun q17 H hw => ?_)
  obtain ⟨w1, ew1⟩ : ∃ z, z = w0 ++ [(q17, .inl (g.2.2 2, 60, .inr (.inl (fun _ => 0))))] := ⟨_, rfl⟩
  replace hw : HV g A s ((h0, .inr (5, fs2)) :: w1) H locs := by rw [ew1]; exact hw
  refine putV (v := .ref q17) (k := 2) (ty0 := ty_T) C hin hw rfl u_T_in ty_T_ok n_T (by decide) (inG 226 (by decide +kernel) (by decide +kernel)) rfl rfl (by first | rfl | decide) (by first | rfl | decide) hfl d_T_init_19 (fun fs3 H locs efs3 hfl hw => ?_)
  exact retW (fun k => [0, q17].getD k 0) C hw (by subst efs0 ew0 efs1 efs2 ew1 efs3; rfl) (Nat.le_of_ble_eq_true rfl) (Nat.le_of_ble_eq_true rfl) d_T_init_22
theorem nq_R : y_R_init.cls ≠ "java/lang/invoke/MethodHandle" ∧ y_R_init.cls ≠ "java/lang/invoke/VarHandle" ∧ (parseMethodDescriptor y_R_init.desc).map (fun d => d.parameters.length) = some 0 := by decide +kernel
theorem nq_K : y_K_init.cls ≠ "java/lang/invoke/MethodHandle" ∧ y_K_init.cls ≠ "java/lang/invoke/VarHandle" ∧ (parseMethodDescriptor y_K_init.desc).map (fun d => d.parameters.length) = some 1 := by decide +kernel
theorem nq_N : y_N_init.cls ≠ "java/lang/invoke/MethodHandle" ∧ y_N_init.cls ≠ "java/lang/invoke/VarHandle" ∧ (parseMethodDescriptor y_N_init.desc).map (fun d => d.parameters.length) = some 0 := by decide +kernel
theorem nq_E : y_E_init.cls ≠ "java/lang/invoke/MethodHandle" ∧ y_E_init.cls ≠ "java/lang/invoke/VarHandle" ∧ (parseMethodDescriptor y_E_init.desc).map (fun d => d.parameters.length) = some 0 := by decide +kernel
theorem nq_A : y_A_init.cls ≠ "java/lang/invoke/MethodHandle" ∧ y_A_init.cls ≠ "java/lang/invoke/VarHandle" ∧ (parseMethodDescriptor y_A_init.desc).map (fun d => d.parameters.length) = some 0 := by decide +kernel
theorem nq_T : y_T_init.cls ≠ "java/lang/invoke/MethodHandle" ∧ y_T_init.cls ≠ "java/lang/invoke/VarHandle" ∧ (parseMethodDescriptor y_T_init.desc).map (fun d => d.parameters.length) = some 0 := by decide +kernel
theorem nq_X : y_X_init.cls ≠ "java/lang/invoke/MethodHandle" ∧ y_X_init.cls ≠ "java/lang/invoke/VarHandle" ∧ (parseMethodDescriptor y_X_init.desc).map (fun d => d.parameters.length) = some 0 := by decide +kernel
theorem nq_M : y_M_init.cls ≠ "java/lang/invoke/MethodHandle" ∧ y_M_init.cls ≠ "java/lang/invoke/VarHandle" ∧ (parseMethodDescriptor y_M_init.desc).map (fun d => d.parameters.length) = some 0 := by decide +kernel
set_option maxHeartbeats 4000000 in
set_option maxRecDepth 100000 in
theorem mk_E_init (g : GX) (l : Launch) (h0 : Nat) : CN l y_E_init (v_E_init :: lwG) 2 7 249 [.ref h0] g [(h0, .inr (3, [.null, .int 0, .int 0, .null]))] (fun u => n1_E g h0 u) := by
  refine mkN (cc := b_E_init) (maxL := 1) rfl (by decide) rfl rfl (Nat.le_of_ble_eq_true rfl) ?_
  intro p e s m args below meth c A ls C hin hE0 hl hw
  obtain ⟨hx, hb, hr, hml, hown, hts, hK, hE, hA, hlk⟩ := id C
  replace hl : lv_has ls 1 [(0, .ref h0)] := hl
  obtain ⟨H, hH⟩ : ∃ z, z = s.heap := ⟨_, rfl⟩
  rw [← hH] at hw ⊢
  obtain ⟨locs, hlo⟩ : ∃ z : List Loc, z = [] := ⟨_, rfl⟩
  rw [← hlo] at hw ⊢
  obtain ⟨fs0, efs0⟩ : ∃ z : List Value, z = [.null, .int 0, .int 0, .null] := ⟨_, rfl⟩
  have hfl : fs0.length = 4 := by rw [efs0]; rfl
  obtain ⟨w0, ew0⟩ : ∃ z : va_W, z = [] := ⟨_, rfl⟩
  replace hw : HV g A s ((h0, .inr (3, fs0)) :: w0) H locs := by rw [efs0, ew0]; exact hw
  refine lv_aload_n hx hb d_E_init_0 rfl (lv_at hl 0 rfl) ?_
  refine W.objInit hx hb hown (hts _ wo_E) (hts _ wo_i) (hts _ wo_c) rfl (by rw [hml]; exact hl.1) rfl d_E_init_1 (Nat.le_of_ble_eq_true rfl) (Nat.le_of_ble_eq_true rfl) ?_
  refine W.eq (g2 := F0 m 4 ls []) rfl ?_
  refine lv_aload_n hx hb d_E_init_4 rfl (lv_at hl 0 rfl) ?_
  refine lv_bipush (v := 100) hx hb d_E_init_5 (by decide) ?_
  refine newV (atype := .byte) (N' := 100) (k := 1) (a0 := (100, .inl (fun _ => 0))) C rfl rfl (fun _ h1 h2 => ra_b h1 h2) wa_byte hw (fun _ => rfl) (by decide) (by decide) (Nat.le_of_ble_eq_true rfl) (Nat.le_of_ble_eq_true rfl) (Nat.le_of_ble_eq_true rfl) d_E_init_7 (fun q7 H hw => ?_)
  obtain ⟨w1, ew1⟩ : ∃ z, z = w0 ++ [(q7, .inl (g.2.2 1, 100, .inl (fun _ => 0)))] := ⟨_, rfl⟩
  replace hw : HV g A s ((h0, .inr (3, fs0)) :: w1) H locs := by rw [ew1]; exact hw
  refine putV (v := .ref q7) (k := 0) (ty0 := ty_E) C hin hw rfl u_E_in ty_E_ok n_E (by decide) (inG 174 (by decide +kernel) (by decide +kernel)) rfl rfl (by first | rfl | decide) (by first | rfl | decide) hfl d_E_init_9 (fun fs1 H locs efs1 hfl hw => ?_)
  refine lv_aload_n hx hb d_E_init_12 rfl (lv_at hl 0 rfl) ?_
  refine lv_iconst (v := 0) hx hb d_E_init_13 (by decide) ?_
  refine putV (v := .int 0) (k := 1) (ty0 := ty_E) C hin hw rfl u_E_in ty_E_ok n_E (by decide) (inG 176 (by decide +kernel) (by decide +kernel)) rfl rfl (by first | rfl | decide) (by first | rfl | decide) hfl d_E_init_14 (fun fs2 H locs efs2 hfl hw => ?_)
  refine lv_aload_n hx hb d_E_init_17 rfl (lv_at hl 0 rfl) ?_
  refine lv_iconst (v := 0) hx hb d_E_init_18 (by decide) ?_
  refine putV (v := .int 0) (k := 2) (ty0 := ty_E) C hin hw rfl u_E_in ty_E_ok n_E (by decide) (inG 178 (by decide +kernel) (by decide +kernel)) rfl rfl (by first | rfl | decide) (by first | rfl | decide) hfl d_E_init_19 (fun fs3 H locs efs3 hfl hw => ?_)
  refine lv_aload_n hx hb d_E_init_22 rfl (lv_at hl 0 rfl) ?_
  refine newO (ci := 4) C rfl u_R_in ty_R_ok (inG 172 (by decide +kernel) (by decide +kernel)) wn_R wi_R hw df_R (Nat.le_of_ble_eq_true rfl) (Nat.le_of_ble_eq_true rfl) d_E_init_23 (fun q23 H hw => ?_)
  replace hw : HV g A s (((h0, .inr (3, fs3)) :: w1) ++ [(q23, .inr (4, [.int 0, .null, .null, .null, .null, .null, .int 0, .int 0, .int 0]))]) H locs := hw
  refine lv_dup hx hb d_E_init_26 rfl ?_
  refine clN C hE0 hw (invIN (As := []) (host := "LittleLeft") C hE0 hw (mk_R_init g l q23) rfl wi_R (List.mem_of_getElem? (i := 3) rfl) wm_R k_R_init rfl nq_R ⟨by decide, by decide⟩ rfl hl.1 rfl (Nat.le_of_ble_eq_true rfl) d_E_init_27 ⟨Nat.le_of_ble_eq_true rfl, Nat.le_of_ble_eq_true rfl⟩) (fun u27 H locs hw => ?_)
  obtain ⟨w2, ew2⟩ : ∃ z, z = w1 ++ n1_R g q23 u27 := ⟨_, rfl⟩
  replace hw : HV g A s ((h0, .inr (3, fs3)) :: w2) H locs := by rw [ew2]; exact hw
  refine putV (v := .ref q23) (k := 3) (ty0 := ty_E) C hin hw rfl u_E_in ty_E_ok n_E (by decide) (inG 180 (by decide +kernel) (by decide +kernel)) rfl rfl (by first | rfl | decide) (by first | rfl | decide) hfl d_E_init_30 (fun fs4 H locs efs4 hfl hw => ?_)
  exact retW (fun k => if k = 1 then q7 else if k = 2 then q23 else u27 (k - 2)) C hw (by subst efs0 ew0 ew1 efs1 efs2 efs3 ew2 efs4; rfl) (Nat.le_of_ble_eq_true rfl) (Nat.le_of_ble_eq_true rfl) d_E_init_33
set_option maxHeartbeats 4000000 in
set_option maxRecDepth 100000 in
theorem mk_K_init (g : GX) (l : Launch) (h0 r : Nat) (v : Nat → Nat) : CN l y_K_init (v_K_init :: lwG) 3 8 66 [.ref h0, .ref r] g [e_R r v, (h0, .inr (1, [.int 0, .null, .null, .null, .null, .null, .null, .null, .int 0, .int 0, .null, .int 0, .int 0, .int 0, .null]))] (fun u => n1_K g h0 r v u) := by
  refine mkN (cc := b_K_init) (maxL := 2) rfl (by decide) rfl rfl (Nat.le_of_ble_eq_true rfl) ?_
  intro p e s m args below meth c A ls C hin hE0 hl hw
  obtain ⟨hx, hb, hr, hml, hown, hts, hK, hE, hA, hlk⟩ := id C
  replace hl : lv_has ls 2 [(0, .ref h0), (1, .ref r)] := hl
  obtain ⟨H, hH⟩ : ∃ z, z = s.heap := ⟨_, rfl⟩
  rw [← hH] at hw ⊢
  obtain ⟨locs, hlo⟩ : ∃ z : List Loc, z = [] := ⟨_, rfl⟩
  rw [← hlo] at hw ⊢
  obtain ⟨fs0, efs0⟩ : ∃ z : List Value, z = [.int 0, .null, .null, .null, .null, .null, .null, .null, .int 0, .int 0, .null, .int 0, .int 0, .int 0, .null] := ⟨_, rfl⟩
  have hfl : fs0.length = 15 := by rw [efs0]; rfl
  obtain ⟨w0, ew0⟩ : ∃ z : va_W, z = [e_R r v] := ⟨_, rfl⟩
  replace hw : HV g A s ((h0, .inr (1, fs0)) :: w0) H locs := by rw [efs0, ew0]; exact HV.swap (a := []) (b := [e_R r v]) (c := [(h0, .inr (1, [.int 0, .null, .null, .null, .null, .null, .null, .null, .int 0, .int 0, .null, .int 0, .int 0, .int 0, .null]))]) hw
  refine lv_aload_n hx hb d_K_init_0 rfl (lv_at hl 0 rfl) ?_
  refine W.objInit hx hb hown (hts _ wo_K) (hts _ wo_i) (hts _ wo_c) rfl (by rw [hml]; exact hl.1) rfl d_K_init_1 (Nat.le_of_ble_eq_true rfl) (Nat.le_of_ble_eq_true rfl) ?_
  refine W.eq (g2 := F0 m 4 ls []) rfl ?_
  refine lv_aload_n hx hb d_K_init_4 rfl (lv_at hl 0 rfl) ?_
  refine lv_iconst (v := 0) hx hb d_K_init_5 (by decide) ?_
  refine putV (v := .int 0) (k := 0) (ty0 := ty_K) C hin hw rfl u_K_in ty_K_ok n_K (by decide) (inG 79 (by decide +kernel) (by decide +kernel)) rfl rfl (by first | rfl | decide) (by first | rfl | decide) hfl d_K_init_6 (fun fs1 H locs efs1 hfl hw => ?_)
  refine lv_aload_n hx hb d_K_init_9 rfl (lv_at hl 0 rfl) ?_
  refine lv_bipush (v := 6) hx hb d_K_init_10 (by decide) ?_
  refine newV (atype := .int) (N' := 6) (k := 0) (a0 := (6, .inl (fun _ => 0))) C rfl rfl (fun _ h1 h2 => ra_p h1 h2) wa_int hw (fun _ => rfl) (by decide) (by decide) (Nat.le_of_ble_eq_true rfl) (Nat.le_of_ble_eq_true rfl) (Nat.le_of_ble_eq_true rfl) d_K_init_12 (fun q12 H hw => ?_)
  obtain ⟨w1, ew1⟩ : ∃ z, z = w0 ++ [(q12, .inl (g.2.2 0, 6, .inl (fun _ => 0)))] := ⟨_, rfl⟩
  replace hw : HV g A s ((h0, .inr (1, fs1)) :: w1) H locs := by rw [ew1]; exact hw
  refine putV (v := .ref q12) (k := 1) (ty0 := ty_K) C hin hw rfl u_K_in ty_K_ok n_K (by decide) (inG 81 (by decide +kernel) (by decide +kernel)) rfl rfl (by first | rfl | decide) (by first | rfl | decide) hfl d_K_init_14 (fun fs2 H locs efs2 hfl hw => ?_)
  refine lv_aload_n hx hb d_K_init_17 rfl (lv_at hl 0 rfl) ?_
  refine lv_bipush (v := 6) hx hb d_K_init_18 (by decide) ?_
  refine newV (atype := .int) (N' := 6) (k := 0) (a0 := (6, .inl (fun _ => 0))) C rfl rfl (fun _ h1 h2 => ra_p h1 h2) wa_int hw (fun _ => rfl) (by decide) (by decide) (Nat.le_of_ble_eq_true rfl) (Nat.le_of_ble_eq_true rfl) (Nat.le_of_ble_eq_true rfl) d_K_init_20 (fun q20 H hw => ?_)
  obtain ⟨w2, ew2⟩ : ∃ z, z = w1 ++ [(q20, .inl (g.2.2 0, 6, .inl (fun _ => 0)))] := ⟨_, rfl⟩
  replace hw : HV g A s ((h0, .inr (1, fs2)) :: w2) H locs := by rw [ew2]; exact hw
  refine putV (v := .ref q20) (k := 2) (ty0 := ty_K) C hin hw rfl u_K_in ty_K_ok n_K (by decide) (inG 83 (by decide +kernel) (by decide +kernel)) rfl rfl (by first | rfl | decide) (by first | rfl | decide) hfl d_K_init_22 (fun fs3 H locs efs3 hfl hw => ?_)
  refine lv_aload_n hx hb d_K_init_25 rfl (lv_at hl 0 rfl) ?_
  refine lv_bipush (v := 6) hx hb d_K_init_26 (by decide) ?_
  refine newV (atype := .int) (N' := 6) (k := 0) (a0 := (6, .inl (fun _ => 0))) C rfl rfl (fun _ h1 h2 => ra_p h1 h2) wa_int hw (fun _ => rfl) (by decide) (by decide) (Nat.le_of_ble_eq_true rfl) (Nat.le_of_ble_eq_true rfl) (Nat.le_of_ble_eq_true rfl) d_K_init_28 (fun q28 H hw => ?_)
  obtain ⟨w3, ew3⟩ : ∃ z, z = w2 ++ [(q28, .inl (g.2.2 0, 6, .inl (fun _ => 0)))] := ⟨_, rfl⟩
  replace hw : HV g A s ((h0, .inr (1, fs3)) :: w3) H locs := by rw [ew3]; exact hw
  refine putV (v := .ref q28) (k := 3) (ty0 := ty_K) C hin hw rfl u_K_in ty_K_ok n_K (by decide) (inG 85 (by decide +kernel) (by decide +kernel)) rfl rfl (by first | rfl | decide) (by first | rfl | decide) hfl d_K_init_30 (fun fs4 H locs efs4 hfl hw => ?_)
  refine lv_aload_n hx hb d_K_init_33 rfl (lv_at hl 0 rfl) ?_
  refine lv_bipush (v := 6) hx hb d_K_init_34 (by decide) ?_
  refine newV (atype := .int) (N' := 6) (k := 0) (a0 := (6, .inl (fun _ => 0))) C rfl rfl (fun _ h1 h2 => ra_p h1 h2) wa_int hw (fun _ => rfl) (by decide) (by decide) (Nat.le_of_ble_eq_true rfl) (Nat.le_of_ble_eq_true rfl) (Nat.le_of_ble_eq_true rfl) d_K_init_36 (fun q36 H hw => ?_)
  obtain ⟨w4, ew4⟩ : ∃ z, z = w3 ++ [(q36, .inl (g.2.2 0, 6, .inl (fun _ => 0)))] := ⟨_, rfl⟩
  replace hw : HV g A s ((h0, .inr (1, fs4)) :: w4) H locs := by rw [ew4]; exact hw
  refine putV (v := .ref q36) (k := 4) (ty0 := ty_K) C hin hw rfl u_K_in ty_K_ok n_K (by decide) (inG 87 (by decide +kernel) (by decide +kernel)) rfl rfl (by first | rfl | decide) (by first | rfl | decide) hfl d_K_init_38 (fun fs5 H locs efs5 hfl hw => ?_)
  refine lv_aload_n hx hb d_K_init_41 rfl (lv_at hl 0 rfl) ?_
  refine lv_bipush (v := 6) hx hb d_K_init_42 (by decide) ?_
  refine newV (atype := .int) (N' := 6) (k := 0) (a0 := (6, .inl (fun _ => 0))) C rfl rfl (fun _ h1 h2 => ra_p h1 h2) wa_int hw (fun _ => rfl) (by decide) (by decide) (Nat.le_of_ble_eq_true rfl) (Nat.le_of_ble_eq_true rfl) (Nat.le_of_ble_eq_true rfl) d_K_init_44 (fun q44 H hw => ?_)
  obtain ⟨w5, ew5⟩ : ∃ z, z = w4 ++ [(q44, .inl (g.2.2 0, 6, .inl (fun _ => 0)))] := ⟨_, rfl⟩
  replace hw : HV g A s ((h0, .inr (1, fs5)) :: w5) H locs := by rw [ew5]; exact hw
  refine putV (v := .ref q44) (k := 5) (ty0 := ty_K) C hin hw rfl u_K_in ty_K_ok n_K (by decide) (inG 89 (by decide +kernel) (by decide +kernel)) rfl rfl (by first | rfl | decide) (by first | rfl | decide) hfl d_K_init_46 (fun fs6 H locs efs6 hfl hw => ?_)
  refine lv_aload_n hx hb d_K_init_49 rfl (lv_at hl 0 rfl) ?_
  refine lv_bipush (v := 6) hx hb d_K_init_50 (by decide) ?_
  refine newV (atype := .int) (N' := 6) (k := 0) (a0 := (6, .inl (fun _ => 0))) C rfl rfl (fun _ h1 h2 => ra_p h1 h2) wa_int hw (fun _ => rfl) (by decide) (by decide) (Nat.le_of_ble_eq_true rfl) (Nat.le_of_ble_eq_true rfl) (Nat.le_of_ble_eq_true rfl) d_K_init_52 (fun q52 H hw => ?_)
  obtain ⟨w6, ew6⟩ : ∃ z, z = w5 ++ [(q52, .inl (g.2.2 0, 6, .inl (fun _ => 0)))] := ⟨_, rfl⟩
  replace hw : HV g A s ((h0, .inr (1, fs6)) :: w6) H locs := by rw [ew6]; exact hw
  refine putV (v := .ref q52) (k := 6) (ty0 := ty_K) C hin hw rfl u_K_in ty_K_ok n_K (by decide) (inG 91 (by decide +kernel) (by decide +kernel)) rfl rfl (by first | rfl | decide) (by first | rfl | decide) hfl d_K_init_54 (fun fs7 H locs efs7 hfl hw => ?_)
  refine lv_aload_n hx hb d_K_init_57 rfl (lv_at hl 0 rfl) ?_
  refine lv_bipush (v := 24) hx hb d_K_init_58 (by decide) ?_
  refine newV (atype := .int) (N' := 24) (k := 0) (a0 := (24, .inl (fun _ => 0))) C rfl rfl (fun _ h1 h2 => ra_p h1 h2) wa_int hw (fun _ => rfl) (by decide) (by decide) (Nat.le_of_ble_eq_true rfl) (Nat.le_of_ble_eq_true rfl) (Nat.le_of_ble_eq_true rfl) d_K_init_60 (fun q60 H hw => ?_)
  obtain ⟨w7, ew7⟩ : ∃ z, z = w6 ++ [(q60, .inl (g.2.2 0, 24, .inl (fun _ => 0)))] := ⟨_, rfl⟩
  replace hw : HV g A s ((h0, .inr (1, fs7)) :: w7) H locs := by rw [ew7]; exact hw
  refine putV (v := .ref q60) (k := 7) (ty0 := ty_K) C hin hw rfl u_K_in ty_K_ok n_K (by decide) (inG 93 (by decide +kernel) (by decide +kernel)) rfl rfl (by first | rfl | decide) (by first | rfl | decide) hfl d_K_init_62 (fun fs8 H locs efs8 hfl hw => ?_)
  refine lv_aload_n hx hb d_K_init_65 rfl (lv_at hl 0 rfl) ?_
  refine lv_bipush (v := 100) hx hb d_K_init_66 (by decide) ?_
  refine putV (v := .int 100) (k := 8) (ty0 := ty_K) C hin hw rfl u_K_in ty_K_ok n_K (by decide) (inG 95 (by decide +kernel) (by decide +kernel)) rfl rfl (by first | rfl | decide) (by first | rfl | decide) hfl d_K_init_68 (fun fs9 H locs efs9 hfl hw => ?_)
  refine lv_aload_n hx hb d_K_init_71 rfl (lv_at hl 0 rfl) ?_
  refine lv_iconst (v := 0) hx hb d_K_init_72 (by decide) ?_
  refine putV (v := .int 0) (k := 9) (ty0 := ty_K) C hin hw rfl u_K_in ty_K_ok n_K (by decide) (inG 97 (by decide +kernel) (by decide +kernel)) rfl rfl (by first | rfl | decide) (by first | rfl | decide) hfl d_K_init_73 (fun fs10 H locs efs10 hfl hw => ?_)
  refine lv_aload_n hx hb d_K_init_76 rfl (lv_at hl 0 rfl) ?_
  refine lv_iconst (v := 0) hx hb d_K_init_77 (by decide) ?_
  refine putV (v := .int 0) (k := 13) (ty0 := ty_K) C hin hw rfl u_K_in ty_K_ok n_K (by decide) (inG 104 (by decide +kernel) (by decide +kernel)) rfl rfl (by first | rfl | decide) (by first | rfl | decide) hfl d_K_init_78 (fun fs11 H locs efs11 hfl hw => ?_)
  refine lv_aload_n hx hb d_K_init_81 rfl (lv_at hl 0 rfl) ?_
  refine va_ldcS hx hb hown (hE0.2.1 ("LittleLeft$Kitchen", 48, "pkvgdf", 0) (List.mem_of_getElem? (i := 0) rfl)) d_K_init_82 ?_
  refine clS (σ := (fun _ _ => 0, fun _ _ => 0, fun _ _ => 0, fun _ => 0)) C hw (invV (As := []) (c0w C hE0) (h0w hw) (c_jS_length0 g 0 (by decide) _ 6 len0 l) rfl wc_K_50 nd_jS_length ⟨by decide, by decide⟩ (vk_recv (adK := fun i => g.2.1 (1000 + i)) (i := 0) hE0.2.2.1 (by decide) hw.2.2) rfl hl.1 rfl (Nat.le_of_ble_eq_true rfl) d_K_init_84 ⟨Nat.le_of_ble_eq_true rfl, Nat.le_of_ble_eq_true rfl⟩) (fun H locs hw => ?_)
  refine newV (atype := .int) (N' := 6) (k := 0) (a0 := (6, .inl (fun _ => 0))) C rfl rfl (fun _ h1 h2 => ra_p h1 h2) wa_int hw (fun _ => rfl) (by decide) (by decide) (Nat.le_of_ble_eq_true rfl) (Nat.le_of_ble_eq_true rfl) (Nat.le_of_ble_eq_true rfl) d_K_init_87 (fun q87 H hw => ?_)
  obtain ⟨w8, ew8⟩ : ∃ z, z = w7 ++ [(q87, .inl (g.2.2 0, 6, .inl (fun _ => 0)))] := ⟨_, rfl⟩
  replace hw : HV g A s ((h0, .inr (1, fs11)) :: w8) H locs := by rw [ew8]; exact hw
  refine putV (v := .ref q87) (k := 14) (ty0 := ty_K) C hin hw rfl u_K_in ty_K_ok n_K (by decide) (inG 106 (by decide +kernel) (by decide +kernel)) rfl rfl (by first | rfl | decide) (by first | rfl | decide) hfl d_K_init_89 (fun fs12 H locs efs12 hfl hw => ?_)
  refine lv_aload_n hx hb d_K_init_92 rfl (lv_at hl 0 rfl) ?_
  refine lv_aload_n hx hb d_K_init_93 rfl (lv_at hl 1 rfl) ?_
  refine putV (v := .ref r) (k := 10) (ty0 := ty_K) C hin hw rfl u_K_in ty_K_ok n_K (by decide) (inG 99 (by decide +kernel) (by decide +kernel)) rfl rfl (by first | rfl | decide) (by first | rfl | decide) hfl d_K_init_94 (fun fs13 H locs efs13 hfl hw => ?_)
  refine lv_aload_n hx hb d_K_init_97 rfl (lv_at hl 0 rfl) ?_
  refine lv_aload_n hx hb d_K_init_98 rfl (lv_at hl 1 rfl) ?_
  refine getV (v := .int 5) (j := 1) (k := 7) (T := F_R) (N := 9) (Cn := R_R) (fs := [.int 0, .ref (v 1), .ref (v 2), .ref (v 3), .ref (v 4), .ref (v 5), .int 0, .int 5, .int 200]) C hw (by rw [ew8, ew7, ew6, ew5, ew4, ew3, ew2, ew1, ew0]; rfl) rfl u_R_in (by decide) (inG 39 (by decide +kernel) (by decide +kernel)) rfl rfl d_K_init_99 ?_
  refine putV (v := .int 5) (k := 11) (ty0 := ty_K) C hin hw rfl u_K_in ty_K_ok n_K (by decide) (inG 100 (by decide +kernel) (by decide +kernel)) rfl rfl (by first | rfl | decide) (by first | rfl | decide) hfl d_K_init_102 (fun fs14 H locs efs14 hfl hw => ?_)
  refine lv_aload_n hx hb d_K_init_105 rfl (lv_at hl 0 rfl) ?_
  refine lv_aload_n hx hb d_K_init_106 rfl (lv_at hl 1 rfl) ?_
  refine getV (v := .int 200) (j := 1) (k := 8) (T := F_R) (N := 9) (Cn := R_R) (fs := [.int 0, .ref (v 1), .ref (v 2), .ref (v 3), .ref (v 4), .ref (v 5), .int 0, .int 5, .int 200]) C hw (by rw [ew8, ew7, ew6, ew5, ew4, ew3, ew2, ew1, ew0]; rfl) rfl u_R_in (by decide) (inG 41 (by decide +kernel) (by decide +kernel)) rfl rfl d_K_init_107 ?_
  refine putV (v := .int 200) (k := 12) (ty0 := ty_K) C hin hw rfl u_K_in ty_K_ok n_K (by decide) (inG 102 (by decide +kernel) (by decide +kernel)) rfl rfl (by first | rfl | decide) (by first | rfl | decide) hfl d_K_init_110 (fun fs15 H locs efs15 hfl hw => ?_)
  replace hw := HV.swap (a := [(h0, .inr (1, fs15))]) (b := [e_R r v]) (c := [(q12, .inl (g.2.2 0, 6, .inl (fun _ => 0))), (q20, .inl (g.2.2 0, 6, .inl (fun _ => 0))), (q28, .inl (g.2.2 0, 6, .inl (fun _ => 0))), (q36, .inl (g.2.2 0, 6, .inl (fun _ => 0))), (q44, .inl (g.2.2 0, 6, .inl (fun _ => 0))), (q52, .inl (g.2.2 0, 6, .inl (fun _ => 0))), (q60, .inl (g.2.2 0, 24, .inl (fun _ => 0))), (q87, .inl (g.2.2 0, 6, .inl (fun _ => 0)))]) (hw.eq (by rw [ew8, ew7, ew6, ew5, ew4, ew3, ew2, ew1, ew0]; rfl))
  exact retW (fun k => [0, q12, q20, q28, q36, q44, q52, q60, q87].getD k 0) C hw (by subst efs0 ew0 efs1 ew1 efs2 ew2 efs3 ew3 efs4 ew4 efs5 ew5 efs6 ew6 efs7 ew7 efs8 efs9 efs10 efs11 ew8 efs12 efs13 efs14 efs15; rfl) (Nat.le_of_ble_eq_true rfl) (Nat.le_of_ble_eq_true rfl) d_K_init_113
def iM : List Int32 := [0, 100, 0, 0, 0, 0, 0, 0, 0, 0, 0, -1, 0, 0, 0, 0, 0, 0, 0, 0, 0, 0, 0, 0, 0, 0, 0, -1, -1, 0, 0, -1, -1, 0, 0, 0, 0, 0, 0, 0, 0, 0, 0, 0, 0, 0, -1, 0, 100, 0, 0, 0, 0, 0, 0, 0, 0, 0, 0, 0, 0, 0, 0, 0, 0, 0, 0, 0]
def rM16 : Nat → Int32 := (upd (upd (upd (upd (upd (upd (upd (upd (upd (upd (upd (upd (upd (upd (upd (upd (fun _ => 0) (nx 0) 119) (nx 1) 97) (nx 2) 110) (nx 3) 116) (nx 4) 108) (nx 5) 101) (nx 6) 97) (nx 7) 115) (nx 8) 116) (nx 9) 102) (nx 10) 117) (nx 11) 108) (nx 12) 108) (nx 13) 112) (nx 14) 97) (nx 15) 121)
def rM37 : Nat → Int32 := (upd (upd (upd (upd (upd (upd (fun _ => 0) (nx 0) (-1)) (nx 1) (-1)) (nx 2) (-1)) (nx 3) (-1)) (nx 4) (-1)) (nx 5) (-1))
def tM : St := (fun _ f => iM.getD f 0, fun c => if c = 16 then rM16 else if c = 37 then rM37 else fun _ => 0, fun _ _ => 0, fun _ => 0)
def gM (g : GX) (h : Nat) (u : Nat → Nat) : GX := (g.1, fun c => if c = 0 then h else u c, g.2.2)
