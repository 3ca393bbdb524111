/-! ===== the reader, the acts, tapes, kinds ===== -/
def f_E_isDigit (p0 : Int32) : Bool := (if p0 < 48 then false else (if 57 < p0 then false else true))
set_option maxHeartbeats 400000 in
set_option maxRecDepth 20000 in
theorem c_E_isDigit (g : GX) (p0 : Int32) (σ : St) (l : Launch) : CT BX l y_E_isDigit (v_E_isDigit :: lwG) 1 [.int p0] g σ (QZ BX g (f_E_isDigit p0, σ)) := by
  generalize h : f_E_isDigit p0 = q
  refine mkC (cc := b_E_isDigit) (maxL := 1) (ret := (some .boolean)) rfl (by decide) rfl (Nat.le_of_ble_eq_true rfl) ?_
  intro p e s m args below meth c A ls C hl hw
  obtain ⟨hx, hb, hr, hml, hown, hts, hK, hE, hA, hlk⟩ := id C
  replace hl : lv_has ls 1 [(0, .int p0)] := hl
  obtain ⟨H, hH⟩ : ∃ z, z = s.heap := ⟨_, rfl⟩
  rw [← hH] at hw ⊢
  obtain ⟨locs, hlo⟩ : ∃ z : List Loc, z = [] := ⟨_, rfl⟩
  rw [← hlo] at hw ⊢
  unfold f_E_isDigit at h
  refine lv_iload_n hx hb d_E_isDigit_0 rfl (lv_at hl 0 rfl) ?_
  refine lv_bipush (v := 48) hx hb d_E_isDigit_1 (by decide) ?_
  refine lv_icmp_lt (tgt := 16) hx hb d_E_isDigit_3 (by decide) (fun b1 => ?_) (fun b1 => ?_)
  · replace h := ifp b1 h
    refine lv_iconst (v := 0) hx hb d_E_isDigit_16 (by decide) ?_
    exact retZ (b := false) C hw rfl rfl (congrArg (fun z => (z, σ)) h) d_E_isDigit_17
  · replace h := ifn b1 h
    refine lv_iload_n hx hb d_E_isDigit_6 rfl (lv_at hl 0 rfl) ?_
    refine lv_bipush (v := 57) hx hb d_E_isDigit_7 (by decide) ?_
    refine lv_icmp_gt (tgt := 16) hx hb d_E_isDigit_9 (by decide) (fun b2 => ?_) (fun b2 => ?_)
    · replace h := ifp b2 h
      refine lv_iconst (v := 0) hx hb d_E_isDigit_16 (by decide) ?_
      exact retZ (b := false) C hw rfl rfl (congrArg (fun z => (z, σ)) h) d_E_isDigit_17
    · replace h := ifn b2 h
      refine lv_iconst (v := 1) hx hb d_E_isDigit_12 (by decide) ?_
      refine lv_goto (tgt := 17) hx hb d_E_isDigit_13 (by decide) ?_
      exact retZ (b := true) C hw rfl rfl (congrArg (fun z => (z, σ)) h) d_E_isDigit_17
def f_E_sign (c0 : Nat) (σ : St) : Option (Int32) := (if (vI σ c0 1) ≤ (vI σ c0 2) then some (-1) else (if 100 ≤ (vI σ c0 2) then some (-1) else (if ok (vI σ c0 2) 100 = true then some (vJ σ (c0 + 1) (nx (vI σ c0 2))) else none)))
set_option maxHeartbeats 400000 in
set_option maxRecDepth 20000 in
theorem c_E_sign (g : GX) (c0 : Nat) (hc0 : tg BX c0 9) (σ : St) (q : Int32) (h : f_E_sign c0 σ = some q) (l : Launch) : CT BX l y_E_sign (v_E_sign :: lwG) 1 [.ref (g.2.1 c0)] g σ (QI BX g (q, σ)) := by
  refine mkC (cc := b_E_sign) (maxL := 1) (ret := (some .int)) rfl (by decide) rfl (Nat.le_of_ble_eq_true rfl) ?_
  intro p e s m args below meth c A ls C hl hw
  obtain ⟨hx, hb, hr, hml, hown, hts, hK, hE, hA, hlk⟩ := id C
  replace hl : lv_has ls 1 [(0, .ref (g.2.1 c0))] := hl
  obtain ⟨H, hH⟩ : ∃ z, z = s.heap := ⟨_, rfl⟩
  rw [← hH] at hw ⊢
  obtain ⟨locs, hlo⟩ : ∃ z : List Loc, z = [] := ⟨_, rfl⟩
  rw [← hlo] at hw ⊢
  unfold f_E_sign at h
  refine lv_aload_n hx hb d_E_sign_0 rfl (lv_at hl 0 rfl) ?_
  refine fg_E_19 C hw hc0 d_E_sign_1 ?_
  refine lv_aload_n hx hb d_E_sign_4 rfl (lv_at hl 0 rfl) ?_
  refine fg_E_15 C hw hc0 d_E_sign_5 ?_
  refine lv_icmp_ge (tgt := 35) hx hb d_E_sign_8 (by decide) (fun b1 => ?_) (fun b1 => ?_)
  · replace h := ifp b1 h
    refine lv_iconst (v := (-1)) hx hb d_E_sign_35 (by decide) ?_
    exact retI C hw rfl (congrArg (fun z => (z, σ)) (Option.some.inj h)) d_E_sign_36
  · replace h := ifn b1 h
    refine lv_aload_n hx hb d_E_sign_11 rfl (lv_at hl 0 rfl) ?_
    refine fg_E_19 C hw hc0 d_E_sign_12 ?_
    refine lv_aload_n hx hb d_E_sign_15 rfl (lv_at hl 0 rfl) ?_
    refine fg_E_9 C hw hc0 d_E_sign_16 ?_
    refine lnB (n := 100) (v := 100) C hw (tE_1 hc0) (by decide) (by decide) d_E_sign_19 ?_
    refine lv_icmp_ge (tgt := 35) hx hb d_E_sign_20 (by decide) (fun b2 => ?_) (fun b2 => ?_)
    · replace h := ifp b2 h
      refine lv_iconst (v := (-1)) hx hb d_E_sign_35 (by decide) ?_
      exact retI C hw rfl (congrArg (fun z => (z, σ)) (Option.some.inj h)) d_E_sign_36
    · replace h := ifn b2 h
      refine lv_aload_n hx hb d_E_sign_23 rfl (lv_at hl 0 rfl) ?_
      refine fg_E_9 C hw hc0 d_E_sign_24 ?_
      refine lv_aload_n hx hb d_E_sign_27 rfl (lv_at hl 0 rfl) ?_
      refine fg_E_19 C hw hc0 d_E_sign_28 ?_
      refine gde h (fun g3 h => ?_)
      refine ldB (n := 100) C hw (tE_1 hc0) (by decide) g3 d_E_sign_31 ?_
      refine lv_goto (tgt := 36) hx hb d_E_sign_32 (by decide) ?_
      exact retI C hw rfl (congrArg (fun z => (z, σ)) (Option.some.inj h)) d_E_sign_36
def f_E_skips (c0 : Nat) (p1 : Int32) (σ : St) : Option (Bool × St) := ((f_E_sign c0 σ).bind fun q1 => (if q1 = p1 then (st (sI σ c0 2 ((vI σ c0 2) + 1)) fun s5 => some (true, s5)) else some (false, σ)))
set_option maxHeartbeats 400000 in
set_option maxRecDepth 20000 in
theorem c_E_skips (g : GX) (c0 : Nat) (hc0 : tg BX c0 9) (p1 : Int32) (σ : St) (q : Bool × St) (h : f_E_skips c0 p1 σ = some q) (l : Launch) : CT BX l y_E_skips (v_E_skips :: lwG) 2 [.ref (g.2.1 c0), .int p1] g σ (QZ BX g q) := by
  refine mkC (cc := b_E_skips) (maxL := 2) (ret := (some .boolean)) rfl (by decide) rfl (Nat.le_of_ble_eq_true rfl) ?_
  intro p e s m args below meth c A ls C hl hw
  obtain ⟨hx, hb, hr, hml, hown, hts, hK, hE, hA, hlk⟩ := id C
  replace hl : lv_has ls 2 [(0, .ref (g.2.1 c0)), (1, .int p1)] := hl
  obtain ⟨H, hH⟩ : ∃ z, z = s.heap := ⟨_, rfl⟩
  rw [← hH] at hw ⊢
  obtain ⟨locs, hlo⟩ : ∃ z : List Loc, z = [] := ⟨_, rfl⟩
  rw [← hlo] at hw ⊢
  unfold f_E_skips at h
  refine lv_aload_n hx hb d_E_skips_0 rfl (lv_at hl 0 rfl) ?_
  refine bnd h (fun q1 k2 h => ?_)
  refine clI0 (v := q1) C hw (invV (As := []) C hw (c_E_sign g c0 hc0 σ q1 k2 l) rfl wc_E_40 nd_E_sign ⟨by decide, by decide⟩ (rc_E C hw hc0) rfl hl.1 rfl (Nat.le_of_ble_eq_true rfl) d_E_skips_1 ⟨Nat.le_refl _, Nat.le_refl _⟩) (fun H locs hw => ?_)
  refine lv_iload_n hx hb d_E_skips_4 rfl (lv_at hl 1 rfl) ?_
  refine lv_icmp_eq (tgt := 10) hx hb d_E_skips_5 (by decide) (fun b3 => ?_) (fun b3 => ?_)
  · replace h := ifp b3 h
    refine lv_aload_n hx hb d_E_skips_10 rfl (lv_at hl 0 rfl) ?_
    refine lv_dup hx hb d_E_skips_11 rfl ?_
    refine fg_E_19 C hw hc0 d_E_skips_12 ?_
    refine lv_iconst (v := 1) hx hb d_E_skips_15 (by decide) ?_
    refine lv_iadd hx hb d_E_skips_16 ?_
    refine ste h (fun s5 e6 h => ?_)
    refine fp_E_19 C hw hc0 d_E_skips_17 (fun H locs hw => ?_)
    replace hw := HWe hw e6
    refine lv_iconst (v := 1) hx hb d_E_skips_20 (by decide) ?_
    exact retZ (b := true) C hw rfl rfl (Option.some.inj h) d_E_skips_21
  · replace h := ifn b3 h
    refine lv_iconst (v := 0) hx hb d_E_skips_8 (by decide) ?_
    exact retZ (b := false) C hw rfl rfl (Option.some.inj h) d_E_skips_9
def f_E_words_l2 : Nat → Nat → Nat → Int32 → St → Option ((St) ⊕ (Bool × St))
  | 0, _, _, _, _ => none
  | n + 1, c0, c1, x2, σ => ((f_jS_length c1).bind fun q2 => (if q2 ≤ x2 then some (Sum.inl σ) else ((f_jS_charAt c1 x2).bind fun q5 => ((f_E_skips c0 q5 σ).bind fun q7 => (if q7.1 = false then some (Sum.inr (false, q7.2)) else (f_E_words_l2 n c0 c1 (x2 + 1) q7.2))))))
def f_E_words (c0 : Nat) (c1 : Nat) (σ : St) : Option (Bool × St) := ((f_E_words_l2 FU c0 c1 0 σ).bind fun x_10 => Sum.elim (fun y12 => some (true, y12)) (fun z => some z) x_10)
set_option maxHeartbeats 400000 in
set_option maxRecDepth 20000 in
theorem c_E_words (g : GX) (c0 : Nat) (hc0 : tg BX c0 9) (c1 : Nat) (hc1 : c1 < 5) (σ : St) (q : Bool × St) (h : f_E_words c0 c1 σ = some q) (l : Launch) : CT BX l y_E_words (v_E_words :: lwG) 5 [.ref (g.2.1 c0), .ref (g.2.1 (1000 + c1))] g σ (QZ BX g q) := by
  refine mkC (cc := b_E_words) (maxL := 3) (ret := (some .boolean)) rfl (by decide) rfl (Nat.le_of_ble_eq_true rfl) ?_
  intro p e s m args below meth c A ls C hl hw
  obtain ⟨hx, hb, hr, hml, hown, hts, hK, hE, hA, hlk⟩ := id C
  replace hl : lv_has ls 3 [(0, .ref (g.2.1 c0)), (1, .ref (g.2.1 (1000 + c1)))] := hl
  obtain ⟨H, hH⟩ : ∃ z, z = s.heap := ⟨_, rfl⟩
  rw [← hH] at hw ⊢
  obtain ⟨locs, hlo⟩ : ∃ z : List Loc, z = [] := ⟨_, rfl⟩
  rw [← hlo] at hw ⊢
  unfold f_E_words at h
  refine lv_iconst (v := 0) hx hb d_E_words_0 (by decide) ?_
  refine lv_istore_n (lv' := [(2, .int 0), (0, .ref (g.2.1 c0)), (1, .ref (g.2.1 (1000 + c1)))]) hx hb d_E_words_1 rfl hl (by decide) rfl (fun ls hl => ?_)
  have L1 : ∀ (c0 : Nat) (hc0 : tg BX c0 9) (c1 : Nat) (hc1 : c1 < 5) (n : Nat) (x2 : Int32) (σ : St) (H : Heap) (locs : List Loc) (ls : Array Slot), HW BX g A s σ H locs → lv_has ls 3 [(0, .ref (g.2.1 c0)), (1, .ref (g.2.1 (1000 + c1))), (2, .int x2)] → ∀ (ex : (St) ⊕ (Bool × St)), f_E_words_l2 n c0 c1 x2 σ = some ex → (∀ (y : St), ex = Sum.inl y → ∀ (H : Heap) (locs : List Loc) (ls : Array Slot), HW BX g A s y H locs → lv_has ls 3 [] → W p l e (rmL 5) s m args below meth c H locs 0 0 (MQ below (QZ BX g q A) args s 0 0 A) (F0 m 30 ls [])) → (∀ (z : Bool × St), ex = Sum.inr z → z = q) → W p l e (rmL 5) s m args below meth c H locs 0 0 (MQ below (QZ BX g q A) args s 0 0 A) (F0 m 2 ls []) := by
    intro c0 hc0 c1 hc1 n
    induction n with
    | zero =>
      intro x2 σ H locs ls hw hl ex h kx1 kr1
      cases h
    | succ n ih =>
      intro x2 σ H locs ls hw hl ex h kx1 kr1
      rw [f_E_words_l2] at h
      refine lv_iload_n hx hb d_E_words_2 rfl (lv_at hl 2 rfl) ?_
      refine lv_aload_n hx hb d_E_words_3 rfl (lv_at hl 1 rfl) ?_
      refine bnd h (fun q2 k3 h => ?_)
      refine clI0 (v := q2) C hw (invV (As := []) C hw (c_jS_length g c1 hc1 σ q2 k3 l) rfl wc_E_65 nd_jS_length ⟨by decide, by decide⟩ (vk_recv (adK := fun i => g.2.1 (1000 + i)) (i := c1) (hE rfl).2.2.1 hc1 hw.2.2) rfl hl.1 rfl (Nat.le_of_ble_eq_true rfl) d_E_words_4 ⟨Nat.le_refl _, Nat.le_refl _⟩) (fun H locs hw => ?_)
      refine lv_icmp_ge (tgt := 30) hx hb d_E_words_7 (by decide) (fun b4 => ?_) (fun b4 => ?_)
      · replace h := ifp b4 h
        exact kx1 _ (Option.some.inj h).symm H locs ls hw (lv_sub hl [] rfl)
      · replace h := ifn b4 h
        refine lv_aload_n hx hb d_E_words_10 rfl (lv_at hl 0 rfl) ?_
        refine lv_aload_n hx hb d_E_words_11 rfl (lv_at hl 1 rfl) ?_
        refine lv_iload_n hx hb d_E_words_12 rfl (lv_at hl 2 rfl) ?_
        refine bnd h (fun q5 k6 h => ?_)
        refine clI0 (v := q5) C hw (invV (As := [.int x2]) C hw (c_jS_charAt g c1 hc1 x2 σ q5 k6 l) rfl wc_E_70 nd_jS_charAt ⟨by decide, by decide⟩ (vk_recv (adK := fun i => g.2.1 (1000 + i)) (i := c1) (hE rfl).2.2.1 hc1 hw.2.2) rfl hl.1 rfl (Nat.le_of_ble_eq_true rfl) d_E_words_13 ⟨Nat.le_refl _, Nat.le_refl _⟩) (fun H locs hw => ?_)
        refine bnd h (fun q7 k8 h => ?_)
        refine clZ C hw (invV (As := [.int q5]) C hw (c_E_skips g c0 hc0 q5 σ q7 k8 l) rfl wc_E_36 nd_E_skips ⟨by decide, by decide⟩ (rc_E C hw hc0) rfl hl.1 rfl (Nat.le_of_ble_eq_true rfl) d_E_words_16 ⟨Nat.le_refl _, Nat.le_refl _⟩) (fun H locs hw => ?_)
        refine ifnB (tgt := 24) C d_E_words_19 (by decide) (fun b9 => ?_) (fun b9 => ?_)
        · replace h := ifn b9 h
          refine lv_iinc (v := (x2 + 1)) (lv' := [(2, .int (x2 + 1)), (0, .ref (g.2.1 c0)), (1, .ref (g.2.1 (1000 + c1)))]) hx hb d_E_words_24 hl (k := 2) rfl rfl (by decide) rfl (fun ls hl => ?_)
          refine lv_goto (tgt := 2) hx hb d_E_words_27 (by decide) ?_
          exact ih (x2 + 1) q7.2 H locs ls hw (lv_sub hl [1, 2, 0] rfl) ex h kx1 kr1
        · replace h := ifp b9 h
          refine lv_iconst (v := 0) hx hb d_E_words_22 (by decide) ?_
          exact retZ (b := false) C hw rfl rfl (kr1 _ (Option.some.inj h).symm) d_E_words_23
  refine bnd h (fun x_10 k11 h => ?_)
  refine L1 c0 hc0 c1 hc1 FU 0 σ H locs ls hw (lv_sub hl [1, 2, 0] rfl) x_10 k11 (fun y12 e13 H locs ls hw hl => ?_) (fun z e13 => ?_)
  · rw [e13] at h
    replace h := sel h
    refine lv_iconst (v := 1) hx hb d_E_words_30 (by decide) ?_
    exact retZ (b := true) C hw rfl rfl (Option.some.inj h) d_E_words_31
  · rw [e13] at h
    replace h := ser h
    exact Option.some.inj h
def f_E_number (c0 : Nat) (σ : St) : Option (Int32 × St) := ((f_E_sign c0 σ).bind fun q1 => (if (f_E_isDigit q1) = false then some ((-1), σ) else ((f_E_sign c0 σ).bind fun q4 => (st (sI σ c0 2 ((vI σ c0 2) + 1)) fun s7 => ((f_E_sign c0 s7).bind fun q8 => (if (f_E_isDigit q8) = false then some ((q4 - 48), s7) else ((f_E_sign c0 s7).bind fun q11 => (st (sI s7 c0 2 ((vI s7 c0 2) + 1)) fun s14 => some ((((10 * (q4 - 48)) + q11) - 48), s14)))))))))
set_option maxHeartbeats 400000 in
set_option maxRecDepth 20000 in
theorem c_E_number (g : GX) (c0 : Nat) (hc0 : tg BX c0 9) (σ : St) (q : Int32 × St) (h : f_E_number c0 σ = some q) (l : Launch) : CT BX l y_E_number (v_E_number :: lwG) 2 [.ref (g.2.1 c0)] g σ (QI BX g q) := by
  refine mkC (cc := b_E_number) (maxL := 2) (ret := (some .int)) rfl (by decide) rfl (Nat.le_of_ble_eq_true rfl) ?_
  intro p e s m args below meth c A ls C hl hw
  obtain ⟨hx, hb, hr, hml, hown, hts, hK, hE, hA, hlk⟩ := id C
  replace hl : lv_has ls 2 [(0, .ref (g.2.1 c0))] := hl
  obtain ⟨H, hH⟩ : ∃ z, z = s.heap := ⟨_, rfl⟩
  rw [← hH] at hw ⊢
  obtain ⟨locs, hlo⟩ : ∃ z : List Loc, z = [] := ⟨_, rfl⟩
  rw [← hlo] at hw ⊢
  unfold f_E_number at h
  refine lv_aload_n hx hb d_E_number_0 rfl (lv_at hl 0 rfl) ?_
  refine bnd h (fun q1 k2 h => ?_)
  refine clI0 (v := q1) C hw (invV (As := []) C hw (c_E_sign g c0 hc0 σ q1 k2 l) rfl wc_E_40 nd_E_sign ⟨by decide, by decide⟩ (rc_E C hw hc0) rfl hl.1 rfl (Nat.le_of_ble_eq_true rfl) d_E_number_1 ⟨Nat.le_refl _, Nat.le_refl _⟩) (fun H locs hw => ?_)
  refine clZ0 (v := (f_E_isDigit q1)) C hw (invS (As := [.int q1]) C hw (c_E_isDigit g q1 σ l) rfl wc_E_84 nd_E_isDigit.2 ⟨by decide, by decide⟩ rfl hl.1 rfl (Nat.le_of_ble_eq_true rfl) d_E_number_4 ⟨Nat.le_refl _, Nat.le_refl _⟩) (fun H locs hw => ?_)
  refine ifnB (tgt := 12) C d_E_number_7 (by decide) (fun b3 => ?_) (fun b3 => ?_)
  · replace h := ifn b3 h
    refine lv_aload_n hx hb d_E_number_12 rfl (lv_at hl 0 rfl) ?_
    refine bnd h (fun q4 k5 h => ?_)
    refine clI0 (v := q4) C hw (invV (As := []) C hw (c_E_sign g c0 hc0 σ q4 k5 l) rfl wc_E_40 nd_E_sign ⟨by decide, by decide⟩ (rc_E C hw hc0) rfl hl.1 rfl (Nat.le_of_ble_eq_true rfl) d_E_number_13 ⟨Nat.le_refl _, Nat.le_refl _⟩) (fun H locs hw => ?_)
    refine lv_bipush (v := 48) hx hb d_E_number_16 (by decide) ?_
    refine lv_isub hx hb d_E_number_18 ?_
    refine lv_istore_n (lv' := [(1, .int (q4 - 48)), (0, .ref (g.2.1 c0))]) hx hb d_E_number_19 rfl hl (by decide) rfl (fun ls hl => ?_)
    refine lv_aload_n hx hb d_E_number_20 rfl (lv_at hl 1 rfl) ?_
    refine lv_dup hx hb d_E_number_21 rfl ?_
    refine fg_E_19 C hw hc0 d_E_number_22 ?_
    refine lv_iconst (v := 1) hx hb d_E_number_25 (by decide) ?_
    refine lv_iadd hx hb d_E_number_26 ?_
    refine ste h (fun s7 e16 h => ?_)
    refine fp_E_19 C hw hc0 d_E_number_27 (fun H locs hw => ?_)
    replace hw := HWe hw e16
    refine lv_aload_n hx hb d_E_number_30 rfl (lv_at hl 1 rfl) ?_
    refine bnd h (fun q8 k9 h => ?_)
    refine clI0 (v := q8) C hw (invV (As := []) C hw (c_E_sign g c0 hc0 s7 q8 k9 l) rfl wc_E_40 nd_E_sign ⟨by decide, by decide⟩ (rc_E C hw hc0) rfl hl.1 rfl (Nat.le_of_ble_eq_true rfl) d_E_number_31 ⟨Nat.le_refl _, Nat.le_refl _⟩) (fun H locs hw => ?_)
    refine clZ0 (v := (f_E_isDigit q8)) C hw (invS (As := [.int q8]) C hw (c_E_isDigit g q8 s7 l) rfl wc_E_84 nd_E_isDigit.2 ⟨by decide, by decide⟩ rfl hl.1 rfl (Nat.le_of_ble_eq_true rfl) d_E_number_34 ⟨Nat.le_refl _, Nat.le_refl _⟩) (fun H locs hw => ?_)
    refine ifB (tgt := 63) C d_E_number_37 (by decide) (fun b10 => ?_) (fun b10 => ?_)
    · replace h := ifp b10 h
      refine lv_iload_n hx hb d_E_number_63 rfl (lv_at hl 0 rfl) ?_
      exact retI C hw rfl (Option.some.inj h) d_E_number_64
    · replace h := ifn b10 h
      refine lv_bipush (v := 10) hx hb d_E_number_40 (by decide) ?_
      refine lv_iload_n hx hb d_E_number_42 rfl (lv_at hl 0 rfl) ?_
      refine lv_imul hx hb d_E_number_43 ?_
      refine lv_aload_n hx hb d_E_number_44 rfl (lv_at hl 1 rfl) ?_
      refine bnd h (fun q11 k12 h => ?_)
      refine clI0 (v := q11) C hw (invV (As := []) C hw (c_E_sign g c0 hc0 s7 q11 k12 l) rfl wc_E_40 nd_E_sign ⟨by decide, by decide⟩ (rc_E C hw hc0) rfl hl.1 rfl (Nat.le_of_ble_eq_true rfl) d_E_number_45 ⟨Nat.le_refl _, Nat.le_refl _⟩) (fun H locs hw => ?_)
      refine lv_iadd hx hb d_E_number_48 ?_
      refine lv_bipush (v := 48) hx hb d_E_number_49 (by decide) ?_
      refine lv_isub hx hb d_E_number_51 ?_
      refine lv_istore_n (lv' := [(1, .int (((10 * (q4 - 48)) + q11) - 48)), (0, .ref (g.2.1 c0))]) hx hb d_E_number_52 rfl hl (by decide) rfl (fun ls hl => ?_)
      refine lv_aload_n hx hb d_E_number_53 rfl (lv_at hl 1 rfl) ?_
      refine lv_dup hx hb d_E_number_54 rfl ?_
      refine fg_E_19 C hw hc0 d_E_number_55 ?_
      refine lv_iconst (v := 1) hx hb d_E_number_58 (by decide) ?_
      refine lv_iadd hx hb d_E_number_59 ?_
      refine ste h (fun s14 e15 h => ?_)
      refine fp_E_19 C hw hc0 d_E_number_60 (fun H locs hw => ?_)
      replace hw := HWe hw e15
      refine lv_iload_n hx hb d_E_number_63 rfl (lv_at hl 0 rfl) ?_
      exact retI C hw rfl (Option.some.inj h) d_E_number_64
  · replace h := ifp b3 h
    refine lv_iconst (v := (-1)) hx hb d_E_number_10 (by decide) ?_
    exact retI C hw rfl (Option.some.inj h) d_E_number_11
def f_E_begins (c0 : Nat) (p1 : Int32) (σ : St) : Option (Bool × St) := ((f_E_number c0 σ).bind fun q1 => (if 0 ≤ q1.1 then (if tgb BX (vH q1.2 c0) 1 = true then ((f_R_begin (vH q1.2 c0) p1 q1.1 q1.2).bind fun q5 => some (true, q5)) else none) else some (false, q1.2)))
set_option maxHeartbeats 400000 in
set_option maxRecDepth 20000 in
theorem c_E_begins (g : GX) (c0 : Nat) (hc0 : tg BX c0 9) (p1 : Int32) (σ : St) (q : Bool × St) (h : f_E_begins c0 p1 σ = some q) (l : Launch) : CT BX l y_E_begins (v_E_begins :: lwG) 3 [.ref (g.2.1 c0), .int p1] g σ (QZ BX g q) := by
  refine mkC (cc := b_E_begins) (maxL := 3) (ret := (some .boolean)) rfl (by decide) rfl (Nat.le_of_ble_eq_true rfl) ?_
  intro p e s m args below meth c A ls C hl hw
  obtain ⟨hx, hb, hr, hml, hown, hts, hK, hE, hA, hlk⟩ := id C
  replace hl : lv_has ls 3 [(0, .ref (g.2.1 c0)), (1, .int p1)] := hl
  obtain ⟨H, hH⟩ : ∃ z, z = s.heap := ⟨_, rfl⟩
  rw [← hH] at hw ⊢
  obtain ⟨locs, hlo⟩ : ∃ z : List Loc, z = [] := ⟨_, rfl⟩
  rw [← hlo] at hw ⊢
  unfold f_E_begins at h
  refine lv_aload_n hx hb d_E_begins_0 rfl (lv_at hl 0 rfl) ?_
  refine bnd h (fun q1 k2 h => ?_)
  refine clI C hw (invV (As := []) C hw (c_E_number g c0 hc0 σ q1 k2 l) rfl wc_E_74 nd_E_number ⟨by decide, by decide⟩ (rc_E C hw hc0) rfl hl.1 rfl (Nat.le_of_ble_eq_true rfl) d_E_begins_1 ⟨Nat.le_refl _, Nat.le_refl _⟩) (fun H locs hw => ?_)
  refine lv_istore_n (lv' := [(2, .int q1.1), (0, .ref (g.2.1 c0)), (1, .int p1)]) hx hb d_E_begins_4 rfl hl (by decide) rfl (fun ls hl => ?_)
  refine lv_iload_n hx hb d_E_begins_5 rfl (lv_at hl 0 rfl) ?_
  refine lv_if_ge (tgt := 11) hx hb d_E_begins_6 (by decide) (fun b3 => ?_) (fun b3 => ?_)
  · replace h := ifp b3 h
    refine lv_aload_n hx hb d_E_begins_11 rfl (lv_at hl 1 rfl) ?_
    refine gde h (fun g4 h => ?_)
    refine fg_E_25 C hw hc0 d_E_begins_12 ?_
    refine lv_iload_n hx hb d_E_begins_15 rfl (lv_at hl 2 rfl) ?_
    refine lv_iload_n hx hb d_E_begins_16 rfl (lv_at hl 0 rfl) ?_
    refine bnd h (fun q5 k6 h => ?_)
    refine clV C hw (invV (As := [.int p1, .int q1.1]) C hw (c_R_begin g (vH q1.2 c0) (tgb_t g4) p1 q1.1 q1.2 q5 k6 l) rfl wc_E_77 nd_R_begin ⟨by decide, by decide⟩ (rc_R C hw (tgb_t g4)) rfl hl.1 rfl (Nat.le_of_ble_eq_true rfl) d_E_begins_17 ⟨Nat.le_refl _, Nat.le_refl _⟩) (fun H locs hw => ?_)
    refine lv_iconst (v := 1) hx hb d_E_begins_20 (by decide) ?_
    exact retZ (b := true) C hw rfl rfl (Option.some.inj h) d_E_begins_21
  · replace h := ifn b3 h
    refine lv_iconst (v := 0) hx hb d_E_begins_9 (by decide) ?_
    exact retZ (b := false) C hw rfl rfl (Option.some.inj h) d_E_begins_10
def f_E_ends (c0 : Nat) (σ : St) : Option (Bool × St) := (if tgb BX (vH σ c0) 1 = true then ((f_R_end (vH σ c0) σ).bind fun q2 => some (true, q2)) else none)
set_option maxHeartbeats 400000 in
set_option maxRecDepth 20000 in
theorem c_E_ends (g : GX) (c0 : Nat) (hc0 : tg BX c0 9) (σ : St) (q : Bool × St) (h : f_E_ends c0 σ = some q) (l : Launch) : CT BX l y_E_ends (v_E_ends :: lwG) 2 [.ref (g.2.1 c0)] g σ (QZ BX g q) := by
  refine mkC (cc := b_E_ends) (maxL := 1) (ret := (some .boolean)) rfl (by decide) rfl (Nat.le_of_ble_eq_true rfl) ?_
  intro p e s m args below meth c A ls C hl hw
  obtain ⟨hx, hb, hr, hml, hown, hts, hK, hE, hA, hlk⟩ := id C
  replace hl : lv_has ls 1 [(0, .ref (g.2.1 c0))] := hl
  obtain ⟨H, hH⟩ : ∃ z, z = s.heap := ⟨_, rfl⟩
  rw [← hH] at hw ⊢
  obtain ⟨locs, hlo⟩ : ∃ z : List Loc, z = [] := ⟨_, rfl⟩
  rw [← hlo] at hw ⊢
  unfold f_E_ends at h
  refine lv_aload_n hx hb d_E_ends_0 rfl (lv_at hl 0 rfl) ?_
  refine gde h (fun g1 h => ?_)
  refine fg_E_25 C hw hc0 d_E_ends_1 ?_
  refine bnd h (fun q2 k3 h => ?_)
  refine clV C hw (invV (As := []) C hw (c_R_end g (vH σ c0) (tgb_t g1) σ q2 k3 l) rfl wc_E_81 nd_R_end ⟨by decide, by decide⟩ (rc_R C hw (tgb_t g1)) rfl hl.1 rfl (Nat.le_of_ble_eq_true rfl) d_E_ends_4 ⟨Nat.le_refl _, Nat.le_refl _⟩) (fun H locs hw => ?_)
  refine lv_iconst (v := 1) hx hb d_E_ends_7 (by decide) ?_
  exact retZ (b := true) C hw rfl rfl (Option.some.inj h) d_E_ends_8
def f_E_test (c0 : Nat) (σ : St) : Option (Bool × St) := ((f_E_sign c0 σ).bind fun q1 => (((if 0 ≤ q1 then ((f_E_sign c0 σ).bind fun q7 => ((f_jS_indexOf_1 0 ((q7).toUInt32 % 65536).toInt32).bind fun q9 => some q9)) else some (-1)) : Option (Int32)).bind fun q3 => (if 0 ≤ q3 then (st (sI σ c0 2 ((vI σ c0 2) + 1)) fun s15 => ((f_E_sign c0 s15).bind fun q16 => (if q16 = 60 then (st (sI s15 c0 2 ((vI s15 c0 2) + 1)) fun s20 => ((f_E_number c0 s20).bind fun q21 => (if 0 ≤ q21.1 then (if tgb BX (vH q21.2 c0) 1 = true then ((f_R_step (vH q21.2 c0) (f_R_test q3 q16 q21.1) q21.2).bind fun q25 => some (true, q25)) else none) else some (false, q21.2)))) else (if q16 = 61 then (st (sI s15 c0 2 ((vI s15 c0 2) + 1)) fun s30 => ((f_E_number c0 s30).bind fun q31 => (if 0 ≤ q31.1 then (if tgb BX (vH q31.2 c0) 1 = true then ((f_R_step (vH q31.2 c0) (f_R_test q3 q16 q31.1) q31.2).bind fun q35 => some (true, q35)) else none) else some (false, q31.2)))) else (if q16 = 62 then (st (sI s15 c0 2 ((vI s15 c0 2) + 1)) fun s40 => ((f_E_number c0 s40).bind fun q41 => (if 0 ≤ q41.1 then (if tgb BX (vH q41.2 c0) 1 = true then ((f_R_step (vH q41.2 c0) (f_R_test q3 q16 q41.1) q41.2).bind fun q45 => some (true, q45)) else none) else some (false, q41.2)))) else some (false, s15)))))) else some (false, σ))))
set_option maxHeartbeats 400000 in
set_option maxRecDepth 20000 in
theorem c_E_test (g : GX) (c0 : Nat) (hc0 : tg BX c0 9) (σ : St) (q : Bool × St) (h : f_E_test c0 σ = some q) (l : Launch) : CT BX l y_E_test (v_E_test :: lwG) 5 [.ref (g.2.1 c0)] g σ (QZ BX g q) := by
  refine mkC (cc := b_E_test) (maxL := 4) (ret := (some .boolean)) rfl (by decide) rfl (Nat.le_of_ble_eq_true rfl) ?_
  intro p e s m args below meth c A ls C hl hw
  obtain ⟨hx, hb, hr, hml, hown, hts, hK, hE, hA, hlk⟩ := id C
  replace hl : lv_has ls 4 [(0, .ref (g.2.1 c0))] := hl
  obtain ⟨H, hH⟩ : ∃ z, z = s.heap := ⟨_, rfl⟩
  rw [← hH] at hw ⊢
  obtain ⟨locs, hlo⟩ : ∃ z : List Loc, z = [] := ⟨_, rfl⟩
  rw [← hlo] at hw ⊢
  unfold f_E_test at h
  refine lv_aload_n hx hb d_E_test_0 rfl (lv_at hl 0 rfl) ?_
  refine bnd h (fun q1 k2 h => ?_)
  refine clI0 (v := q1) C hw (invV (As := []) C hw (c_E_sign g c0 hc0 σ q1 k2 l) rfl wc_E_40 nd_E_sign ⟨by decide, by decide⟩ (rc_E C hw hc0) rfl hl.1 rfl (Nat.le_of_ble_eq_true rfl) d_E_test_1 ⟨Nat.le_refl _, Nat.le_refl _⟩) (fun H locs hw => ?_)
  refine bnd h (fun q3 h4 h => ?_)
  have J5 : ∀ (H : Heap) (locs : List Loc) (ls : Array Slot), HW BX g A s σ H locs → lv_has ls 4 [(0, .ref (g.2.1 c0))] → W p l e (rmL 5) s m args below meth c H locs 0 0 (MQ below (QZ BX g q A) args s 0 0 A) (F0 m 21 ls [.int q3]) := by
    intro H locs ls hw hl
    refine lv_istore_n (lv' := [(1, .int q3), (0, .ref (g.2.1 c0))]) hx hb d_E_test_21 rfl hl (by decide) rfl (fun ls hl => ?_)
    refine lv_iload_n hx hb d_E_test_22 rfl (lv_at hl 0 rfl) ?_
    refine lv_if_ge (tgt := 28) hx hb d_E_test_23 (by decide) (fun b13 => ?_) (fun b13 => ?_)
    · replace h := ifp b13 h
      refine lv_aload_n hx hb d_E_test_28 rfl (lv_at hl 1 rfl) ?_
      refine lv_dup hx hb d_E_test_29 rfl ?_
      refine fg_E_19 C hw hc0 d_E_test_30 ?_
      refine lv_iconst (v := 1) hx hb d_E_test_33 (by decide) ?_
      refine lv_iadd hx hb d_E_test_34 ?_
      refine ste h (fun s15 e48 h => ?_)
      refine fp_E_19 C hw hc0 d_E_test_35 (fun H locs hw => ?_)
      replace hw := HWe hw e48
      refine lv_aload_n hx hb d_E_test_38 rfl (lv_at hl 1 rfl) ?_
      refine bnd h (fun q16 k17 h => ?_)
      refine clI0 (v := q16) C hw (invV (As := []) C hw (c_E_sign g c0 hc0 s15 q16 k17 l) rfl wc_E_40 nd_E_sign ⟨by decide, by decide⟩ (rc_E C hw hc0) rfl hl.1 rfl (Nat.le_of_ble_eq_true rfl) d_E_test_39 ⟨Nat.le_refl _, Nat.le_refl _⟩) (fun H locs hw => ?_)
      refine lv_istore_n (lv' := [(2, .int q16), (1, .int q3), (0, .ref (g.2.1 c0))]) hx hb d_E_test_42 rfl hl (by decide) rfl (fun ls hl => ?_)
      refine lv_iload_n hx hb d_E_test_43 rfl (lv_at hl 0 rfl) ?_
      refine lv_bipush (v := 60) hx hb d_E_test_44 (by decide) ?_
      refine lv_icmp_eq (tgt := 63) hx hb d_E_test_46 (by decide) (fun b18 => ?_) (fun b18 => ?_)
      · replace h := ifp b18 h
        refine lv_aload_n hx hb d_E_test_63 rfl (lv_at hl 2 rfl) ?_
        refine lv_dup hx hb d_E_test_64 rfl ?_
        refine fg_E_19 C hw hc0 d_E_test_65 ?_
        refine lv_iconst (v := 1) hx hb d_E_test_68 (by decide) ?_
        refine lv_iadd hx hb d_E_test_69 ?_
        refine ste h (fun s20 e27 h => ?_)
        refine fp_E_19 C hw hc0 d_E_test_70 (fun H locs hw => ?_)
        replace hw := HWe hw e27
        refine lv_aload_n hx hb d_E_test_73 rfl (lv_at hl 2 rfl) ?_
        refine bnd h (fun q21 k22 h => ?_)
        refine clI C hw (invV (As := []) C hw (c_E_number g c0 hc0 s20 q21 k22 l) rfl wc_E_74 nd_E_number ⟨by decide, by decide⟩ (rc_E C hw hc0) rfl hl.1 rfl (Nat.le_of_ble_eq_true rfl) d_E_test_74 ⟨Nat.le_refl _, Nat.le_refl _⟩) (fun H locs hw => ?_)
        refine lv_istore_n (lv' := [(3, .int q21.1), (2, .int q16), (1, .int q3), (0, .ref (g.2.1 c0))]) hx hb d_E_test_77 rfl hl (by decide) rfl (fun ls hl => ?_)
        refine lv_iload_n hx hb d_E_test_78 rfl (lv_at hl 0 rfl) ?_
        refine lv_if_ge (tgt := 84) hx hb d_E_test_79 (by decide) (fun b23 => ?_) (fun b23 => ?_)
        · replace h := ifp b23 h
          refine lv_aload_n hx hb d_E_test_84 rfl (lv_at hl 3 rfl) ?_
          refine gde h (fun g24 h => ?_)
          refine fg_E_25 C hw hc0 d_E_test_85 ?_
          refine lv_iload_n hx hb d_E_test_88 rfl (lv_at hl 2 rfl) ?_
          refine lv_iload_n hx hb d_E_test_89 rfl (lv_at hl 1 rfl) ?_
          refine lv_iload_n hx hb d_E_test_90 rfl (lv_at hl 0 rfl) ?_
          refine clI0 (v := (f_R_test q3 q16 q21.1)) C hw (invS (As := [.int q3, .int q16, .int q21.1]) C hw (c_R_test g q3 q16 q21.1 q21.2 l) rfl wc_E_103 nd_R_test.2 ⟨by decide, by decide⟩ rfl hl.1 rfl (Nat.le_of_ble_eq_true rfl) d_E_test_91 ⟨Nat.le_refl _, Nat.le_refl _⟩) (fun H locs hw => ?_)
          refine bnd h (fun q25 k26 h => ?_)
          refine clV C hw (invV (As := [.int (f_R_test q3 q16 q21.1)]) C hw (c_R_step g (vH q21.2 c0) (tgb_t g24) (f_R_test q3 q16 q21.1) q21.2 q25 k26 l) rfl wc_E_90 nd_R_step ⟨by decide, by decide⟩ (rc_R C hw (tgb_t g24)) rfl hl.1 rfl (Nat.le_of_ble_eq_true rfl) d_E_test_94 ⟨Nat.le_refl _, Nat.le_refl _⟩) (fun H locs hw => ?_)
          refine lv_iconst (v := 1) hx hb d_E_test_97 (by decide) ?_
          exact retZ (b := true) C hw rfl rfl (Option.some.inj h) d_E_test_98
        · replace h := ifn b23 h
          refine lv_iconst (v := 0) hx hb d_E_test_82 (by decide) ?_
          exact retZ (b := false) C hw rfl rfl (Option.some.inj h) d_E_test_83
      · replace h := ifn b18 h
        refine lv_iload_n hx hb d_E_test_49 rfl (lv_at hl 0 rfl) ?_
        refine lv_bipush (v := 61) hx hb d_E_test_50 (by decide) ?_
        refine lv_icmp_eq (tgt := 63) hx hb d_E_test_52 (by decide) (fun b28 => ?_) (fun b28 => ?_)
        · replace h := ifp b28 h
          refine lv_aload_n hx hb d_E_test_63 rfl (lv_at hl 2 rfl) ?_
          refine lv_dup hx hb d_E_test_64 rfl ?_
          refine fg_E_19 C hw hc0 d_E_test_65 ?_
          refine lv_iconst (v := 1) hx hb d_E_test_68 (by decide) ?_
          refine lv_iadd hx hb d_E_test_69 ?_
          refine ste h (fun s30 e37 h => ?_)
          refine fp_E_19 C hw hc0 d_E_test_70 (fun H locs hw => ?_)
          replace hw := HWe hw e37
          refine lv_aload_n hx hb d_E_test_73 rfl (lv_at hl 2 rfl) ?_
          refine bnd h (fun q31 k32 h => ?_)
          refine clI C hw (invV (As := []) C hw (c_E_number g c0 hc0 s30 q31 k32 l) rfl wc_E_74 nd_E_number ⟨by decide, by decide⟩ (rc_E C hw hc0) rfl hl.1 rfl (Nat.le_of_ble_eq_true rfl) d_E_test_74 ⟨Nat.le_refl _, Nat.le_refl _⟩) (fun H locs hw => ?_)
          refine lv_istore_n (lv' := [(3, .int q31.1), (2, .int q16), (1, .int q3), (0, .ref (g.2.1 c0))]) hx hb d_E_test_77 rfl hl (by decide) rfl (fun ls hl => ?_)
          refine lv_iload_n hx hb d_E_test_78 rfl (lv_at hl 0 rfl) ?_
          refine lv_if_ge (tgt := 84) hx hb d_E_test_79 (by decide) (fun b33 => ?_) (fun b33 => ?_)
          · replace h := ifp b33 h
            refine lv_aload_n hx hb d_E_test_84 rfl (lv_at hl 3 rfl) ?_
            refine gde h (fun g34 h => ?_)
            refine fg_E_25 C hw hc0 d_E_test_85 ?_
            refine lv_iload_n hx hb d_E_test_88 rfl (lv_at hl 2 rfl) ?_
            refine lv_iload_n hx hb d_E_test_89 rfl (lv_at hl 1 rfl) ?_
            refine lv_iload_n hx hb d_E_test_90 rfl (lv_at hl 0 rfl) ?_
            refine clI0 (v := (f_R_test q3 q16 q31.1)) C hw (invS (As := [.int q3, .int q16, .int q31.1]) C hw (c_R_test g q3 q16 q31.1 q31.2 l) rfl wc_E_103 nd_R_test.2 ⟨by decide, by decide⟩ rfl hl.1 rfl (Nat.le_of_ble_eq_true rfl) d_E_test_91 ⟨Nat.le_refl _, Nat.le_refl _⟩) (fun H locs hw => ?_)
            refine bnd h (fun q35 k36 h => ?_)
            refine clV C hw (invV (As := [.int (f_R_test q3 q16 q31.1)]) C hw (c_R_step g (vH q31.2 c0) (tgb_t g34) (f_R_test q3 q16 q31.1) q31.2 q35 k36 l) rfl wc_E_90 nd_R_step ⟨by decide, by decide⟩ (rc_R C hw (tgb_t g34)) rfl hl.1 rfl (Nat.le_of_ble_eq_true rfl) d_E_test_94 ⟨Nat.le_refl _, Nat.le_refl _⟩) (fun H locs hw => ?_)
            refine lv_iconst (v := 1) hx hb d_E_test_97 (by decide) ?_
            exact retZ (b := true) C hw rfl rfl (Option.some.inj h) d_E_test_98
          · replace h := ifn b33 h
            refine lv_iconst (v := 0) hx hb d_E_test_82 (by decide) ?_
            exact retZ (b := false) C hw rfl rfl (Option.some.inj h) d_E_test_83
        · replace h := ifn b28 h
          refine lv_iload_n hx hb d_E_test_55 rfl (lv_at hl 0 rfl) ?_
          refine lv_bipush (v := 62) hx hb d_E_test_56 (by decide) ?_
          refine lv_icmp_eq (tgt := 63) hx hb d_E_test_58 (by decide) (fun b38 => ?_) (fun b38 => ?_)
          · replace h := ifp b38 h
            refine lv_aload_n hx hb d_E_test_63 rfl (lv_at hl 2 rfl) ?_
            refine lv_dup hx hb d_E_test_64 rfl ?_
            refine fg_E_19 C hw hc0 d_E_test_65 ?_
            refine lv_iconst (v := 1) hx hb d_E_test_68 (by decide) ?_
            refine lv_iadd hx hb d_E_test_69 ?_
            refine ste h (fun s40 e47 h => ?_)
            refine fp_E_19 C hw hc0 d_E_test_70 (fun H locs hw => ?_)
            replace hw := HWe hw e47
            refine lv_aload_n hx hb d_E_test_73 rfl (lv_at hl 2 rfl) ?_
            refine bnd h (fun q41 k42 h => ?_)
            refine clI C hw (invV (As := []) C hw (c_E_number g c0 hc0 s40 q41 k42 l) rfl wc_E_74 nd_E_number ⟨by decide, by decide⟩ (rc_E C hw hc0) rfl hl.1 rfl (Nat.le_of_ble_eq_true rfl) d_E_test_74 ⟨Nat.le_refl _, Nat.le_refl _⟩) (fun H locs hw => ?_)
            refine lv_istore_n (lv' := [(3, .int q41.1), (2, .int q16), (1, .int q3), (0, .ref (g.2.1 c0))]) hx hb d_E_test_77 rfl hl (by decide) rfl (fun ls hl => ?_)
            refine lv_iload_n hx hb d_E_test_78 rfl (lv_at hl 0 rfl) ?_
            refine lv_if_ge (tgt := 84) hx hb d_E_test_79 (by decide) (fun b43 => ?_) (fun b43 => ?_)
            · replace h := ifp b43 h
              refine lv_aload_n hx hb d_E_test_84 rfl (lv_at hl 3 rfl) ?_
              refine gde h (fun g44 h => ?_)
              refine fg_E_25 C hw hc0 d_E_test_85 ?_
              refine lv_iload_n hx hb d_E_test_88 rfl (lv_at hl 2 rfl) ?_
              refine lv_iload_n hx hb d_E_test_89 rfl (lv_at hl 1 rfl) ?_
              refine lv_iload_n hx hb d_E_test_90 rfl (lv_at hl 0 rfl) ?_
              refine clI0 (v := (f_R_test q3 q16 q41.1)) C hw (invS (As := [.int q3, .int q16, .int q41.1]) C hw (c_R_test g q3 q16 q41.1 q41.2 l) rfl wc_E_103 nd_R_test.2 ⟨by decide, by decide⟩ rfl hl.1 rfl (Nat.le_of_ble_eq_true rfl) d_E_test_91 ⟨Nat.le_refl _, Nat.le_refl _⟩) (fun H locs hw => ?_)
              refine bnd h (fun q45 k46 h => ?_)
              refine clV C hw (invV (As := [.int (f_R_test q3 q16 q41.1)]) C hw (c_R_step g (vH q41.2 c0) (tgb_t g44) (f_R_test q3 q16 q41.1) q41.2 q45 k46 l) rfl wc_E_90 nd_R_step ⟨by decide, by decide⟩ (rc_R C hw (tgb_t g44)) rfl hl.1 rfl (Nat.le_of_ble_eq_true rfl) d_E_test_94 ⟨Nat.le_refl _, Nat.le_refl _⟩) (fun H locs hw => ?_)
              refine lv_iconst (v := 1) hx hb d_E_test_97 (by decide) ?_
              exact retZ (b := true) C hw rfl rfl (Option.some.inj h) d_E_test_98
            · replace h := ifn b43 h
              refine lv_iconst (v := 0) hx hb d_E_test_82 (by decide) ?_
              exact retZ (b := false) C hw rfl rfl (Option.some.inj h) d_E_test_83
          · replace h := ifn b38 h
            refine lv_iconst (v := 0) hx hb d_E_test_61 (by decide) ?_
            exact retZ (b := false) C hw rfl rfl (Option.some.inj h) d_E_test_62
    · replace h := ifn b13 h
      refine lv_iconst (v := 0) hx hb d_E_test_26 (by decide) ?_
      exact retZ (b := false) C hw rfl rfl (Option.some.inj h) d_E_test_27
  refine lv_if_ge (tgt := 11) hx hb d_E_test_4 (by decide) (fun b6 => ?_) (fun b6 => ?_)
  · replace h4 := ifp b6 h4
    refine va_ldcS hx hb hown (rf_1 (hE rfl)) d_E_test_11 ?_
    refine lv_aload_n hx hb d_E_test_13 rfl (lv_at hl 0 rfl) ?_
    refine bnd h4 (fun q7 k8 h4 => ?_)
    refine clI0 (v := q7) C hw (invV (As := []) C hw (c_E_sign g c0 hc0 σ q7 k8 l) rfl wc_E_40 nd_E_sign ⟨by decide, by decide⟩ (rc_E C hw hc0) rfl hl.1 rfl (Nat.le_of_ble_eq_true rfl) d_E_test_14 ⟨Nat.le_refl _, Nat.le_refl _⟩) (fun H locs hw => ?_)
    refine lv_i2c hx hb d_E_test_17 rfl ?_
    refine bnd h4 (fun q9 k10 h4 => ?_)
    refine clI0 (v := q9) C hw (invV (As := [.int ((q7).toUInt32 % 65536).toInt32]) C hw (c_jS_indexOf_1 g 0 (show 0 < 5 by decide) ((q7).toUInt32 % 65536).toInt32 σ q9 k10 l) rfl wc_E_99 nd_jS_indexOf_1 ⟨by decide, by decide⟩ (vk_recv (adK := fun i => g.2.1 (1000 + i)) (i := 0) (hE rfl).2.2.1 (show 0 < 5 by decide) hw.2.2) rfl hl.1 rfl (Nat.le_of_ble_eq_true rfl) d_E_test_18 ⟨Nat.le_refl _, Nat.le_refl _⟩) (fun H locs hw => ?_)
    have e11 := Option.some.inj h4
    subst e11
    exact J5 H locs ls hw (lv_sub hl [0] rfl)
  · replace h4 := ifn b6 h4
    refine lv_iconst (v := (-1)) hx hb d_E_test_7 (by decide) ?_
    refine lv_goto (tgt := 21) hx hb d_E_test_8 (by decide) ?_
    have e12 := Option.some.inj h4
    subst e12
    exact J5 H locs ls hw (lv_sub hl [0] rfl)
def f_E_either_l20 (ff : Nat → Int32 → St → Option (Bool × St)) : Nat → Nat → Int32 → Int32 → Int32 → St → Option ((St) ⊕ (Bool × St))
  | 0, _, _, _, _, _ => none
  | n + 1, c0, x1, x2, x3, σ => (if 100 ≤ x3 then some (Sum.inl σ) else ((f_E_skips c0 38 σ).bind fun q8 => (if q8.1 = false then some (Sum.inl q8.2) else ((ff c0 x1 q8.2).bind fun q11 => (if q11.1 = false then some (Sum.inr (false, q11.2)) else (if tgb BX (vH q11.2 c0) 1 = true then ((f_R_step (vH q11.2 c0) (-2) q11.2).bind fun q15 => (f_E_either_l20 ff n c0 x1 x2 (x3 + 1) q15)) else none))))))
def f_E_either_l2 (ff : Nat → Int32 → St → Option (Bool × St)) : Nat → Nat → Int32 → Int32 → St → Option ((St) ⊕ (Bool × St))
  | 0, _, _, _, _ => none
  | n + 1, c0, x1, x2, σ => (if 100 ≤ x2 then some (Sum.inl σ) else ((ff c0 x1 σ).bind fun q3 => (if q3.1 = false then some (Sum.inr (false, q3.2)) else ((f_E_either_l20 ff FU c0 x1 x2 0 q3.2).bind fun x_17 => Sum.elim (fun y19 => (((if x2 ≤ 0 then some y19 else (if tgb BX (vH y19 c0) 1 = true then ((f_R_step (vH y19 c0) (-3) y19).bind fun q26 => some q26) else none)) : Option (St)).bind fun q20 => ((f_E_skips c0 124 q20).bind fun q29 => (if q29.1 = false then some (Sum.inr (true, q29.2)) else (f_E_either_l2 ff n c0 x1 (x2 + 1) q29.2))))) (fun z => some (Sum.inr z)) x_17))))
def f_E_either (ff : Nat → Int32 → St → Option (Bool × St)) (c0 : Nat) (p1 : Int32) (σ : St) : Option (Bool × St) := ((f_E_either_l2 ff FU c0 p1 0 σ).bind fun x_33 => Sum.elim (fun y35 => some (false, y35)) (fun z => some z) x_33)
set_option maxHeartbeats 400000 in
set_option maxRecDepth 20000 in
theorem cb_E_either (g : GX) (dd : Nat) (ff : Nat → Int32 → St → Option (Bool × St)) (Hf : ∀ (c0 : Nat) (hc0 : tg BX c0 9) (p1 : Int32) (σ : St) (q : Bool × St), ff c0 p1 σ = some q → ∀ l : Launch, CT BX l y_E_factor (v_E_factor :: lwG) (6 + dd) [.ref (g.2.1 c0), .int p1] g σ (QZ BX g q)) (c0 : Nat) (hc0 : tg BX c0 9) (p1 : Int32) (σ : St) (q : Bool × St) (h : f_E_either ff c0 p1 σ = some q) (l : Launch) : CT BX l y_E_either (v_E_either :: lwG) (6 + dd + 1) [.ref (g.2.1 c0), .int p1] g σ (QZ BX g q) := by
  refine mkC (cc := b_E_either) (maxL := 4) (ret := (some .boolean)) rfl (by decide) rfl (Nat.le_of_ble_eq_true rfl) ?_
  intro p e s m args below meth c A ls C hl hw
  obtain ⟨hx, hb, hr, hml, hown, hts, hK, hE, hA, hlk⟩ := id C
  replace hl : lv_has ls 4 [(0, .ref (g.2.1 c0)), (1, .int p1)] := hl
  obtain ⟨H, hH⟩ : ∃ z, z = s.heap := ⟨_, rfl⟩
  rw [← hH] at hw ⊢
  obtain ⟨locs, hlo⟩ : ∃ z : List Loc, z = [] := ⟨_, rfl⟩
  rw [← hlo] at hw ⊢
  unfold f_E_either at h
  refine lv_iconst (v := 0) hx hb d_E_either_0 (by decide) ?_
  refine lv_istore_n (lv' := [(2, .int 0), (0, .ref (g.2.1 c0)), (1, .int p1)]) hx hb d_E_either_1 rfl hl (by decide) rfl (fun ls hl => ?_)
  have L1 : ∀ (c0 : Nat) (hc0 : tg BX c0 9) (x1 : Int32) (n : Nat) (x2 : Int32) (σ : St) (H : Heap) (locs : List Loc) (ls : Array Slot), HW BX g A s σ H locs → lv_has ls 4 [(0, .ref (g.2.1 c0)), (1, .int x1), (2, .int x2)] → ∀ (ex : (St) ⊕ (Bool × St)), f_E_either_l2 ff n c0 x1 x2 σ = some ex → (∀ (y : St), ex = Sum.inl y → ∀ (H : Heap) (locs : List Loc) (ls : Array Slot), HW BX g A s y H locs → lv_has ls 4 [] → W p l e (rmL (6 + dd + 1)) s m args below meth c H locs 0 0 (MQ below (QZ BX g q A) args s 0 0 A) (F0 m 90 ls [])) → (∀ (z : Bool × St), ex = Sum.inr z → z = q) → W p l e (rmL (6 + dd + 1)) s m args below meth c H locs 0 0 (MQ below (QZ BX g q A) args s 0 0 A) (F0 m 2 ls []) := by
    intro c0 hc0 x1 n
    induction n with
    | zero =>
      intro x2 σ H locs ls hw hl ex h kx1 kr1
      cases h
    | succ n ih =>
      intro x2 σ H locs ls hw hl ex h kx1 kr1
      rw [f_E_either_l2] at h
      refine lv_iload_n hx hb d_E_either_2 rfl (lv_at hl 2 rfl) ?_
      refine lv_bipush (v := 100) hx hb d_E_either_3 (by decide) ?_
      refine lv_icmp_ge (tgt := 90) hx hb d_E_either_5 (by decide) (fun b2 => ?_) (fun b2 => ?_)
      · replace h := ifp b2 h
        exact kx1 _ (Option.some.inj h).symm H locs ls hw (lv_sub hl [] rfl)
      · replace h := ifn b2 h
        refine lv_aload_n hx hb d_E_either_8 rfl (lv_at hl 0 rfl) ?_
        refine lv_iload_n hx hb d_E_either_9 rfl (lv_at hl 1 rfl) ?_
        refine bnd h (fun q3 k4 h => ?_)
        refine clZ C hw (invV (As := [.int x1]) C hw (Hf c0 hc0 x1 σ q3 k4 l) rfl wc_E_87 nd_E_factor ⟨by simp only [rmL]; omega, by simp only [rmL]; omega⟩ (rc_E C hw hc0) rfl hl.1 rfl (Nat.le_of_ble_eq_true rfl) d_E_either_10 ⟨Nat.le_refl _, Nat.le_refl _⟩) (fun H locs hw => ?_)
        refine ifnB (tgt := 18) C d_E_either_13 (by decide) (fun b5 => ?_) (fun b5 => ?_)
        · replace h := ifn b5 h
          refine lv_iconst (v := 0) hx hb d_E_either_18 (by decide) ?_
          refine lv_istore_n (lv' := [(3, .int 0), (0, .ref (g.2.1 c0)), (1, .int x1), (2, .int x2)]) hx hb d_E_either_19 rfl hl (by decide) rfl (fun ls hl => ?_)
          have L6 : ∀ (c0 : Nat) (hc0 : tg BX c0 9) (x1 : Int32) (x2 : Int32) (n : Nat) (x3 : Int32) (σ : St) (H : Heap) (locs : List Loc) (ls : Array Slot), HW BX g A s σ H locs → lv_has ls 4 [(0, .ref (g.2.1 c0)), (1, .int x1), (2, .int x2), (3, .int x3)] → ∀ (ex : (St) ⊕ (Bool × St)), f_E_either_l20 ff n c0 x1 x2 x3 σ = some ex → (∀ (y : St), ex = Sum.inl y → ∀ (H : Heap) (locs : List Loc) (ls : Array Slot), HW BX g A s y H locs → lv_has ls 4 [(0, .ref (g.2.1 c0)), (1, .int x1), (2, .int x2)] → W p l e (rmL (6 + dd + 1)) s m args below meth c H locs 0 0 (MQ below (QZ BX g q A) args s 0 0 A) (F0 m 60 ls [])) → (∀ (z : Bool × St), ex = Sum.inr z → z = q) → W p l e (rmL (6 + dd + 1)) s m args below meth c H locs 0 0 (MQ below (QZ BX g q A) args s 0 0 A) (F0 m 20 ls []) := by
            intro c0 hc0 x1 x2 n
            induction n with
            | zero =>
              intro x3 σ H locs ls hw hl ex h kx6 kr6
              cases h
            | succ n ih =>
              intro x3 σ H locs ls hw hl ex h kx6 kr6
              rw [f_E_either_l20] at h
              refine lv_iload_n hx hb d_E_either_20 rfl (lv_at hl 3 rfl) ?_
              refine lv_bipush (v := 100) hx hb d_E_either_21 (by decide) ?_
              refine lv_icmp_ge (tgt := 60) hx hb d_E_either_23 (by decide) (fun b7 => ?_) (fun b7 => ?_)
              · replace h := ifp b7 h
                exact kx6 _ (Option.some.inj h).symm H locs ls hw (lv_sub hl [0, 1, 2] rfl)
              · replace h := ifn b7 h
                refine lv_aload_n hx hb d_E_either_26 rfl (lv_at hl 0 rfl) ?_
                refine lv_bipush (v := 38) hx hb d_E_either_27 (by decide) ?_
                refine bnd h (fun q8 k9 h => ?_)
                refine clZ C hw (invV (As := [.int 38]) C hw (c_E_skips g c0 hc0 38 σ q8 k9 l) rfl wc_E_36 nd_E_skips ⟨by simp only [rmL]; omega, by simp only [rmL]; omega⟩ (rc_E C hw hc0) rfl hl.1 rfl (Nat.le_of_ble_eq_true rfl) d_E_either_29 ⟨Nat.le_refl _, Nat.le_refl _⟩) (fun H locs hw => ?_)
                refine ifB (tgt := 60) C d_E_either_32 (by decide) (fun b10 => ?_) (fun b10 => ?_)
                · replace h := ifp b10 h
                  exact kx6 _ (Option.some.inj h).symm H locs ls hw (lv_sub hl [0, 1, 2] rfl)
                · replace h := ifn b10 h
                  refine lv_aload_n hx hb d_E_either_35 rfl (lv_at hl 0 rfl) ?_
                  refine lv_iload_n hx hb d_E_either_36 rfl (lv_at hl 1 rfl) ?_
                  refine bnd h (fun q11 k12 h => ?_)
                  refine clZ C hw (invV (As := [.int x1]) C hw (Hf c0 hc0 x1 q8.2 q11 k12 l) rfl wc_E_87 nd_E_factor ⟨by simp only [rmL]; omega, by simp only [rmL]; omega⟩ (rc_E C hw hc0) rfl hl.1 rfl (Nat.le_of_ble_eq_true rfl) d_E_either_37 ⟨Nat.le_refl _, Nat.le_refl _⟩) (fun H locs hw => ?_)
                  refine ifnB (tgt := 45) C d_E_either_40 (by decide) (fun b13 => ?_) (fun b13 => ?_)
                  · replace h := ifn b13 h
                    refine lv_aload_n hx hb d_E_either_45 rfl (lv_at hl 0 rfl) ?_
                    refine gde h (fun g14 h => ?_)
                    refine fg_E_25 C hw hc0 d_E_either_46 ?_
                    refine lv_bipush (v := (-2)) hx hb d_E_either_49 (by decide) ?_
                    refine bnd h (fun q15 k16 h => ?_)
                    refine clV C hw (invV (As := [.int (-2)]) C hw (c_R_step g (vH q11.2 c0) (tgb_t g14) (-2) q11.2 q15 k16 l) rfl wc_E_90 nd_R_step ⟨by simp only [rmL]; omega, by simp only [rmL]; omega⟩ (rc_R C hw (tgb_t g14)) rfl hl.1 rfl (Nat.le_of_ble_eq_true rfl) d_E_either_51 ⟨Nat.le_refl _, Nat.le_refl _⟩) (fun H locs hw => ?_)
                    refine lv_iinc (v := (x3 + 1)) (lv' := [(3, .int (x3 + 1)), (0, .ref (g.2.1 c0)), (1, .int x1), (2, .int x2)]) hx hb d_E_either_54 hl (k := 3) rfl rfl (by decide) rfl (fun ls hl => ?_)
                    refine lv_goto (tgt := 20) hx hb d_E_either_57 (by decide) ?_
                    exact ih (x3 + 1) q15 H locs ls hw (lv_sub hl [1, 2, 3, 0] rfl) ex h kx6 kr6
                  · replace h := ifp b13 h
                    refine lv_iconst (v := 0) hx hb d_E_either_43 (by decide) ?_
                    exact retZ (b := false) C hw rfl rfl (kr6 _ (Option.some.inj h).symm) d_E_either_44
          refine bnd h (fun x_17 k18 h => ?_)
          refine L6 c0 hc0 x1 x2 FU 0 q3.2 H locs ls hw (lv_sub hl [1, 2, 3, 0] rfl) x_17 k18 (fun y19 e32 H locs ls hw hl => ?_) (fun z e32 => ?_)
          · rw [e32] at h
            replace h := sel h
            refine lv_iload_n hx hb d_E_either_60 rfl (lv_at hl 2 rfl) ?_
            refine bnd h (fun q20 h21 h => ?_)
            have J22 : ∀ (H : Heap) (locs : List Loc) (ls : Array Slot), HW BX g A s q20 H locs → lv_has ls 4 [(0, .ref (g.2.1 c0)), (1, .int x1), (2, .int x2)] → W p l e (rmL (6 + dd + 1)) s m args below meth c H locs 0 0 (MQ below (QZ BX g q A) args s 0 0 A) (F0 m 73 ls []) := by
              intro H locs ls hw hl
              refine lv_aload_n hx hb d_E_either_73 rfl (lv_at hl 0 rfl) ?_
              refine lv_bipush (v := 124) hx hb d_E_either_74 (by decide) ?_
              refine bnd h (fun q29 k30 h => ?_)
              refine clZ C hw (invV (As := [.int 124]) C hw (c_E_skips g c0 hc0 124 q20 q29 k30 l) rfl wc_E_36 nd_E_skips ⟨by simp only [rmL]; omega, by simp only [rmL]; omega⟩ (rc_E C hw hc0) rfl hl.1 rfl (Nat.le_of_ble_eq_true rfl) d_E_either_76 ⟨Nat.le_refl _, Nat.le_refl _⟩) (fun H locs hw => ?_)
              refine ifnB (tgt := 84) C d_E_either_79 (by decide) (fun b31 => ?_) (fun b31 => ?_)
              · replace h := ifn b31 h
                refine lv_iinc (v := (x2 + 1)) (lv' := [(2, .int (x2 + 1)), (0, .ref (g.2.1 c0)), (1, .int x1)]) hx hb d_E_either_84 hl (k := 2) rfl rfl (by decide) rfl (fun ls hl => ?_)
                refine lv_goto (tgt := 2) hx hb d_E_either_87 (by decide) ?_
                exact ih (x2 + 1) q29.2 H locs ls hw (lv_sub hl [1, 2, 0] rfl) ex h kx1 kr1
              · replace h := ifp b31 h
                refine lv_iconst (v := 1) hx hb d_E_either_82 (by decide) ?_
                exact retZ (b := true) C hw rfl rfl (kr1 _ (Option.some.inj h).symm) d_E_either_83
            refine lv_if_le (tgt := 73) hx hb d_E_either_61 (by decide) (fun b23 => ?_) (fun b23 => ?_)
            · replace h21 := ifp b23 h21
              have e24 := Option.some.inj h21
              subst e24
              exact J22 H locs ls hw (lv_sub hl [0, 1, 2] rfl)
            · replace h21 := ifn b23 h21
              refine lv_aload_n hx hb d_E_either_64 rfl (lv_at hl 0 rfl) ?_
              refine gde h21 (fun g25 h21 => ?_)
              refine fg_E_25 C hw hc0 d_E_either_65 ?_
              refine lv_bipush (v := (-3)) hx hb d_E_either_68 (by decide) ?_
              refine bnd h21 (fun q26 k27 h21 => ?_)
              refine clV C hw (invV (As := [.int (-3)]) C hw (c_R_step g (vH y19 c0) (tgb_t g25) (-3) y19 q26 k27 l) rfl wc_E_90 nd_R_step ⟨by simp only [rmL]; omega, by simp only [rmL]; omega⟩ (rc_R C hw (tgb_t g25)) rfl hl.1 rfl (Nat.le_of_ble_eq_true rfl) d_E_either_70 ⟨Nat.le_refl _, Nat.le_refl _⟩) (fun H locs hw => ?_)
              have e28 := Option.some.inj h21
              subst e28
              exact J22 H locs ls hw (lv_sub hl [0, 1, 2] rfl)
          · rw [e32] at h
            replace h := ser h
            exact kr1 _ (Option.some.inj h).symm
        · replace h := ifp b5 h
          refine lv_iconst (v := 0) hx hb d_E_either_16 (by decide) ?_
          exact retZ (b := false) C hw rfl rfl (kr1 _ (Option.some.inj h).symm) d_E_either_17
  refine bnd h (fun x_33 k34 h => ?_)
  refine L1 c0 hc0 p1 FU 0 σ H locs ls hw (lv_sub hl [1, 2, 0] rfl) x_33 k34 (fun y35 e36 H locs ls hw hl => ?_) (fun z e36 => ?_)
  · rw [e36] at h
    replace h := sel h
    refine lv_iconst (v := 0) hx hb d_E_either_90 (by decide) ?_
    exact retZ (b := false) C hw rfl rfl (Option.some.inj h) d_E_either_91
  · rw [e36] at h
    replace h := ser h
    exact Option.some.inj h
def f_E_factor (fe : Nat → Int32 → St → Option (Bool × St)) (ff : Nat → Int32 → St → Option (Bool × St)) (c0 : Nat) (p1 : Int32) (σ : St) : Option (Bool × St) := ((f_E_sign c0 σ).bind fun q1 => (if q1 = 33 then (if p1 < 4 then ((f_E_skips c0 40 σ).bind fun q5 => (if q5.1 = false then (st (sI q5.2 c0 2 ((vI q5.2 c0 2) + 1)) fun s9 => ((ff c0 (p1 + 1) s9).bind fun q10 => (if q10.1 = false then some (false, q10.2) else (if tgb BX (vH q10.2 c0) 1 = true then ((f_R_step (vH q10.2 c0) (-1) q10.2).bind fun q14 => some (true, q14)) else none)))) else ((fe c0 (p1 + 1) q5.2).bind fun q17 => (if q17.1 = false then some (false, q17.2) else ((f_E_skips c0 41 q17.2).bind fun q20 => (if q20.1 = false then some (false, q20.2) else some (true, q20.2))))))) else some (false, σ)) else ((f_E_sign c0 σ).bind fun q23 => (if q23 = 40 then (if p1 < 4 then ((f_E_skips c0 40 σ).bind fun q27 => (if q27.1 = false then (st (sI q27.2 c0 2 ((vI q27.2 c0 2) + 1)) fun s31 => ((ff c0 (p1 + 1) s31).bind fun q32 => (if q32.1 = false then some (false, q32.2) else (if tgb BX (vH q32.2 c0) 1 = true then ((f_R_step (vH q32.2 c0) (-1) q32.2).bind fun q36 => some (true, q36)) else none)))) else ((fe c0 (p1 + 1) q27.2).bind fun q39 => (if q39.1 = false then some (false, q39.2) else ((f_E_skips c0 41 q39.2).bind fun q42 => (if q42.1 = false then some (false, q42.2) else some (true, q42.2))))))) else some (false, σ)) else ((f_E_test c0 σ).bind fun q45 => some (q45.1, q45.2))))))
set_option maxHeartbeats 400000 in
set_option maxRecDepth 20000 in
theorem cb_E_factor (g : GX) (dd : Nat) (fe : Nat → Int32 → St → Option (Bool × St)) (He : ∀ (c0 : Nat) (hc0 : tg BX c0 9) (p1 : Int32) (σ : St) (q : Bool × St), fe c0 p1 σ = some q → ∀ l : Launch, CT BX l y_E_either (v_E_either :: lwG) (6 + dd) [.ref (g.2.1 c0), .int p1] g σ (QZ BX g q)) (ff : Nat → Int32 → St → Option (Bool × St)) (Hf : ∀ (c0 : Nat) (hc0 : tg BX c0 9) (p1 : Int32) (σ : St) (q : Bool × St), ff c0 p1 σ = some q → ∀ l : Launch, CT BX l y_E_factor (v_E_factor :: lwG) (6 + dd) [.ref (g.2.1 c0), .int p1] g σ (QZ BX g q)) (c0 : Nat) (hc0 : tg BX c0 9) (p1 : Int32) (σ : St) (q : Bool × St) (h : f_E_factor fe ff c0 p1 σ = some q) (l : Launch) : CT BX l y_E_factor (v_E_factor :: lwG) (6 + dd + 1) [.ref (g.2.1 c0), .int p1] g σ (QZ BX g q) := by
  refine mkC (cc := b_E_factor) (maxL := 2) (ret := (some .boolean)) rfl (by decide) rfl (Nat.le_of_ble_eq_true rfl) ?_
  intro p e s m args below meth c A ls C hl hw
  obtain ⟨hx, hb, hr, hml, hown, hts, hK, hE, hA, hlk⟩ := id C
  replace hl : lv_has ls 2 [(0, .ref (g.2.1 c0)), (1, .int p1)] := hl
  obtain ⟨H, hH⟩ : ∃ z, z = s.heap := ⟨_, rfl⟩
  rw [← hH] at hw ⊢
  obtain ⟨locs, hlo⟩ : ∃ z : List Loc, z = [] := ⟨_, rfl⟩
  rw [← hlo] at hw ⊢
  unfold f_E_factor at h
  refine lv_aload_n hx hb d_E_factor_0 rfl (lv_at hl 0 rfl) ?_
  refine bnd h (fun q1 k2 h => ?_)
  refine clI0 (v := q1) C hw (invV (As := []) C hw (c_E_sign g c0 hc0 σ q1 k2 l) rfl wc_E_40 nd_E_sign ⟨by simp only [rmL]; omega, by simp only [rmL]; omega⟩ (rc_E C hw hc0) rfl hl.1 rfl (Nat.le_of_ble_eq_true rfl) d_E_factor_1 ⟨Nat.le_refl _, Nat.le_refl _⟩) (fun H locs hw => ?_)
  refine lv_bipush (v := 33) hx hb d_E_factor_4 (by decide) ?_
  refine lv_icmp_eq (tgt := 23) hx hb d_E_factor_6 (by decide) (fun b3 => ?_) (fun b3 => ?_)
  · replace h := ifp b3 h
    refine lv_iload_n hx hb d_E_factor_23 rfl (lv_at hl 1 rfl) ?_
    refine lv_iconst (v := 4) hx hb d_E_factor_24 (by decide) ?_
    refine lv_icmp_lt (tgt := 30) hx hb d_E_factor_25 (by decide) (fun b4 => ?_) (fun b4 => ?_)
    · replace h := ifp b4 h
      refine lv_aload_n hx hb d_E_factor_30 rfl (lv_at hl 0 rfl) ?_
      refine lv_bipush (v := 40) hx hb d_E_factor_31 (by decide) ?_
      refine bnd h (fun q5 k6 h => ?_)
      refine clZ C hw (invV (As := [.int 40]) C hw (c_E_skips g c0 hc0 40 σ q5 k6 l) rfl wc_E_36 nd_E_skips ⟨by simp only [rmL]; omega, by simp only [rmL]; omega⟩ (rc_E C hw hc0) rfl hl.1 rfl (Nat.le_of_ble_eq_true rfl) d_E_factor_33 ⟨Nat.le_refl _, Nat.le_refl _⟩) (fun H locs hw => ?_)
      refine ifB (tgt := 64) C d_E_factor_36 (by decide) (fun b7 => ?_) (fun b7 => ?_)
      · replace h := ifp b7 h
        refine lv_aload_n hx hb d_E_factor_64 rfl (lv_at hl 0 rfl) ?_
        refine lv_dup hx hb d_E_factor_65 rfl ?_
        refine fg_E_19 C hw hc0 d_E_factor_66 ?_
        refine lv_iconst (v := 1) hx hb d_E_factor_69 (by decide) ?_
        refine lv_iadd hx hb d_E_factor_70 ?_
        refine ste h (fun s9 e16 h => ?_)
        refine fp_E_19 C hw hc0 d_E_factor_71 (fun H locs hw => ?_)
        replace hw := HWe hw e16
        refine lv_aload_n hx hb d_E_factor_74 rfl (lv_at hl 0 rfl) ?_
        refine lv_iload_n hx hb d_E_factor_75 rfl (lv_at hl 1 rfl) ?_
        refine lv_iconst (v := 1) hx hb d_E_factor_76 (by decide) ?_
        refine lv_iadd hx hb d_E_factor_77 ?_
        refine bnd h (fun q10 k11 h => ?_)
        refine clZ C hw (invV (As := [.int (p1 + 1)]) C hw (Hf c0 hc0 (p1 + 1) s9 q10 k11 l) rfl wc_E_87 nd_E_factor ⟨by simp only [rmL]; omega, by simp only [rmL]; omega⟩ (rc_E C hw hc0) rfl hl.1 rfl (Nat.le_of_ble_eq_true rfl) d_E_factor_78 ⟨Nat.le_refl _, Nat.le_refl _⟩) (fun H locs hw => ?_)
        refine ifnB (tgt := 86) C d_E_factor_81 (by decide) (fun b12 => ?_) (fun b12 => ?_)
        · replace h := ifn b12 h
          refine lv_aload_n hx hb d_E_factor_86 rfl (lv_at hl 0 rfl) ?_
          refine gde h (fun g13 h => ?_)
          refine fg_E_25 C hw hc0 d_E_factor_87 ?_
          refine lv_iconst (v := (-1)) hx hb d_E_factor_90 (by decide) ?_
          refine bnd h (fun q14 k15 h => ?_)
          refine clV C hw (invV (As := [.int (-1)]) C hw (c_R_step g (vH q10.2 c0) (tgb_t g13) (-1) q10.2 q14 k15 l) rfl wc_E_90 nd_R_step ⟨by simp only [rmL]; omega, by simp only [rmL]; omega⟩ (rc_R C hw (tgb_t g13)) rfl hl.1 rfl (Nat.le_of_ble_eq_true rfl) d_E_factor_91 ⟨Nat.le_refl _, Nat.le_refl _⟩) (fun H locs hw => ?_)
          refine lv_iconst (v := 1) hx hb d_E_factor_94 (by decide) ?_
          exact retZ (b := true) C hw rfl rfl (Option.some.inj h) d_E_factor_95
        · replace h := ifp b12 h
          refine lv_iconst (v := 0) hx hb d_E_factor_84 (by decide) ?_
          exact retZ (b := false) C hw rfl rfl (Option.some.inj h) d_E_factor_85
      · replace h := ifn b7 h
        refine lv_aload_n hx hb d_E_factor_39 rfl (lv_at hl 0 rfl) ?_
        refine lv_iload_n hx hb d_E_factor_40 rfl (lv_at hl 1 rfl) ?_
        refine lv_iconst (v := 1) hx hb d_E_factor_41 (by decide) ?_
        refine lv_iadd hx hb d_E_factor_42 ?_
        refine bnd h (fun q17 k18 h => ?_)
        refine clZ C hw (invV (As := [.int (p1 + 1)]) C hw (He c0 hc0 (p1 + 1) q5.2 q17 k18 l) rfl wc_E_53 nd_E_either ⟨by simp only [rmL]; omega, by simp only [rmL]; omega⟩ (rc_E C hw hc0) rfl hl.1 rfl (Nat.le_of_ble_eq_true rfl) d_E_factor_43 ⟨Nat.le_refl _, Nat.le_refl _⟩) (fun H locs hw => ?_)
        refine ifB (tgt := 62) C d_E_factor_46 (by decide) (fun b19 => ?_) (fun b19 => ?_)
        · replace h := ifp b19 h
          refine lv_iconst (v := 0) hx hb d_E_factor_62 (by decide) ?_
          exact retZ (b := false) C hw rfl rfl (Option.some.inj h) d_E_factor_63
        · replace h := ifn b19 h
          refine lv_aload_n hx hb d_E_factor_49 rfl (lv_at hl 0 rfl) ?_
          refine lv_bipush (v := 41) hx hb d_E_factor_50 (by decide) ?_
          refine bnd h (fun q20 k21 h => ?_)
          refine clZ C hw (invV (As := [.int 41]) C hw (c_E_skips g c0 hc0 41 q17.2 q20 k21 l) rfl wc_E_36 nd_E_skips ⟨by simp only [rmL]; omega, by simp only [rmL]; omega⟩ (rc_E C hw hc0) rfl hl.1 rfl (Nat.le_of_ble_eq_true rfl) d_E_factor_52 ⟨Nat.le_refl _, Nat.le_refl _⟩) (fun H locs hw => ?_)
          refine ifB (tgt := 62) C d_E_factor_55 (by decide) (fun b22 => ?_) (fun b22 => ?_)
          · replace h := ifp b22 h
            refine lv_iconst (v := 0) hx hb d_E_factor_62 (by decide) ?_
            exact retZ (b := false) C hw rfl rfl (Option.some.inj h) d_E_factor_63
          · replace h := ifn b22 h
            refine lv_iconst (v := 1) hx hb d_E_factor_58 (by decide) ?_
            refine lv_goto (tgt := 63) hx hb d_E_factor_59 (by decide) ?_
            exact retZ (b := true) C hw rfl rfl (Option.some.inj h) d_E_factor_63
    · replace h := ifn b4 h
      refine lv_iconst (v := 0) hx hb d_E_factor_28 (by decide) ?_
      exact retZ (b := false) C hw rfl rfl (Option.some.inj h) d_E_factor_29
  · replace h := ifn b3 h
    refine lv_aload_n hx hb d_E_factor_9 rfl (lv_at hl 0 rfl) ?_
    refine bnd h (fun q23 k24 h => ?_)
    refine clI0 (v := q23) C hw (invV (As := []) C hw (c_E_sign g c0 hc0 σ q23 k24 l) rfl wc_E_40 nd_E_sign ⟨by simp only [rmL]; omega, by simp only [rmL]; omega⟩ (rc_E C hw hc0) rfl hl.1 rfl (Nat.le_of_ble_eq_true rfl) d_E_factor_10 ⟨Nat.le_refl _, Nat.le_refl _⟩) (fun H locs hw => ?_)
    refine lv_bipush (v := 40) hx hb d_E_factor_13 (by decide) ?_
    refine lv_icmp_eq (tgt := 23) hx hb d_E_factor_15 (by decide) (fun b25 => ?_) (fun b25 => ?_)
    · replace h := ifp b25 h
      refine lv_iload_n hx hb d_E_factor_23 rfl (lv_at hl 1 rfl) ?_
      refine lv_iconst (v := 4) hx hb d_E_factor_24 (by decide) ?_
      refine lv_icmp_lt (tgt := 30) hx hb d_E_factor_25 (by decide) (fun b26 => ?_) (fun b26 => ?_)
      · replace h := ifp b26 h
        refine lv_aload_n hx hb d_E_factor_30 rfl (lv_at hl 0 rfl) ?_
        refine lv_bipush (v := 40) hx hb d_E_factor_31 (by decide) ?_
        refine bnd h (fun q27 k28 h => ?_)
        refine clZ C hw (invV (As := [.int 40]) C hw (c_E_skips g c0 hc0 40 σ q27 k28 l) rfl wc_E_36 nd_E_skips ⟨by simp only [rmL]; omega, by simp only [rmL]; omega⟩ (rc_E C hw hc0) rfl hl.1 rfl (Nat.le_of_ble_eq_true rfl) d_E_factor_33 ⟨Nat.le_refl _, Nat.le_refl _⟩) (fun H locs hw => ?_)
        refine ifB (tgt := 64) C d_E_factor_36 (by decide) (fun b29 => ?_) (fun b29 => ?_)
        · replace h := ifp b29 h
          refine lv_aload_n hx hb d_E_factor_64 rfl (lv_at hl 0 rfl) ?_
          refine lv_dup hx hb d_E_factor_65 rfl ?_
          refine fg_E_19 C hw hc0 d_E_factor_66 ?_
          refine lv_iconst (v := 1) hx hb d_E_factor_69 (by decide) ?_
          refine lv_iadd hx hb d_E_factor_70 ?_
          refine ste h (fun s31 e38 h => ?_)
          refine fp_E_19 C hw hc0 d_E_factor_71 (fun H locs hw => ?_)
          replace hw := HWe hw e38
          refine lv_aload_n hx hb d_E_factor_74 rfl (lv_at hl 0 rfl) ?_
          refine lv_iload_n hx hb d_E_factor_75 rfl (lv_at hl 1 rfl) ?_
          refine lv_iconst (v := 1) hx hb d_E_factor_76 (by decide) ?_
          refine lv_iadd hx hb d_E_factor_77 ?_
          refine bnd h (fun q32 k33 h => ?_)
          refine clZ C hw (invV (As := [.int (p1 + 1)]) C hw (Hf c0 hc0 (p1 + 1) s31 q32 k33 l) rfl wc_E_87 nd_E_factor ⟨by simp only [rmL]; omega, by simp only [rmL]; omega⟩ (rc_E C hw hc0) rfl hl.1 rfl (Nat.le_of_ble_eq_true rfl) d_E_factor_78 ⟨Nat.le_refl _, Nat.le_refl _⟩) (fun H locs hw => ?_)
          refine ifnB (tgt := 86) C d_E_factor_81 (by decide) (fun b34 => ?_) (fun b34 => ?_)
          · replace h := ifn b34 h
            refine lv_aload_n hx hb d_E_factor_86 rfl (lv_at hl 0 rfl) ?_
            refine gde h (fun g35 h => ?_)
            refine fg_E_25 C hw hc0 d_E_factor_87 ?_
            refine lv_iconst (v := (-1)) hx hb d_E_factor_90 (by decide) ?_
            refine bnd h (fun q36 k37 h => ?_)
            refine clV C hw (invV (As := [.int (-1)]) C hw (c_R_step g (vH q32.2 c0) (tgb_t g35) (-1) q32.2 q36 k37 l) rfl wc_E_90 nd_R_step ⟨by simp only [rmL]; omega, by simp only [rmL]; omega⟩ (rc_R C hw (tgb_t g35)) rfl hl.1 rfl (Nat.le_of_ble_eq_true rfl) d_E_factor_91 ⟨Nat.le_refl _, Nat.le_refl _⟩) (fun H locs hw => ?_)
            refine lv_iconst (v := 1) hx hb d_E_factor_94 (by decide) ?_
            exact retZ (b := true) C hw rfl rfl (Option.some.inj h) d_E_factor_95
          · replace h := ifp b34 h
            refine lv_iconst (v := 0) hx hb d_E_factor_84 (by decide) ?_
            exact retZ (b := false) C hw rfl rfl (Option.some.inj h) d_E_factor_85
        · replace h := ifn b29 h
          refine lv_aload_n hx hb d_E_factor_39 rfl (lv_at hl 0 rfl) ?_
          refine lv_iload_n hx hb d_E_factor_40 rfl (lv_at hl 1 rfl) ?_
          refine lv_iconst (v := 1) hx hb d_E_factor_41 (by decide) ?_
          refine lv_iadd hx hb d_E_factor_42 ?_
          refine bnd h (fun q39 k40 h => ?_)
          refine clZ C hw (invV (As := [.int (p1 + 1)]) C hw (He c0 hc0 (p1 + 1) q27.2 q39 k40 l) rfl wc_E_53 nd_E_either ⟨by simp only [rmL]; omega, by simp only [rmL]; omega⟩ (rc_E C hw hc0) rfl hl.1 rfl (Nat.le_of_ble_eq_true rfl) d_E_factor_43 ⟨Nat.le_refl _, Nat.le_refl _⟩) (fun H locs hw => ?_)
          refine ifB (tgt := 62) C d_E_factor_46 (by decide) (fun b41 => ?_) (fun b41 => ?_)
          · replace h := ifp b41 h
            refine lv_iconst (v := 0) hx hb d_E_factor_62 (by decide) ?_
            exact retZ (b := false) C hw rfl rfl (Option.some.inj h) d_E_factor_63
          · replace h := ifn b41 h
            refine lv_aload_n hx hb d_E_factor_49 rfl (lv_at hl 0 rfl) ?_
            refine lv_bipush (v := 41) hx hb d_E_factor_50 (by decide) ?_
            refine bnd h (fun q42 k43 h => ?_)
            refine clZ C hw (invV (As := [.int 41]) C hw (c_E_skips g c0 hc0 41 q39.2 q42 k43 l) rfl wc_E_36 nd_E_skips ⟨by simp only [rmL]; omega, by simp only [rmL]; omega⟩ (rc_E C hw hc0) rfl hl.1 rfl (Nat.le_of_ble_eq_true rfl) d_E_factor_52 ⟨Nat.le_refl _, Nat.le_refl _⟩) (fun H locs hw => ?_)
            refine ifB (tgt := 62) C d_E_factor_55 (by decide) (fun b44 => ?_) (fun b44 => ?_)
            · replace h := ifp b44 h
              refine lv_iconst (v := 0) hx hb d_E_factor_62 (by decide) ?_
              exact retZ (b := false) C hw rfl rfl (Option.some.inj h) d_E_factor_63
            · replace h := ifn b44 h
              refine lv_iconst (v := 1) hx hb d_E_factor_58 (by decide) ?_
              refine lv_goto (tgt := 63) hx hb d_E_factor_59 (by decide) ?_
              exact retZ (b := true) C hw rfl rfl (Option.some.inj h) d_E_factor_63
      · replace h := ifn b26 h
        refine lv_iconst (v := 0) hx hb d_E_factor_28 (by decide) ?_
        exact retZ (b := false) C hw rfl rfl (Option.some.inj h) d_E_factor_29
    · replace h := ifn b25 h
      refine lv_aload_n hx hb d_E_factor_18 rfl (lv_at hl 0 rfl) ?_
      refine bnd h (fun q45 k46 h => ?_)
      refine clZ C hw (invV (As := []) C hw (c_E_test g c0 hc0 σ q45 k46 l) rfl wc_E_94 nd_E_test ⟨by simp only [rmL]; omega, by simp only [rmL]; omega⟩ (rc_E C hw hc0) rfl hl.1 rfl (Nat.le_of_ble_eq_true rfl) d_E_factor_19 ⟨Nat.le_refl _, Nat.le_refl _⟩) (fun H locs hw => ?_)
      exact retZ (b := q45.1) C hw rfl rfl (Option.some.inj h) d_E_factor_22
def F_EF : Nat → (Nat → Int32 → St → Option (Bool × St)) × (Nat → Int32 → St → Option (Bool × St))
  | 0 => (fun _ _ _ => none, fun _ _ _ => none)
  | n + 1 => (f_E_either (F_EF n).2, f_E_factor (F_EF n).1 (F_EF n).2)
theorem cF_EF (g : GX) : ∀ dd : Nat, (∀ (c0 : Nat) (hc0 : tg BX c0 9) (p1 : Int32) (σ : St) (q : Bool × St), (F_EF dd).1 c0 p1 σ = some q → ∀ l : Launch, CT BX l y_E_either (v_E_either :: lwG) (6 + dd) [.ref (g.2.1 c0), .int p1] g σ (QZ BX g q)) ∧ (∀ (c0 : Nat) (hc0 : tg BX c0 9) (p1 : Int32) (σ : St) (q : Bool × St), (F_EF dd).2 c0 p1 σ = some q → ∀ l : Launch, CT BX l y_E_factor (v_E_factor :: lwG) (6 + dd) [.ref (g.2.1 c0), .int p1] g σ (QZ BX g q)) := by
  intro dd
  induction dd with
  | zero => exact ⟨fun c0 hc0 p1 σ q h l => (by cases h), fun c0 hc0 p1 σ q h l => (by cases h)⟩
  | succ n ih => exact ⟨fun c0 hc0 p1 σ q h l => cb_E_either g n (F_EF n).2 ih.2 c0 hc0 p1 σ q h l, fun c0 hc0 p1 σ q h l => cb_E_factor g n (F_EF n).1 ih.1 (F_EF n).2 ih.2 c0 hc0 p1 σ q h l⟩
def f_E_clause (c0 : Nat) (σ : St) : Option (Bool × St) := ((f_E_sign c0 σ).bind fun q1 => (if q1 = 102 then ((f_E_words c0 3 σ).bind fun q4 => (if q4.1 = false then some (false, q4.2) else ((f_E_begins c0 2 q4.2).bind fun q7 => (if q7.1 = false then some (false, q7.2) else ((f_E_ends c0 q7.2).bind fun q10 => (if q10.1 = false then some (false, q10.2) else some (true, q10.2))))))) else (if q1 = 108 then ((f_E_words c0 2 σ).bind fun q14 => (if q14.1 = false then some (false, q14.2) else ((f_E_begins c0 1 q14.2).bind fun q17 => (if q17.1 = false then some (false, q17.2) else ((f_E_ends c0 q17.2).bind fun q20 => (if q20.1 = false then some (false, q20.2) else some (true, q20.2))))))) else (if q1 = 112 then ((f_E_words c0 4 σ).bind fun q24 => (if q24.1 = false then some (false, q24.2) else ((f_E_begins c0 3 q24.2).bind fun q27 => (if q27.1 = false then some (false, q27.2) else ((f_E_skips c0 32 q27.2).bind fun q30 => (if q30.1 = false then some (false, q30.2) else (((F_EF 12).1 c0 0 q30.2).bind fun q33 => (if q33.1 = false then some (false, q33.2) else ((f_E_ends c0 q33.2).bind fun q36 => (if q36.1 = false then some (false, q36.2) else some (true, q36.2))))))))))) else (if q1 = 119 then ((f_E_words c0 1 σ).bind fun q40 => (if q40.1 = false then some (false, q40.2) else ((f_E_begins c0 0 q40.2).bind fun q43 => (if q43.1 = false then some (false, q43.2) else ((f_E_skips c0 32 q43.2).bind fun q46 => (if q46.1 = false then some (false, q46.2) else (((F_EF 12).1 c0 0 q46.2).bind fun q49 => (if q49.1 = false then some (false, q49.2) else ((f_E_ends c0 q49.2).bind fun q52 => (if q52.1 = false then some (false, q52.2) else some (true, q52.2))))))))))) else some (false, σ))))))
set_option maxHeartbeats 400000 in
set_option maxRecDepth 20000 in
theorem c_E_clause (g : GX) (c0 : Nat) (hc0 : tg BX c0 9) (σ : St) (q : Bool × St) (h : f_E_clause c0 σ = some q) (l : Launch) : CT BX l y_E_clause (v_E_clause :: lwG) 19 [.ref (g.2.1 c0)] g σ (QZ BX g q) := by
  refine mkC (cc := b_E_clause) (maxL := 1) (ret := (some .boolean)) rfl (by decide) rfl (Nat.le_of_ble_eq_true rfl) ?_
  intro p e s m args below meth c A ls C hl hw
  obtain ⟨hx, hb, hr, hml, hown, hts, hK, hE, hA, hlk⟩ := id C
  replace hl : lv_has ls 1 [(0, .ref (g.2.1 c0))] := hl
  obtain ⟨H, hH⟩ : ∃ z, z = s.heap := ⟨_, rfl⟩
  rw [← hH] at hw ⊢
  obtain ⟨locs, hlo⟩ : ∃ z : List Loc, z = [] := ⟨_, rfl⟩
  rw [← hlo] at hw ⊢
  unfold f_E_clause at h
  refine lv_aload_n hx hb d_E_clause_0 rfl (lv_at hl 0 rfl) ?_
  refine bnd h (fun q1 k2 h => ?_)
  refine clI0 (v := q1) C hw (invV (As := []) C hw (c_E_sign g c0 hc0 σ q1 k2 l) rfl wc_E_40 nd_E_sign ⟨by decide, by decide⟩ (rc_E C hw hc0) rfl hl.1 rfl (Nat.le_of_ble_eq_true rfl) d_E_clause_1 ⟨Nat.le_refl _, Nat.le_refl _⟩) (fun H locs hw => ?_)
  by_cases b3 : q1 = 102
  · replace h := ifp b3 h
    refine lv_lookup (off := 121) (tgt := 125) hx hb d_E_clause_4 (by decide) (by rw [b3]; decide) (by decide) ?_
    refine lv_aload_n hx hb d_E_clause_125 rfl (lv_at hl 0 rfl) ?_
    refine va_ldcS hx hb hown (rf_4 (hE rfl)) d_E_clause_126 ?_
    refine bnd h (fun q4 k5 h => ?_)
    refine clZ C hw (invV (As := [.ref (g.2.1 (1000 + 3))]) C hw (c_E_words g c0 hc0 3 (show 3 < 5 by decide) σ q4 k5 l) rfl wc_E_46 nd_E_words ⟨by decide, by decide⟩ (rc_E C hw hc0) rfl hl.1 rfl (Nat.le_of_ble_eq_true rfl) d_E_clause_128 ⟨Nat.le_refl _, Nat.le_refl _⟩) (fun H locs hw => ?_)
    refine ifB (tgt := 153) C d_E_clause_131 (by decide) (fun b6 => ?_) (fun b6 => ?_)
    · replace h := ifp b6 h
      refine lv_iconst (v := 0) hx hb d_E_clause_153 (by decide) ?_
      exact retZ (b := false) C hw rfl rfl (Option.some.inj h) d_E_clause_154
    · replace h := ifn b6 h
      refine lv_aload_n hx hb d_E_clause_134 rfl (lv_at hl 0 rfl) ?_
      refine lv_iconst (v := 2) hx hb d_E_clause_135 (by decide) ?_
      refine bnd h (fun q7 k8 h => ?_)
      refine clZ C hw (invV (As := [.int 2]) C hw (c_E_begins g c0 hc0 2 q4.2 q7 k8 l) rfl wc_E_50 nd_E_begins ⟨by decide, by decide⟩ (rc_E C hw hc0) rfl hl.1 rfl (Nat.le_of_ble_eq_true rfl) d_E_clause_136 ⟨Nat.le_refl _, Nat.le_refl _⟩) (fun H locs hw => ?_)
      refine ifB (tgt := 153) C d_E_clause_139 (by decide) (fun b9 => ?_) (fun b9 => ?_)
      · replace h := ifp b9 h
        refine lv_iconst (v := 0) hx hb d_E_clause_153 (by decide) ?_
        exact retZ (b := false) C hw rfl rfl (Option.some.inj h) d_E_clause_154
      · replace h := ifn b9 h
        refine lv_aload_n hx hb d_E_clause_142 rfl (lv_at hl 0 rfl) ?_
        refine bnd h (fun q10 k11 h => ?_)
        refine clZ C hw (invV (As := []) C hw (c_E_ends g c0 hc0 q7.2 q10 k11 l) rfl wc_E_56 nd_E_ends ⟨by decide, by decide⟩ (rc_E C hw hc0) rfl hl.1 rfl (Nat.le_of_ble_eq_true rfl) d_E_clause_143 ⟨Nat.le_refl _, Nat.le_refl _⟩) (fun H locs hw => ?_)
        refine ifB (tgt := 153) C d_E_clause_146 (by decide) (fun b12 => ?_) (fun b12 => ?_)
        · replace h := ifp b12 h
          refine lv_iconst (v := 0) hx hb d_E_clause_153 (by decide) ?_
          exact retZ (b := false) C hw rfl rfl (Option.some.inj h) d_E_clause_154
        · replace h := ifn b12 h
          refine lv_iconst (v := 1) hx hb d_E_clause_149 (by decide) ?_
          refine lv_goto (tgt := 154) hx hb d_E_clause_150 (by decide) ?_
          exact retZ (b := true) C hw rfl rfl (Option.some.inj h) d_E_clause_154
  · replace h := ifn b3 h
    by_cases b13 : q1 = 108
    · replace h := ifp b13 h
      refine lv_lookup (off := 91) (tgt := 95) hx hb d_E_clause_4 (by decide) (by rw [b13]; decide) (by decide) ?_
      refine lv_aload_n hx hb d_E_clause_95 rfl (lv_at hl 0 rfl) ?_
      refine va_ldcS hx hb hown (rf_3 (hE rfl)) d_E_clause_96 ?_
      refine bnd h (fun q14 k15 h => ?_)
      refine clZ C hw (invV (As := [.ref (g.2.1 (1000 + 2))]) C hw (c_E_words g c0 hc0 2 (show 2 < 5 by decide) σ q14 k15 l) rfl wc_E_46 nd_E_words ⟨by decide, by decide⟩ (rc_E C hw hc0) rfl hl.1 rfl (Nat.le_of_ble_eq_true rfl) d_E_clause_98 ⟨Nat.le_refl _, Nat.le_refl _⟩) (fun H locs hw => ?_)
      refine ifB (tgt := 123) C d_E_clause_101 (by decide) (fun b16 => ?_) (fun b16 => ?_)
      · replace h := ifp b16 h
        refine lv_iconst (v := 0) hx hb d_E_clause_123 (by decide) ?_
        exact retZ (b := false) C hw rfl rfl (Option.some.inj h) d_E_clause_124
      · replace h := ifn b16 h
        refine lv_aload_n hx hb d_E_clause_104 rfl (lv_at hl 0 rfl) ?_
        refine lv_iconst (v := 1) hx hb d_E_clause_105 (by decide) ?_
        refine bnd h (fun q17 k18 h => ?_)
        refine clZ C hw (invV (As := [.int 1]) C hw (c_E_begins g c0 hc0 1 q14.2 q17 k18 l) rfl wc_E_50 nd_E_begins ⟨by decide, by decide⟩ (rc_E C hw hc0) rfl hl.1 rfl (Nat.le_of_ble_eq_true rfl) d_E_clause_106 ⟨Nat.le_refl _, Nat.le_refl _⟩) (fun H locs hw => ?_)
        refine ifB (tgt := 123) C d_E_clause_109 (by decide) (fun b19 => ?_) (fun b19 => ?_)
        · replace h := ifp b19 h
          refine lv_iconst (v := 0) hx hb d_E_clause_123 (by decide) ?_
          exact retZ (b := false) C hw rfl rfl (Option.some.inj h) d_E_clause_124
        · replace h := ifn b19 h
          refine lv_aload_n hx hb d_E_clause_112 rfl (lv_at hl 0 rfl) ?_
          refine bnd h (fun q20 k21 h => ?_)
          refine clZ C hw (invV (As := []) C hw (c_E_ends g c0 hc0 q17.2 q20 k21 l) rfl wc_E_56 nd_E_ends ⟨by decide, by decide⟩ (rc_E C hw hc0) rfl hl.1 rfl (Nat.le_of_ble_eq_true rfl) d_E_clause_113 ⟨Nat.le_refl _, Nat.le_refl _⟩) (fun H locs hw => ?_)
          refine ifB (tgt := 123) C d_E_clause_116 (by decide) (fun b22 => ?_) (fun b22 => ?_)
          · replace h := ifp b22 h
            refine lv_iconst (v := 0) hx hb d_E_clause_123 (by decide) ?_
            exact retZ (b := false) C hw rfl rfl (Option.some.inj h) d_E_clause_124
          · replace h := ifn b22 h
            refine lv_iconst (v := 1) hx hb d_E_clause_119 (by decide) ?_
            refine lv_goto (tgt := 124) hx hb d_E_clause_120 (by decide) ?_
            exact retZ (b := true) C hw rfl rfl (Option.some.inj h) d_E_clause_124
    · replace h := ifn b13 h
      by_cases b23 : q1 = 112
      · replace h := ifp b23 h
        refine lv_lookup (off := 151) (tgt := 155) hx hb d_E_clause_4 (by decide) (by rw [b23]; decide) (by decide) ?_
        refine lv_aload_n hx hb d_E_clause_155 rfl (lv_at hl 0 rfl) ?_
        refine va_ldcS hx hb hown (rf_5 (hE rfl)) d_E_clause_156 ?_
        refine bnd h (fun q24 k25 h => ?_)
        refine clZ C hw (invV (As := [.ref (g.2.1 (1000 + 4))]) C hw (c_E_words g c0 hc0 4 (show 4 < 5 by decide) σ q24 k25 l) rfl wc_E_46 nd_E_words ⟨by decide, by decide⟩ (rc_E C hw hc0) rfl hl.1 rfl (Nat.le_of_ble_eq_true rfl) d_E_clause_158 ⟨Nat.le_refl _, Nat.le_refl _⟩) (fun H locs hw => ?_)
        refine ifB (tgt := 200) C d_E_clause_161 (by decide) (fun b26 => ?_) (fun b26 => ?_)
        · replace h := ifp b26 h
          refine lv_iconst (v := 0) hx hb d_E_clause_200 (by decide) ?_
          exact retZ (b := false) C hw rfl rfl (Option.some.inj h) d_E_clause_201
        · replace h := ifn b26 h
          refine lv_aload_n hx hb d_E_clause_164 rfl (lv_at hl 0 rfl) ?_
          refine lv_iconst (v := 3) hx hb d_E_clause_165 (by decide) ?_
          refine bnd h (fun q27 k28 h => ?_)
          refine clZ C hw (invV (As := [.int 3]) C hw (c_E_begins g c0 hc0 3 q24.2 q27 k28 l) rfl wc_E_50 nd_E_begins ⟨by decide, by decide⟩ (rc_E C hw hc0) rfl hl.1 rfl (Nat.le_of_ble_eq_true rfl) d_E_clause_166 ⟨Nat.le_refl _, Nat.le_refl _⟩) (fun H locs hw => ?_)
          refine ifB (tgt := 200) C d_E_clause_169 (by decide) (fun b29 => ?_) (fun b29 => ?_)
          · replace h := ifp b29 h
            refine lv_iconst (v := 0) hx hb d_E_clause_200 (by decide) ?_
            exact retZ (b := false) C hw rfl rfl (Option.some.inj h) d_E_clause_201
          · replace h := ifn b29 h
            refine lv_aload_n hx hb d_E_clause_172 rfl (lv_at hl 0 rfl) ?_
            refine lv_bipush (v := 32) hx hb d_E_clause_173 (by decide) ?_
            refine bnd h (fun q30 k31 h => ?_)
            refine clZ C hw (invV (As := [.int 32]) C hw (c_E_skips g c0 hc0 32 q27.2 q30 k31 l) rfl wc_E_36 nd_E_skips ⟨by decide, by decide⟩ (rc_E C hw hc0) rfl hl.1 rfl (Nat.le_of_ble_eq_true rfl) d_E_clause_175 ⟨Nat.le_refl _, Nat.le_refl _⟩) (fun H locs hw => ?_)
            refine ifB (tgt := 200) C d_E_clause_178 (by decide) (fun b32 => ?_) (fun b32 => ?_)
            · replace h := ifp b32 h
              refine lv_iconst (v := 0) hx hb d_E_clause_200 (by decide) ?_
              exact retZ (b := false) C hw rfl rfl (Option.some.inj h) d_E_clause_201
            · replace h := ifn b32 h
              refine lv_aload_n hx hb d_E_clause_181 rfl (lv_at hl 0 rfl) ?_
              refine lv_iconst (v := 0) hx hb d_E_clause_182 (by decide) ?_
              refine bnd h (fun q33 k34 h => ?_)
              refine clZ C hw (invV (As := [.int 0]) C hw ((fun g => (cF_EF g 12).1) g c0 hc0 0 q30.2 q33 k34 l) rfl wc_E_53 nd_E_either ⟨by decide, by decide⟩ (rc_E C hw hc0) rfl hl.1 rfl (Nat.le_of_ble_eq_true rfl) d_E_clause_183 ⟨Nat.le_refl _, Nat.le_refl _⟩) (fun H locs hw => ?_)
              refine ifB (tgt := 200) C d_E_clause_186 (by decide) (fun b35 => ?_) (fun b35 => ?_)
              · replace h := ifp b35 h
                refine lv_iconst (v := 0) hx hb d_E_clause_200 (by decide) ?_
                exact retZ (b := false) C hw rfl rfl (Option.some.inj h) d_E_clause_201
              · replace h := ifn b35 h
                refine lv_aload_n hx hb d_E_clause_189 rfl (lv_at hl 0 rfl) ?_
                refine bnd h (fun q36 k37 h => ?_)
                refine clZ C hw (invV (As := []) C hw (c_E_ends g c0 hc0 q33.2 q36 k37 l) rfl wc_E_56 nd_E_ends ⟨by decide, by decide⟩ (rc_E C hw hc0) rfl hl.1 rfl (Nat.le_of_ble_eq_true rfl) d_E_clause_190 ⟨Nat.le_refl _, Nat.le_refl _⟩) (fun H locs hw => ?_)
                refine ifB (tgt := 200) C d_E_clause_193 (by decide) (fun b38 => ?_) (fun b38 => ?_)
                · replace h := ifp b38 h
                  refine lv_iconst (v := 0) hx hb d_E_clause_200 (by decide) ?_
                  exact retZ (b := false) C hw rfl rfl (Option.some.inj h) d_E_clause_201
                · replace h := ifn b38 h
                  refine lv_iconst (v := 1) hx hb d_E_clause_196 (by decide) ?_
                  refine lv_goto (tgt := 201) hx hb d_E_clause_197 (by decide) ?_
                  exact retZ (b := true) C hw rfl rfl (Option.some.inj h) d_E_clause_201
      · replace h := ifn b23 h
        by_cases b39 : q1 = 119
        · replace h := ifp b39 h
          refine lv_lookup (off := 44) (tgt := 48) hx hb d_E_clause_4 (by decide) (by rw [b39]; decide) (by decide) ?_
          refine lv_aload_n hx hb d_E_clause_48 rfl (lv_at hl 0 rfl) ?_
          refine va_ldcS hx hb hown (rf_2 (hE rfl)) d_E_clause_49 ?_
          refine bnd h (fun q40 k41 h => ?_)
          refine clZ C hw (invV (As := [.ref (g.2.1 (1000 + 1))]) C hw (c_E_words g c0 hc0 1 (show 1 < 5 by decide) σ q40 k41 l) rfl wc_E_46 nd_E_words ⟨by decide, by decide⟩ (rc_E C hw hc0) rfl hl.1 rfl (Nat.le_of_ble_eq_true rfl) d_E_clause_51 ⟨Nat.le_refl _, Nat.le_refl _⟩) (fun H locs hw => ?_)
          refine ifB (tgt := 93) C d_E_clause_54 (by decide) (fun b42 => ?_) (fun b42 => ?_)
          · replace h := ifp b42 h
            refine lv_iconst (v := 0) hx hb d_E_clause_93 (by decide) ?_
            exact retZ (b := false) C hw rfl rfl (Option.some.inj h) d_E_clause_94
          · replace h := ifn b42 h
            refine lv_aload_n hx hb d_E_clause_57 rfl (lv_at hl 0 rfl) ?_
            refine lv_iconst (v := 0) hx hb d_E_clause_58 (by decide) ?_
            refine bnd h (fun q43 k44 h => ?_)
            refine clZ C hw (invV (As := [.int 0]) C hw (c_E_begins g c0 hc0 0 q40.2 q43 k44 l) rfl wc_E_50 nd_E_begins ⟨by decide, by decide⟩ (rc_E C hw hc0) rfl hl.1 rfl (Nat.le_of_ble_eq_true rfl) d_E_clause_59 ⟨Nat.le_refl _, Nat.le_refl _⟩) (fun H locs hw => ?_)
            refine ifB (tgt := 93) C d_E_clause_62 (by decide) (fun b45 => ?_) (fun b45 => ?_)
            · replace h := ifp b45 h
              refine lv_iconst (v := 0) hx hb d_E_clause_93 (by decide) ?_
              exact retZ (b := false) C hw rfl rfl (Option.some.inj h) d_E_clause_94
            · replace h := ifn b45 h
              refine lv_aload_n hx hb d_E_clause_65 rfl (lv_at hl 0 rfl) ?_
              refine lv_bipush (v := 32) hx hb d_E_clause_66 (by decide) ?_
              refine bnd h (fun q46 k47 h => ?_)
              refine clZ C hw (invV (As := [.int 32]) C hw (c_E_skips g c0 hc0 32 q43.2 q46 k47 l) rfl wc_E_36 nd_E_skips ⟨by decide, by decide⟩ (rc_E C hw hc0) rfl hl.1 rfl (Nat.le_of_ble_eq_true rfl) d_E_clause_68 ⟨Nat.le_refl _, Nat.le_refl _⟩) (fun H locs hw => ?_)
              refine ifB (tgt := 93) C d_E_clause_71 (by decide) (fun b48 => ?_) (fun b48 => ?_)
              · replace h := ifp b48 h
                refine lv_iconst (v := 0) hx hb d_E_clause_93 (by decide) ?_
                exact retZ (b := false) C hw rfl rfl (Option.some.inj h) d_E_clause_94
              · replace h := ifn b48 h
                refine lv_aload_n hx hb d_E_clause_74 rfl (lv_at hl 0 rfl) ?_
                refine lv_iconst (v := 0) hx hb d_E_clause_75 (by decide) ?_
                refine bnd h (fun q49 k50 h => ?_)
                refine clZ C hw (invV (As := [.int 0]) C hw ((fun g => (cF_EF g 12).1) g c0 hc0 0 q46.2 q49 k50 l) rfl wc_E_53 nd_E_either ⟨by decide, by decide⟩ (rc_E C hw hc0) rfl hl.1 rfl (Nat.le_of_ble_eq_true rfl) d_E_clause_76 ⟨Nat.le_refl _, Nat.le_refl _⟩) (fun H locs hw => ?_)
                refine ifB (tgt := 93) C d_E_clause_79 (by decide) (fun b51 => ?_) (fun b51 => ?_)
                · replace h := ifp b51 h
                  refine lv_iconst (v := 0) hx hb d_E_clause_93 (by decide) ?_
                  exact retZ (b := false) C hw rfl rfl (Option.some.inj h) d_E_clause_94
                · replace h := ifn b51 h
                  refine lv_aload_n hx hb d_E_clause_82 rfl (lv_at hl 0 rfl) ?_
                  refine bnd h (fun q52 k53 h => ?_)
                  refine clZ C hw (invV (As := []) C hw (c_E_ends g c0 hc0 q49.2 q52 k53 l) rfl wc_E_56 nd_E_ends ⟨by decide, by decide⟩ (rc_E C hw hc0) rfl hl.1 rfl (Nat.le_of_ble_eq_true rfl) d_E_clause_83 ⟨Nat.le_refl _, Nat.le_refl _⟩) (fun H locs hw => ?_)
                  refine ifB (tgt := 93) C d_E_clause_86 (by decide) (fun b54 => ?_) (fun b54 => ?_)
                  · replace h := ifp b54 h
                    refine lv_iconst (v := 0) hx hb d_E_clause_93 (by decide) ?_
                    exact retZ (b := false) C hw rfl rfl (Option.some.inj h) d_E_clause_94
                  · replace h := ifn b54 h
                    refine lv_iconst (v := 1) hx hb d_E_clause_89 (by decide) ?_
                    refine lv_goto (tgt := 94) hx hb d_E_clause_90 (by decide) ?_
                    exact retZ (b := true) C hw rfl rfl (Option.some.inj h) d_E_clause_94
        · replace h := ifn b39 h
          refine lv_lookup (off := 198) (tgt := 202) hx hb d_E_clause_4 (by decide) ((lv_osw b3 (by decide)).trans ((lv_osw b13 (by decide)).trans ((lv_osw b23 (by decide)).trans ((lv_osw b39 (by decide)).trans (rfl))))) (by decide) ?_
          refine lv_iconst (v := 0) hx hb d_E_clause_202 (by decide) ?_
          exact retZ (b := false) C hw rfl rfl (Option.some.inj h) d_E_clause_203
def f_E_understands_l19 : Nat → Nat → Int32 → St → Option ((St) ⊕ (Bool × St))
  | 0, _, _, _ => none
  | n + 1, c0, x2, σ => (if 10 < x2 then some (Sum.inl σ) else ((f_E_clause c0 σ).bind fun q10 => (if q10.1 = false then some (Sum.inr (false, q10.2)) else (if (vI q10.2 c0 2) = (vI q10.2 c0 1) then some (Sum.inr (true, q10.2)) else (if x2 = 10 then some (Sum.inr (false, q10.2)) else ((f_E_skips c0 59 q10.2).bind fun q15 => (if q15.1 = false then some (Sum.inr (false, q15.2)) else (f_E_understands_l19 n c0 (x2 + 1) q15.2))))))))
def f_E_understands (c0 : Nat) (c1 : Nat) (σ : St) : Option (Bool × St) := (st (sI σ c0 2 0) fun s2 => (st (sH s2 c0 c1) fun s4 => (if tgb BX (vH s4 c0) 1 = true then ((f_R_clear (vH s4 c0) s4).bind fun q6 => ((f_E_understands_l19 FU c0 1 q6).bind fun x_18 => Sum.elim (fun y20 => some (false, y20)) (fun z => some z) x_18)) else none)))
set_option maxHeartbeats 400000 in
set_option maxRecDepth 20000 in
theorem c_E_understands (g : GX) (c0 : Nat) (hc0 : tg BX c0 9) (c1 : Nat) (hc1 : tg BX c1 1) (σ : St) (q : Bool × St) (h : f_E_understands c0 c1 σ = some q) (l : Launch) : CT BX l y_E_understands (v_E_understands :: lwG) 20 [.ref (g.2.1 c0), .ref (g.2.1 c1)] g σ (QZ BX g q) := by
  refine mkC (cc := b_E_understands) (maxL := 3) (ret := (some .boolean)) rfl (by decide) rfl (Nat.le_of_ble_eq_true rfl) ?_
  intro p e s m args below meth c A ls C hl hw
  obtain ⟨hx, hb, hr, hml, hown, hts, hK, hE, hA, hlk⟩ := id C
  replace hl : lv_has ls 3 [(0, .ref (g.2.1 c0)), (1, .ref (g.2.1 c1))] := hl
  obtain ⟨H, hH⟩ : ∃ z, z = s.heap := ⟨_, rfl⟩
  rw [← hH] at hw ⊢
  obtain ⟨locs, hlo⟩ : ∃ z : List Loc, z = [] := ⟨_, rfl⟩
  rw [← hlo] at hw ⊢
  unfold f_E_understands at h
  refine lv_aload_n hx hb d_E_understands_0 rfl (lv_at hl 0 rfl) ?_
  refine lv_iconst (v := 0) hx hb d_E_understands_1 (by decide) ?_
  refine ste h (fun s2 e23 h => ?_)
  refine fp_E_19 C hw hc0 d_E_understands_2 (fun H locs hw => ?_)
  replace hw := HWe hw e23
  refine lv_aload_n hx hb d_E_understands_5 rfl (lv_at hl 0 rfl) ?_
  refine lv_aload_n hx hb d_E_understands_6 rfl (lv_at hl 1 rfl) ?_
  refine ste h (fun s4 e22 h => ?_)
  refine fp_E_25 C hw hc0 d_E_understands_7 (fun H locs hw => ?_)
  replace hw := HWe hw e22
  refine lv_aload_n hx hb d_E_understands_10 rfl (lv_at hl 0 rfl) ?_
  refine gde h (fun g5 h => ?_)
  refine fg_E_25 C hw hc0 d_E_understands_11 ?_
  refine bnd h (fun q6 k7 h => ?_)
  refine clV C hw (invV (As := []) C hw (c_R_clear g (vH s4 c0) (tgb_t g5) s4 q6 k7 l) rfl wc_E_29 nd_R_clear ⟨by decide, by decide⟩ (rc_R C hw (tgb_t g5)) rfl hl.1 rfl (Nat.le_of_ble_eq_true rfl) d_E_understands_14 ⟨Nat.le_refl _, Nat.le_refl _⟩) (fun H locs hw => ?_)
  refine lv_iconst (v := 1) hx hb d_E_understands_17 (by decide) ?_
  refine lv_istore_n (lv' := [(2, .int 1), (0, .ref (g.2.1 c0)), (1, .ref (g.2.1 c1))]) hx hb d_E_understands_18 rfl hl (by decide) rfl (fun ls hl => ?_)
  have L8 : ∀ (c0 : Nat) (hc0 : tg BX c0 9) (n : Nat) (x2 : Int32) (σ : St) (H : Heap) (locs : List Loc) (ls : Array Slot), HW BX g A s σ H locs → lv_has ls 3 [(0, .ref (g.2.1 c0)), (2, .int x2)] → ∀ (ex : (St) ⊕ (Bool × St)), f_E_understands_l19 n c0 x2 σ = some ex → (∀ (y : St), ex = Sum.inl y → ∀ (H : Heap) (locs : List Loc) (ls : Array Slot), HW BX g A s y H locs → lv_has ls 3 [] → W p l e (rmL 20) s m args below meth c H locs 0 0 (MQ below (QZ BX g q A) args s 0 0 A) (F0 m 70 ls [])) → (∀ (z : Bool × St), ex = Sum.inr z → z = q) → W p l e (rmL 20) s m args below meth c H locs 0 0 (MQ below (QZ BX g q A) args s 0 0 A) (F0 m 19 ls []) := by
    intro c0 hc0 n
    induction n with
    | zero =>
      intro x2 σ H locs ls hw hl ex h kx8 kr8
      cases h
    | succ n ih =>
      intro x2 σ H locs ls hw hl ex h kx8 kr8
      rw [f_E_understands_l19] at h
      refine lv_iload_n hx hb d_E_understands_19 rfl (lv_at hl 1 rfl) ?_
      refine lv_bipush (v := 10) hx hb d_E_understands_20 (by decide) ?_
      refine lv_icmp_gt (tgt := 70) hx hb d_E_understands_22 (by decide) (fun b9 => ?_) (fun b9 => ?_)
      · replace h := ifp b9 h
        exact kx8 _ (Option.some.inj h).symm H locs ls hw (lv_sub hl [] rfl)
      · replace h := ifn b9 h
        refine lv_aload_n hx hb d_E_understands_25 rfl (lv_at hl 0 rfl) ?_
        refine bnd h (fun q10 k11 h => ?_)
        refine clZ C hw (invV (As := []) C hw (c_E_clause g c0 hc0 σ q10 k11 l) rfl wc_E_32 nd_E_clause ⟨by decide, by decide⟩ (rc_E C hw hc0) rfl hl.1 rfl (Nat.le_of_ble_eq_true rfl) d_E_understands_26 ⟨Nat.le_refl _, Nat.le_refl _⟩) (fun H locs hw => ?_)
        refine ifnB (tgt := 34) C d_E_understands_29 (by decide) (fun b12 => ?_) (fun b12 => ?_)
        · replace h := ifn b12 h
          refine lv_aload_n hx hb d_E_understands_34 rfl (lv_at hl 0 rfl) ?_
          refine fg_E_19 C hw hc0 d_E_understands_35 ?_
          refine lv_aload_n hx hb d_E_understands_38 rfl (lv_at hl 0 rfl) ?_
          refine fg_E_15 C hw hc0 d_E_understands_39 ?_
          refine lv_icmp_ne (tgt := 47) hx hb d_E_understands_42 (by decide) (fun b13 => ?_) (fun b13 => ?_)
          · replace h := ifn b13 h
            refine lv_iload_n hx hb d_E_understands_47 rfl (lv_at hl 1 rfl) ?_
            refine lv_bipush (v := 10) hx hb d_E_understands_48 (by decide) ?_
            refine lv_icmp_eq (tgt := 62) hx hb d_E_understands_50 (by decide) (fun b14 => ?_) (fun b14 => ?_)
            · replace h := ifp b14 h
              refine lv_iconst (v := 0) hx hb d_E_understands_62 (by decide) ?_
              exact retZ (b := false) C hw rfl rfl (kr8 _ (Option.some.inj h).symm) d_E_understands_63
            · replace h := ifn b14 h
              refine lv_aload_n hx hb d_E_understands_53 rfl (lv_at hl 0 rfl) ?_
              refine lv_bipush (v := 59) hx hb d_E_understands_54 (by decide) ?_
              refine bnd h (fun q15 k16 h => ?_)
              refine clZ C hw (invV (As := [.int 59]) C hw (c_E_skips g c0 hc0 59 q10.2 q15 k16 l) rfl wc_E_36 nd_E_skips ⟨by decide, by decide⟩ (rc_E C hw hc0) rfl hl.1 rfl (Nat.le_of_ble_eq_true rfl) d_E_understands_56 ⟨Nat.le_refl _, Nat.le_refl _⟩) (fun H locs hw => ?_)
              refine ifnB (tgt := 64) C d_E_understands_59 (by decide) (fun b17 => ?_) (fun b17 => ?_)
              · replace h := ifn b17 h
                refine lv_iinc (v := (x2 + 1)) (lv' := [(2, .int (x2 + 1)), (0, .ref (g.2.1 c0))]) hx hb d_E_understands_64 hl (k := 1) rfl rfl (by decide) rfl (fun ls hl => ?_)
                refine lv_goto (tgt := 19) hx hb d_E_understands_67 (by decide) ?_
                exact ih (x2 + 1) q15.2 H locs ls hw (lv_sub hl [1, 0] rfl) ex h kx8 kr8
              · replace h := ifp b17 h
                refine lv_iconst (v := 0) hx hb d_E_understands_62 (by decide) ?_
                exact retZ (b := false) C hw rfl rfl (kr8 _ (Option.some.inj h).symm) d_E_understands_63
          · replace h := ifp b13 h
            refine lv_iconst (v := 1) hx hb d_E_understands_45 (by decide) ?_
            exact retZ (b := true) C hw rfl rfl (kr8 _ (Option.some.inj h).symm) d_E_understands_46
        · replace h := ifp b12 h
          refine lv_iconst (v := 0) hx hb d_E_understands_32 (by decide) ?_
          exact retZ (b := false) C hw rfl rfl (kr8 _ (Option.some.inj h).symm) d_E_understands_33
  refine bnd h (fun x_18 k19 h => ?_)
  refine L8 c0 hc0 FU 1 q6 H locs ls hw (lv_sub hl [1, 0] rfl) x_18 k19 (fun y20 e21 H locs ls hw hl => ?_) (fun z e21 => ?_)
  · rw [e21] at h
    replace h := sel h
    refine lv_iconst (v := 0) hx hb d_E_understands_70 (by decide) ?_
    exact retZ (b := false) C hw rfl rfl (Option.some.inj h) d_E_understands_71
  · rw [e21] at h
    replace h := ser h
    exact Option.some.inj h
def f_A_begin (c0 : Nat) (p1 : Int32) (σ : St) : Option (St) := (if 20 ≤ (vI σ c0 1) then (st (sI σ c0 1 ((vI σ c0 1) + 1)) fun s3 => some s3) else (if ok (vI σ c0 1) 20 = true then (st (sJ σ (c0 + 1) (upd (vJ σ (c0 + 1)) (nx (vI σ c0 1)) p1)) fun s6 => (st (sI s6 c0 1 ((vI s6 c0 1) + 1)) fun s8 => some s8)) else none))
set_option maxHeartbeats 400000 in
set_option maxRecDepth 20000 in
theorem c_A_begin (g : GX) (c0 : Nat) (hc0 : tg BX c0 13) (p1 : Int32) (σ : St) (q : St) (h : f_A_begin c0 p1 σ = some q) (l : Launch) : CT BX l y_A_begin (v_A_begin :: lwG) 1 [.ref (g.2.1 c0), .int p1] g σ (QV BX g q) := by
  refine mkC (cc := b_A_begin) (maxL := 2) (ret := none) rfl (by decide) rfl (Nat.le_of_ble_eq_true rfl) ?_
  intro p e s m args below meth c A ls C hl hw
  obtain ⟨hx, hb, hr, hml, hown, hts, hK, hE, hA, hlk⟩ := id C
  replace hl : lv_has ls 2 [(0, .ref (g.2.1 c0)), (1, .int p1)] := hl
  obtain ⟨H, hH⟩ : ∃ z, z = s.heap := ⟨_, rfl⟩
  rw [← hH] at hw ⊢
  obtain ⟨locs, hlo⟩ : ∃ z : List Loc, z = [] := ⟨_, rfl⟩
  rw [← hlo] at hw ⊢
  unfold f_A_begin at h
  refine lv_aload_n hx hb d_A_begin_0 rfl (lv_at hl 0 rfl) ?_
  refine fg_A_15 C hw hc0 d_A_begin_1 ?_
  refine lv_aload_n hx hb d_A_begin_4 rfl (lv_at hl 0 rfl) ?_
  refine fg_A_9 C hw hc0 d_A_begin_5 ?_
  refine lnI (n := 20) (v := 20) C hw (tA_1 hc0) (by decide) (by decide) d_A_begin_8 ?_
  refine lv_icmp_ge (tgt := 22) hx hb d_A_begin_9 (by decide) (fun b1 => ?_) (fun b1 => ?_)
  · replace h := ifp b1 h
    refine lv_aload_n hx hb d_A_begin_22 rfl (lv_at hl 0 rfl) ?_
    refine lv_dup hx hb d_A_begin_23 rfl ?_
    refine fg_A_15 C hw hc0 d_A_begin_24 ?_
    refine lv_iconst (v := 1) hx hb d_A_begin_27 (by decide) ?_
    refine lv_iadd hx hb d_A_begin_28 ?_
    refine ste h (fun s3 e4 h => ?_)
    refine fp_A_15 C hw hc0 d_A_begin_29 (fun H locs hw => ?_)
    replace hw := HWe hw e4
    exact retV C hw rfl (Option.some.inj h) d_A_begin_32
  · replace h := ifn b1 h
    refine lv_aload_n hx hb d_A_begin_12 rfl (lv_at hl 0 rfl) ?_
    refine fg_A_9 C hw hc0 d_A_begin_13 ?_
    refine lv_aload_n hx hb d_A_begin_16 rfl (lv_at hl 0 rfl) ?_
    refine fg_A_15 C hw hc0 d_A_begin_17 ?_
    refine lv_iload_n hx hb d_A_begin_20 rfl (lv_at hl 1 rfl) ?_
    refine gde h (fun g5 h => ?_)
    refine ste h (fun s6 e10 h => ?_)
    refine stI (n := 20) C hw (tA_1 hc0) (by decide) g5 d_A_begin_21 (fun H locs hw => ?_)
    replace hw := HWe hw e10
    refine lv_aload_n hx hb d_A_begin_22 rfl (lv_at hl 0 rfl) ?_
    refine lv_dup hx hb d_A_begin_23 rfl ?_
    refine fg_A_15 C hw hc0 d_A_begin_24 ?_
    refine lv_iconst (v := 1) hx hb d_A_begin_27 (by decide) ?_
    refine lv_iadd hx hb d_A_begin_28 ?_
    refine ste h (fun s8 e9 h => ?_)
    refine fp_A_15 C hw hc0 d_A_begin_29 (fun H locs hw => ?_)
    replace hw := HWe hw e9
    exact retV C hw rfl (Option.some.inj h) d_A_begin_32
def f_A_takesAs (ft : Nat → Int32 → Int32 → St → Option (Int32 × St)) (c0 : Nat) (p1 : Int32) (p2 : Int32) (σ : St) : Option (Int32 × St) := (if p1 = 2 then ((f_A_begin c0 30 σ).bind fun q2 => ((ft c0 0 (p2 * 3) q2).bind fun q4 => some (q4.1, q4.2))) else (if p1 = 3 then ((f_A_begin c0 10 σ).bind fun q7 => some ((p2 + (vI q7 c0 3)), q7)) else (if p1 = 4 then ((f_A_begin c0 50 σ).bind fun q10 => ((ft c0 1 p2 q10).bind fun q12 => some ((-q12.1), q12.2))) else (if p1 = 5 then ((f_A_begin c0 30 σ).bind fun q15 => ((ft c0 0 (p2 * 3) q15).bind fun q17 => some (q17.1, q17.2))) else (if p1 = 6 then ((f_A_begin c0 71 σ).bind fun q20 => ((ft c0 3 p2 q20).bind fun q22 => some ((q22.1 ^^^ (vI q22.2 c0 4)), q22.2))) else ((f_A_begin c0 10 σ).bind fun q24 => some ((p2 + (vI q24 c0 3)), q24)))))))
set_option maxHeartbeats 400000 in
set_option maxRecDepth 20000 in
theorem cb_A_takesAs (g : GX) (dd : Nat) (ft : Nat → Int32 → Int32 → St → Option (Int32 × St)) (Ht : ∀ (c0 : Nat) (hc0 : tg BX c0 13) (p1 p2 : Int32) (σ : St) (q : Int32 × St), ft c0 p1 p2 σ = some q → ∀ l : Launch, CT BX l y_A_takesAs (v_A_takesAs :: lwG) (2 + dd) [.ref (g.2.1 c0), .int p1, .int p2] g σ (QI BX g q)) (c0 : Nat) (hc0 : tg BX c0 13) (p1 : Int32) (p2 : Int32) (σ : St) (q : Int32 × St) (h : f_A_takesAs ft c0 p1 p2 σ = some q) (l : Launch) : CT BX l y_A_takesAs (v_A_takesAs :: lwG) (2 + dd + 1) [.ref (g.2.1 c0), .int p1, .int p2] g σ (QI BX g q) := by
  refine mkC (cc := b_A_takesAs) (maxL := 3) (ret := (some .int)) rfl (by decide) rfl (Nat.le_of_ble_eq_true rfl) ?_
  intro p e s m args below meth c A ls C hl hw
  obtain ⟨hx, hb, hr, hml, hown, hts, hK, hE, hA, hlk⟩ := id C
  replace hl : lv_has ls 3 [(0, .ref (g.2.1 c0)), (1, .int p1), (2, .int p2)] := hl
  obtain ⟨H, hH⟩ : ∃ z, z = s.heap := ⟨_, rfl⟩
  rw [← hH] at hw ⊢
  obtain ⟨locs, hlo⟩ : ∃ z : List Loc, z = [] := ⟨_, rfl⟩
  rw [← hlo] at hw ⊢
  unfold f_A_takesAs at h
  refine lv_iload_n hx hb d_A_takesAs_0 rfl (lv_at hl 1 rfl) ?_
  by_cases b1 : p1 = 2
  · replace h := ifp b1 h
    refine swIn (k := 2) (tgt := 36) C b1 d_A_takesAs_1 (by decide) rfl (by decide) ?_
    refine lv_aload_n hx hb d_A_takesAs_36 rfl (lv_at hl 0 rfl) ?_
    refine lv_bipush (v := 30) hx hb d_A_takesAs_37 (by decide) ?_
    refine bnd h (fun q2 k3 h => ?_)
    refine clV C hw (invV (As := [.int 30]) C hw (c_A_begin g c0 hc0 30 σ q2 k3 l) rfl wc_A_38 nd_A_begin ⟨by simp only [rmL]; omega, by simp only [rmL]; omega⟩ (rc_A C hw hc0) rfl hl.1 rfl (Nat.le_of_ble_eq_true rfl) d_A_takesAs_39 ⟨Nat.le_refl _, Nat.le_refl _⟩) (fun H locs hw => ?_)
    refine lv_aload_n hx hb d_A_takesAs_42 rfl (lv_at hl 0 rfl) ?_
    refine lv_iconst (v := 0) hx hb d_A_takesAs_43 (by decide) ?_
    refine lv_iload_n hx hb d_A_takesAs_44 rfl (lv_at hl 2 rfl) ?_
    refine lv_iconst (v := 3) hx hb d_A_takesAs_45 (by decide) ?_
    refine lv_imul hx hb d_A_takesAs_46 ?_
    refine bnd h (fun q4 k5 h => ?_)
    refine clI C hw (invV (As := [.int 0, .int (p2 * 3)]) C hw (Ht c0 hc0 0 (p2 * 3) q2 q4 k5 l) rfl wc_A_28 nd_A_takesAs ⟨by simp only [rmL]; omega, by simp only [rmL]; omega⟩ (rc_A C hw hc0) rfl hl.1 rfl (Nat.le_of_ble_eq_true rfl) d_A_takesAs_47 ⟨Nat.le_refl _, Nat.le_refl _⟩) (fun H locs hw => ?_)
    exact retI C hw rfl (Option.some.inj h) d_A_takesAs_50
  · replace h := ifn b1 h
    by_cases b6 : p1 = 3
    · replace h := ifp b6 h
      refine swIn (k := 3) (tgt := 83) C b6 d_A_takesAs_1 (by decide) rfl (by decide) ?_
      refine lv_aload_n hx hb d_A_takesAs_83 rfl (lv_at hl 0 rfl) ?_
      refine lv_bipush (v := 10) hx hb d_A_takesAs_84 (by decide) ?_
      refine bnd h (fun q7 k8 h => ?_)
      refine clV C hw (invV (As := [.int 10]) C hw (c_A_begin g c0 hc0 10 σ q7 k8 l) rfl wc_A_38 nd_A_begin ⟨by simp only [rmL]; omega, by simp only [rmL]; omega⟩ (rc_A C hw hc0) rfl hl.1 rfl (Nat.le_of_ble_eq_true rfl) d_A_takesAs_86 ⟨Nat.le_refl _, Nat.le_refl _⟩) (fun H locs hw => ?_)
      refine lv_iload_n hx hb d_A_takesAs_89 rfl (lv_at hl 2 rfl) ?_
      refine lv_aload_n hx hb d_A_takesAs_90 rfl (lv_at hl 0 rfl) ?_
      refine fg_A_22 C hw hc0 d_A_takesAs_91 ?_
      refine lv_iadd hx hb d_A_takesAs_94 ?_
      exact retI C hw rfl (Option.some.inj h) d_A_takesAs_95
    · replace h := ifn b6 h
      by_cases b9 : p1 = 4
      · replace h := ifp b9 h
        refine swIn (k := 4) (tgt := 51) C b9 d_A_takesAs_1 (by decide) rfl (by decide) ?_
        refine lv_aload_n hx hb d_A_takesAs_51 rfl (lv_at hl 0 rfl) ?_
        refine lv_bipush (v := 50) hx hb d_A_takesAs_52 (by decide) ?_
        refine bnd h (fun q10 k11 h => ?_)
        refine clV C hw (invV (As := [.int 50]) C hw (c_A_begin g c0 hc0 50 σ q10 k11 l) rfl wc_A_38 nd_A_begin ⟨by simp only [rmL]; omega, by simp only [rmL]; omega⟩ (rc_A C hw hc0) rfl hl.1 rfl (Nat.le_of_ble_eq_true rfl) d_A_takesAs_54 ⟨Nat.le_refl _, Nat.le_refl _⟩) (fun H locs hw => ?_)
        refine lv_aload_n hx hb d_A_takesAs_57 rfl (lv_at hl 0 rfl) ?_
        refine lv_iconst (v := 1) hx hb d_A_takesAs_58 (by decide) ?_
        refine lv_iload_n hx hb d_A_takesAs_59 rfl (lv_at hl 2 rfl) ?_
        refine bnd h (fun q12 k13 h => ?_)
        refine clI C hw (invV (As := [.int 1, .int p2]) C hw (Ht c0 hc0 1 p2 q10 q12 k13 l) rfl wc_A_28 nd_A_takesAs ⟨by simp only [rmL]; omega, by simp only [rmL]; omega⟩ (rc_A C hw hc0) rfl hl.1 rfl (Nat.le_of_ble_eq_true rfl) d_A_takesAs_60 ⟨Nat.le_refl _, Nat.le_refl _⟩) (fun H locs hw => ?_)
        refine lv_ineg hx hb d_A_takesAs_63 ?_
        exact retI C hw rfl (Option.some.inj h) d_A_takesAs_64
      · replace h := ifn b9 h
        by_cases b14 : p1 = 5
        · replace h := ifp b14 h
          refine swIn (k := 5) (tgt := 36) C b14 d_A_takesAs_1 (by decide) rfl (by decide) ?_
          refine lv_aload_n hx hb d_A_takesAs_36 rfl (lv_at hl 0 rfl) ?_
          refine lv_bipush (v := 30) hx hb d_A_takesAs_37 (by decide) ?_
          refine bnd h (fun q15 k16 h => ?_)
          refine clV C hw (invV (As := [.int 30]) C hw (c_A_begin g c0 hc0 30 σ q15 k16 l) rfl wc_A_38 nd_A_begin ⟨by simp only [rmL]; omega, by simp only [rmL]; omega⟩ (rc_A C hw hc0) rfl hl.1 rfl (Nat.le_of_ble_eq_true rfl) d_A_takesAs_39 ⟨Nat.le_refl _, Nat.le_refl _⟩) (fun H locs hw => ?_)
          refine lv_aload_n hx hb d_A_takesAs_42 rfl (lv_at hl 0 rfl) ?_
          refine lv_iconst (v := 0) hx hb d_A_takesAs_43 (by decide) ?_
          refine lv_iload_n hx hb d_A_takesAs_44 rfl (lv_at hl 2 rfl) ?_
          refine lv_iconst (v := 3) hx hb d_A_takesAs_45 (by decide) ?_
          refine lv_imul hx hb d_A_takesAs_46 ?_
          refine bnd h (fun q17 k18 h => ?_)
          refine clI C hw (invV (As := [.int 0, .int (p2 * 3)]) C hw (Ht c0 hc0 0 (p2 * 3) q15 q17 k18 l) rfl wc_A_28 nd_A_takesAs ⟨by simp only [rmL]; omega, by simp only [rmL]; omega⟩ (rc_A C hw hc0) rfl hl.1 rfl (Nat.le_of_ble_eq_true rfl) d_A_takesAs_47 ⟨Nat.le_refl _, Nat.le_refl _⟩) (fun H locs hw => ?_)
          exact retI C hw rfl (Option.some.inj h) d_A_takesAs_50
        · replace h := ifn b14 h
          by_cases b19 : p1 = 6
          · replace h := ifp b19 h
            refine swIn (k := 6) (tgt := 65) C b19 d_A_takesAs_1 (by decide) rfl (by decide) ?_
            refine lv_aload_n hx hb d_A_takesAs_65 rfl (lv_at hl 0 rfl) ?_
            refine lv_bipush (v := 71) hx hb d_A_takesAs_66 (by decide) ?_
            refine bnd h (fun q20 k21 h => ?_)
            refine clV C hw (invV (As := [.int 71]) C hw (c_A_begin g c0 hc0 71 σ q20 k21 l) rfl wc_A_38 nd_A_begin ⟨by simp only [rmL]; omega, by simp only [rmL]; omega⟩ (rc_A C hw hc0) rfl hl.1 rfl (Nat.le_of_ble_eq_true rfl) d_A_takesAs_68 ⟨Nat.le_refl _, Nat.le_refl _⟩) (fun H locs hw => ?_)
            refine lv_aload_n hx hb d_A_takesAs_71 rfl (lv_at hl 0 rfl) ?_
            refine lv_iconst (v := 3) hx hb d_A_takesAs_72 (by decide) ?_
            refine lv_iload_n hx hb d_A_takesAs_73 rfl (lv_at hl 2 rfl) ?_
            refine bnd h (fun q22 k23 h => ?_)
            refine clI C hw (invV (As := [.int 3, .int p2]) C hw (Ht c0 hc0 3 p2 q20 q22 k23 l) rfl wc_A_28 nd_A_takesAs ⟨by simp only [rmL]; omega, by simp only [rmL]; omega⟩ (rc_A C hw hc0) rfl hl.1 rfl (Nat.le_of_ble_eq_true rfl) d_A_takesAs_74 ⟨Nat.le_refl _, Nat.le_refl _⟩) (fun H locs hw => ?_)
            refine lv_aload_n hx hb d_A_takesAs_77 rfl (lv_at hl 0 rfl) ?_
            refine fg_A_25 C hw hc0 d_A_takesAs_78 ?_
            refine lv_ixor hx hb d_A_takesAs_81 ?_
            exact retI C hw rfl (Option.some.inj h) d_A_takesAs_82
          · replace h := ifn b19 h
            refine swOut (tgt := 83) C d_A_takesAs_1 (fun z9 l9 h9 e9 => ?_) (by decide) ?_
            · have e10 : z9 = 2 ∨ z9 = 3 ∨ z9 = 4 ∨ z9 = 5 ∨ z9 = 6 := by omega
              rcases e10 with e10 | e10 | e10 | e10 | e10
              · exact lv_neT b1 (by decide) (e9.trans e10)
              · exact lv_neT b6 (by decide) (e9.trans e10)
              · exact lv_neT b9 (by decide) (e9.trans e10)
              · exact lv_neT b14 (by decide) (e9.trans e10)
              · exact lv_neT b19 (by decide) (e9.trans e10)
            · refine lv_aload_n hx hb d_A_takesAs_83 rfl (lv_at hl 0 rfl) ?_
              refine lv_bipush (v := 10) hx hb d_A_takesAs_84 (by decide) ?_
              refine bnd h (fun q24 k25 h => ?_)
              refine clV C hw (invV (As := [.int 10]) C hw (c_A_begin g c0 hc0 10 σ q24 k25 l) rfl wc_A_38 nd_A_begin ⟨by simp only [rmL]; omega, by simp only [rmL]; omega⟩ (rc_A C hw hc0) rfl hl.1 rfl (Nat.le_of_ble_eq_true rfl) d_A_takesAs_86 ⟨Nat.le_refl _, Nat.le_refl _⟩) (fun H locs hw => ?_)
              refine lv_iload_n hx hb d_A_takesAs_89 rfl (lv_at hl 2 rfl) ?_
              refine lv_aload_n hx hb d_A_takesAs_90 rfl (lv_at hl 0 rfl) ?_
              refine fg_A_22 C hw hc0 d_A_takesAs_91 ?_
              refine lv_iadd hx hb d_A_takesAs_94 ?_
              exact retI C hw rfl (Option.some.inj h) d_A_takesAs_95
def F_A_takesAs : Nat → (Nat → Int32 → Int32 → St → Option (Int32 × St))
  | 0 => fun _ _ _ _ => none
  | n + 1 => f_A_takesAs (F_A_takesAs n)
theorem cF_A_takesAs (g : GX) : ∀ dd : Nat, ∀ (c0 : Nat) (hc0 : tg BX c0 13) (p1 p2 : Int32) (σ : St) (q : Int32 × St), F_A_takesAs dd c0 p1 p2 σ = some q → ∀ l : Launch, CT BX l y_A_takesAs (v_A_takesAs :: lwG) (2 + dd) [.ref (g.2.1 c0), .int p1, .int p2] g σ (QI BX g q) := by
  intro dd
  induction dd with
  | zero => exact fun c0 hc0 p1 p2 σ q h l => by cases h
  | succ n ih => exact fun c0 hc0 p1 p2 σ q h l => cb_A_takesAs g n (F_A_takesAs n) ih c0 hc0 p1 p2 σ q h l
def f_A_leavesAs (ft : Nat → Int32 → Int32 → St → Option (Int32 × St)) (c0 : Nat) (p1 : Int32) (p2 : Int32) (σ : St) : Option (Int32 × St) := (if p1 = 1 then ((f_A_begin c0 20 σ).bind fun q2 => ((ft c0 0 p2 q2).bind fun q4 => some ((q4.1 ^^^ 6), q4.2))) else (if p1 = 4 then ((f_A_begin c0 51 σ).bind fun q7 => ((ft c0 1 (p2 + 1) q7).bind fun q9 => some (q9.1, q9.2))) else (if p1 = 6 then ((f_A_begin c0 70 σ).bind fun q12 => ((ft c0 3 p2 q12).bind fun q14 => ((F_A_takesAs 3 c0 3 2 q14.2).bind fun q16 => some ((q14.1 + q16.1), q16.2)))) else ((f_A_begin c0 11 σ).bind fun q18 => ((F_A_takesAs 3 c0 (vI q18 c0 2) p2 q18).bind fun q20 => some ((q20.1 - (vI q20.2 c0 4)), q20.2))))))
set_option maxHeartbeats 400000 in
set_option maxRecDepth 20000 in
theorem cb_A_leavesAs (g : GX) (dd : Nat) (ft : Nat → Int32 → Int32 → St → Option (Int32 × St)) (Ht : ∀ (c0 : Nat) (hc0 : tg BX c0 13) (p1 p2 : Int32) (σ : St) (q : Int32 × St), ft c0 p1 p2 σ = some q → ∀ l : Launch, CT BX l y_A_leavesAs (v_A_leavesAs :: lwG) (6 + dd) [.ref (g.2.1 c0), .int p1, .int p2] g σ (QI BX g q)) (c0 : Nat) (hc0 : tg BX c0 13) (p1 : Int32) (p2 : Int32) (σ : St) (q : Int32 × St) (h : f_A_leavesAs ft c0 p1 p2 σ = some q) (l : Launch) : CT BX l y_A_leavesAs (v_A_leavesAs :: lwG) (6 + dd + 1) [.ref (g.2.1 c0), .int p1, .int p2] g σ (QI BX g q) := by
  refine mkC (cc := b_A_leavesAs) (maxL := 4) (ret := (some .int)) rfl (by decide) rfl (Nat.le_of_ble_eq_true rfl) ?_
  intro p e s m args below meth c A ls C hl hw
  obtain ⟨hx, hb, hr, hml, hown, hts, hK, hE, hA, hlk⟩ := id C
  replace hl : lv_has ls 4 [(0, .ref (g.2.1 c0)), (1, .int p1), (2, .int p2)] := hl
  obtain ⟨H, hH⟩ : ∃ z, z = s.heap := ⟨_, rfl⟩
  rw [← hH] at hw ⊢
  obtain ⟨locs, hlo⟩ : ∃ z : List Loc, z = [] := ⟨_, rfl⟩
  rw [← hlo] at hw ⊢
  unfold f_A_leavesAs at h
  refine lv_iload_n hx hb d_A_leavesAs_0 rfl (lv_at hl 1 rfl) ?_
  by_cases b1 : p1 = 1
  · replace h := ifp b1 h
    refine lv_lookup (off := 35) (tgt := 36) hx hb d_A_leavesAs_1 (by decide) (by rw [b1]; decide) (by decide) ?_
    refine lv_aload_n hx hb d_A_leavesAs_36 rfl (lv_at hl 0 rfl) ?_
    refine lv_bipush (v := 20) hx hb d_A_leavesAs_37 (by decide) ?_
    refine bnd h (fun q2 k3 h => ?_)
    refine clV C hw (invV (As := [.int 20]) C hw (c_A_begin g c0 hc0 20 σ q2 k3 l) rfl wc_A_38 nd_A_begin ⟨by simp only [rmL]; omega, by simp only [rmL]; omega⟩ (rc_A C hw hc0) rfl hl.1 rfl (Nat.le_of_ble_eq_true rfl) d_A_leavesAs_39 ⟨Nat.le_refl _, Nat.le_refl _⟩) (fun H locs hw => ?_)
    refine lv_aload_n hx hb d_A_leavesAs_42 rfl (lv_at hl 0 rfl) ?_
    refine lv_iconst (v := 0) hx hb d_A_leavesAs_43 (by decide) ?_
    refine lv_iload_n hx hb d_A_leavesAs_44 rfl (lv_at hl 2 rfl) ?_
    refine bnd h (fun q4 k5 h => ?_)
    refine clI C hw (invV (As := [.int 0, .int p2]) C hw (Ht c0 hc0 0 p2 q2 q4 k5 l) rfl wc_A_32 nd_A_leavesAs ⟨by simp only [rmL]; omega, by simp only [rmL]; omega⟩ (rc_A C hw hc0) rfl hl.1 rfl (Nat.le_of_ble_eq_true rfl) d_A_leavesAs_45 ⟨Nat.le_refl _, Nat.le_refl _⟩) (fun H locs hw => ?_)
    refine lv_bipush (v := 6) hx hb d_A_leavesAs_48 (by decide) ?_
    refine lv_ixor hx hb d_A_leavesAs_50 ?_
    exact retI C hw rfl (Option.some.inj h) d_A_leavesAs_51
  · replace h := ifn b1 h
    by_cases b6 : p1 = 4
    · replace h := ifp b6 h
      refine lv_lookup (off := 51) (tgt := 52) hx hb d_A_leavesAs_1 (by decide) (by rw [b6]; decide) (by decide) ?_
      refine lv_aload_n hx hb d_A_leavesAs_52 rfl (lv_at hl 0 rfl) ?_
      refine lv_bipush (v := 51) hx hb d_A_leavesAs_53 (by decide) ?_
      refine bnd h (fun q7 k8 h => ?_)
      refine clV C hw (invV (As := [.int 51]) C hw (c_A_begin g c0 hc0 51 σ q7 k8 l) rfl wc_A_38 nd_A_begin ⟨by simp only [rmL]; omega, by simp only [rmL]; omega⟩ (rc_A C hw hc0) rfl hl.1 rfl (Nat.le_of_ble_eq_true rfl) d_A_leavesAs_55 ⟨Nat.le_refl _, Nat.le_refl _⟩) (fun H locs hw => ?_)
      refine lv_aload_n hx hb d_A_leavesAs_58 rfl (lv_at hl 0 rfl) ?_
      refine lv_iconst (v := 1) hx hb d_A_leavesAs_59 (by decide) ?_
      refine lv_iload_n hx hb d_A_leavesAs_60 rfl (lv_at hl 2 rfl) ?_
      refine lv_iconst (v := 1) hx hb d_A_leavesAs_61 (by decide) ?_
      refine lv_iadd hx hb d_A_leavesAs_62 ?_
      refine bnd h (fun q9 k10 h => ?_)
      refine clI C hw (invV (As := [.int 1, .int (p2 + 1)]) C hw (Ht c0 hc0 1 (p2 + 1) q7 q9 k10 l) rfl wc_A_32 nd_A_leavesAs ⟨by simp only [rmL]; omega, by simp only [rmL]; omega⟩ (rc_A C hw hc0) rfl hl.1 rfl (Nat.le_of_ble_eq_true rfl) d_A_leavesAs_63 ⟨Nat.le_refl _, Nat.le_refl _⟩) (fun H locs hw => ?_)
      exact retI C hw rfl (Option.some.inj h) d_A_leavesAs_66
    · replace h := ifn b6 h
      by_cases b11 : p1 = 6
      · replace h := ifp b11 h
        refine lv_lookup (off := 66) (tgt := 67) hx hb d_A_leavesAs_1 (by decide) (by rw [b11]; decide) (by decide) ?_
        refine lv_aload_n hx hb d_A_leavesAs_67 rfl (lv_at hl 0 rfl) ?_
        refine lv_bipush (v := 70) hx hb d_A_leavesAs_68 (by decide) ?_
        refine bnd h (fun q12 k13 h => ?_)
        refine clV C hw (invV (As := [.int 70]) C hw (c_A_begin g c0 hc0 70 σ q12 k13 l) rfl wc_A_38 nd_A_begin ⟨by simp only [rmL]; omega, by simp only [rmL]; omega⟩ (rc_A C hw hc0) rfl hl.1 rfl (Nat.le_of_ble_eq_true rfl) d_A_leavesAs_70 ⟨Nat.le_refl _, Nat.le_refl _⟩) (fun H locs hw => ?_)
        refine lv_aload_n hx hb d_A_leavesAs_73 rfl (lv_at hl 0 rfl) ?_
        refine lv_iconst (v := 3) hx hb d_A_leavesAs_74 (by decide) ?_
        refine lv_iload_n hx hb d_A_leavesAs_75 rfl (lv_at hl 2 rfl) ?_
        refine bnd h (fun q14 k15 h => ?_)
        refine clI C hw (invV (As := [.int 3, .int p2]) C hw (Ht c0 hc0 3 p2 q12 q14 k15 l) rfl wc_A_32 nd_A_leavesAs ⟨by simp only [rmL]; omega, by simp only [rmL]; omega⟩ (rc_A C hw hc0) rfl hl.1 rfl (Nat.le_of_ble_eq_true rfl) d_A_leavesAs_76 ⟨Nat.le_refl _, Nat.le_refl _⟩) (fun H locs hw => ?_)
        refine lv_istore_n (lv' := [(3, .int q14.1), (0, .ref (g.2.1 c0)), (1, .int p1), (2, .int p2)]) hx hb d_A_leavesAs_79 rfl hl (by decide) rfl (fun ls hl => ?_)
        refine lv_iload_n hx hb d_A_leavesAs_80 rfl (lv_at hl 0 rfl) ?_
        refine lv_aload_n hx hb d_A_leavesAs_81 rfl (lv_at hl 1 rfl) ?_
        refine lv_iconst (v := 3) hx hb d_A_leavesAs_82 (by decide) ?_
        refine lv_iconst (v := 2) hx hb d_A_leavesAs_83 (by decide) ?_
        refine bnd h (fun q16 k17 h => ?_)
        refine clI C hw (invV (As := [.int 3, .int 2]) C hw ((fun g => cF_A_takesAs g 3) g c0 hc0 3 2 q14.2 q16 k17 l) rfl wc_A_28 nd_A_takesAs ⟨by simp only [rmL]; omega, by simp only [rmL]; omega⟩ (rc_A C hw hc0) rfl hl.1 rfl (Nat.le_of_ble_eq_true rfl) d_A_leavesAs_84 ⟨Nat.le_refl _, Nat.le_refl _⟩) (fun H locs hw => ?_)
        refine lv_iadd hx hb d_A_leavesAs_87 ?_
        exact retI C hw rfl (Option.some.inj h) d_A_leavesAs_88
      · replace h := ifn b11 h
        refine lv_lookup (off := 88) (tgt := 89) hx hb d_A_leavesAs_1 (by decide) ((lv_osw b1 (by decide)).trans ((lv_osw b6 (by decide)).trans ((lv_osw b11 (by decide)).trans (rfl)))) (by decide) ?_
        refine lv_aload_n hx hb d_A_leavesAs_89 rfl (lv_at hl 0 rfl) ?_
        refine lv_bipush (v := 11) hx hb d_A_leavesAs_90 (by decide) ?_
        refine bnd h (fun q18 k19 h => ?_)
        refine clV C hw (invV (As := [.int 11]) C hw (c_A_begin g c0 hc0 11 σ q18 k19 l) rfl wc_A_38 nd_A_begin ⟨by simp only [rmL]; omega, by simp only [rmL]; omega⟩ (rc_A C hw hc0) rfl hl.1 rfl (Nat.le_of_ble_eq_true rfl) d_A_leavesAs_92 ⟨Nat.le_refl _, Nat.le_refl _⟩) (fun H locs hw => ?_)
        refine lv_aload_n hx hb d_A_leavesAs_95 rfl (lv_at hl 0 rfl) ?_
        refine lv_aload_n hx hb d_A_leavesAs_96 rfl (lv_at hl 0 rfl) ?_
        refine fg_A_19 C hw hc0 d_A_leavesAs_97 ?_
        refine lv_iload_n hx hb d_A_leavesAs_100 rfl (lv_at hl 2 rfl) ?_
        refine bnd h (fun q20 k21 h => ?_)
        refine clI C hw (invV (As := [.int (vI q18 c0 2), .int p2]) C hw ((fun g => cF_A_takesAs g 3) g c0 hc0 (vI q18 c0 2) p2 q18 q20 k21 l) rfl wc_A_28 nd_A_takesAs ⟨by simp only [rmL]; omega, by simp only [rmL]; omega⟩ (rc_A C hw hc0) rfl hl.1 rfl (Nat.le_of_ble_eq_true rfl) d_A_leavesAs_101 ⟨Nat.le_refl _, Nat.le_refl _⟩) (fun H locs hw => ?_)
        refine lv_aload_n hx hb d_A_leavesAs_104 rfl (lv_at hl 0 rfl) ?_
        refine fg_A_25 C hw hc0 d_A_leavesAs_105 ?_
        refine lv_isub hx hb d_A_leavesAs_108 ?_
        exact retI C hw rfl (Option.some.inj h) d_A_leavesAs_109
def F_A_leavesAs : Nat → (Nat → Int32 → Int32 → St → Option (Int32 × St))
  | 0 => fun _ _ _ _ => none
  | n + 1 => f_A_leavesAs (F_A_leavesAs n)
theorem cF_A_leavesAs (g : GX) : ∀ dd : Nat, ∀ (c0 : Nat) (hc0 : tg BX c0 13) (p1 p2 : Int32) (σ : St) (q : Int32 × St), F_A_leavesAs dd c0 p1 p2 σ = some q → ∀ l : Launch, CT BX l y_A_leavesAs (v_A_leavesAs :: lwG) (6 + dd) [.ref (g.2.1 c0), .int p1, .int p2] g σ (QI BX g q) := by
  intro dd
  induction dd with
  | zero => exact fun c0 hc0 p1 p2 σ q h l => by cases h
  | succ n ih => exact fun c0 hc0 p1 p2 σ q h l => cb_A_leavesAs g n (F_A_leavesAs n) ih c0 hc0 p1 p2 σ q h l
def f_A_tellsAs (ft : Nat → Int32 → Int32 → St → Option (Int32 × St)) (c0 : Nat) (p1 : Int32) (p2 : Int32) (σ : St) : Option (Int32 × St) := (if p1 = 3 then ((f_A_begin c0 40 σ).bind fun q2 => ((ft c0 0 p2 q2).bind fun q4 => ((F_A_leavesAs 4 c0 (vI q4.2 c0 2) 1 q4.2).bind fun q6 => some ((q4.1 + q6.1), q6.2)))) else (if p1 = 4 then ((f_A_begin c0 12 σ).bind fun q9 => ((F_A_leavesAs 4 c0 (vI q9 c0 2) p2 q9).bind fun q11 => some ((q11.1 * 2), q11.2))) else (if p1 = 5 then ((f_A_begin c0 60 σ).bind fun q14 => ((ft c0 2 (p2 - (vI q14 c0 3)) q14).bind fun q16 => some (q16.1, q16.2))) else (if p1 = 6 then ((f_A_begin c0 40 σ).bind fun q19 => ((ft c0 0 p2 q19).bind fun q21 => ((F_A_leavesAs 4 c0 (vI q21.2 c0 2) 1 q21.2).bind fun q23 => some ((q21.1 + q23.1), q23.2)))) else ((f_A_begin c0 12 σ).bind fun q25 => ((F_A_leavesAs 4 c0 (vI q25 c0 2) p2 q25).bind fun q27 => some ((q27.1 * 2), q27.2)))))))
set_option maxHeartbeats 400000 in
set_option maxRecDepth 20000 in
theorem cb_A_tellsAs (g : GX) (dd : Nat) (ft : Nat → Int32 → Int32 → St → Option (Int32 × St)) (Ht : ∀ (c0 : Nat) (hc0 : tg BX c0 13) (p1 p2 : Int32) (σ : St) (q : Int32 × St), ft c0 p1 p2 σ = some q → ∀ l : Launch, CT BX l y_A_tellsAs (v_A_tellsAs :: lwG) (11 + dd) [.ref (g.2.1 c0), .int p1, .int p2] g σ (QI BX g q)) (c0 : Nat) (hc0 : tg BX c0 13) (p1 : Int32) (p2 : Int32) (σ : St) (q : Int32 × St) (h : f_A_tellsAs ft c0 p1 p2 σ = some q) (l : Launch) : CT BX l y_A_tellsAs (v_A_tellsAs :: lwG) (11 + dd + 1) [.ref (g.2.1 c0), .int p1, .int p2] g σ (QI BX g q) := by
  refine mkC (cc := b_A_tellsAs) (maxL := 4) (ret := (some .int)) rfl (by decide) rfl (Nat.le_of_ble_eq_true rfl) ?_
  intro p e s m args below meth c A ls C hl hw
  obtain ⟨hx, hb, hr, hml, hown, hts, hK, hE, hA, hlk⟩ := id C
  replace hl : lv_has ls 4 [(0, .ref (g.2.1 c0)), (1, .int p1), (2, .int p2)] := hl
  obtain ⟨H, hH⟩ : ∃ z, z = s.heap := ⟨_, rfl⟩
  rw [← hH] at hw ⊢
  obtain ⟨locs, hlo⟩ : ∃ z : List Loc, z = [] := ⟨_, rfl⟩
  rw [← hlo] at hw ⊢
  unfold f_A_tellsAs at h
  refine lv_iload_n hx hb d_A_tellsAs_0 rfl (lv_at hl 1 rfl) ?_
  by_cases b1 : p1 = 3
  · replace h := ifp b1 h
    refine swIn (k := 3) (tgt := 32) C b1 d_A_tellsAs_1 (by decide) rfl (by decide) ?_
    refine lv_aload_n hx hb d_A_tellsAs_32 rfl (lv_at hl 0 rfl) ?_
    refine lv_bipush (v := 40) hx hb d_A_tellsAs_33 (by decide) ?_
    refine bnd h (fun q2 k3 h => ?_)
    refine clV C hw (invV (As := [.int 40]) C hw (c_A_begin g c0 hc0 40 σ q2 k3 l) rfl wc_A_38 nd_A_begin ⟨by simp only [rmL]; omega, by simp only [rmL]; omega⟩ (rc_A C hw hc0) rfl hl.1 rfl (Nat.le_of_ble_eq_true rfl) d_A_tellsAs_35 ⟨Nat.le_refl _, Nat.le_refl _⟩) (fun H locs hw => ?_)
    refine lv_aload_n hx hb d_A_tellsAs_38 rfl (lv_at hl 0 rfl) ?_
    refine lv_iconst (v := 0) hx hb d_A_tellsAs_39 (by decide) ?_
    refine lv_iload_n hx hb d_A_tellsAs_40 rfl (lv_at hl 2 rfl) ?_
    refine bnd h (fun q4 k5 h => ?_)
    refine clI C hw (invV (As := [.int 0, .int p2]) C hw (Ht c0 hc0 0 p2 q2 q4 k5 l) rfl wc_A_35 nd_A_tellsAs ⟨by simp only [rmL]; omega, by simp only [rmL]; omega⟩ (rc_A C hw hc0) rfl hl.1 rfl (Nat.le_of_ble_eq_true rfl) d_A_tellsAs_41 ⟨Nat.le_refl _, Nat.le_refl _⟩) (fun H locs hw => ?_)
    refine lv_istore_n (lv' := [(3, .int q4.1), (0, .ref (g.2.1 c0)), (1, .int p1), (2, .int p2)]) hx hb d_A_tellsAs_44 rfl hl (by decide) rfl (fun ls hl => ?_)
    refine lv_iload_n hx hb d_A_tellsAs_45 rfl (lv_at hl 0 rfl) ?_
    refine lv_aload_n hx hb d_A_tellsAs_46 rfl (lv_at hl 1 rfl) ?_
    refine lv_aload_n hx hb d_A_tellsAs_47 rfl (lv_at hl 1 rfl) ?_
    refine fg_A_19 C hw hc0 d_A_tellsAs_48 ?_
    refine lv_iconst (v := 1) hx hb d_A_tellsAs_51 (by decide) ?_
    refine bnd h (fun q6 k7 h => ?_)
    refine clI C hw (invV (As := [.int (vI q4.2 c0 2), .int 1]) C hw ((fun g => cF_A_leavesAs g 4) g c0 hc0 (vI q4.2 c0 2) 1 q4.2 q6 k7 l) rfl wc_A_32 nd_A_leavesAs ⟨by simp only [rmL]; omega, by simp only [rmL]; omega⟩ (rc_A C hw hc0) rfl hl.1 rfl (Nat.le_of_ble_eq_true rfl) d_A_tellsAs_52 ⟨Nat.le_refl _, Nat.le_refl _⟩) (fun H locs hw => ?_)
    refine lv_iadd hx hb d_A_tellsAs_55 ?_
    exact retI C hw rfl (Option.some.inj h) d_A_tellsAs_56
  · replace h := ifn b1 h
    by_cases b8 : p1 = 4
    · replace h := ifp b8 h
      refine swIn (k := 4) (tgt := 75) C b8 d_A_tellsAs_1 (by decide) rfl (by decide) ?_
      refine lv_aload_n hx hb d_A_tellsAs_75 rfl (lv_at hl 0 rfl) ?_
      refine lv_bipush (v := 12) hx hb d_A_tellsAs_76 (by decide) ?_
      refine bnd h (fun q9 k10 h => ?_)
      refine clV C hw (invV (As := [.int 12]) C hw (c_A_begin g c0 hc0 12 σ q9 k10 l) rfl wc_A_38 nd_A_begin ⟨by simp only [rmL]; omega, by simp only [rmL]; omega⟩ (rc_A C hw hc0) rfl hl.1 rfl (Nat.le_of_ble_eq_true rfl) d_A_tellsAs_78 ⟨Nat.le_refl _, Nat.le_refl _⟩) (fun H locs hw => ?_)
      refine lv_aload_n hx hb d_A_tellsAs_81 rfl (lv_at hl 0 rfl) ?_
      refine lv_aload_n hx hb d_A_tellsAs_82 rfl (lv_at hl 0 rfl) ?_
      refine fg_A_19 C hw hc0 d_A_tellsAs_83 ?_
      refine lv_iload_n hx hb d_A_tellsAs_86 rfl (lv_at hl 2 rfl) ?_
      refine bnd h (fun q11 k12 h => ?_)
      refine clI C hw (invV (As := [.int (vI q9 c0 2), .int p2]) C hw ((fun g => cF_A_leavesAs g 4) g c0 hc0 (vI q9 c0 2) p2 q9 q11 k12 l) rfl wc_A_32 nd_A_leavesAs ⟨by simp only [rmL]; omega, by simp only [rmL]; omega⟩ (rc_A C hw hc0) rfl hl.1 rfl (Nat.le_of_ble_eq_true rfl) d_A_tellsAs_87 ⟨Nat.le_refl _, Nat.le_refl _⟩) (fun H locs hw => ?_)
      refine lv_iconst (v := 2) hx hb d_A_tellsAs_90 (by decide) ?_
      refine lv_imul hx hb d_A_tellsAs_91 ?_
      exact retI C hw rfl (Option.some.inj h) d_A_tellsAs_92
    · replace h := ifn b8 h
      by_cases b13 : p1 = 5
      · replace h := ifp b13 h
        refine swIn (k := 5) (tgt := 57) C b13 d_A_tellsAs_1 (by decide) rfl (by decide) ?_
        refine lv_aload_n hx hb d_A_tellsAs_57 rfl (lv_at hl 0 rfl) ?_
        refine lv_bipush (v := 60) hx hb d_A_tellsAs_58 (by decide) ?_
        refine bnd h (fun q14 k15 h => ?_)
        refine clV C hw (invV (As := [.int 60]) C hw (c_A_begin g c0 hc0 60 σ q14 k15 l) rfl wc_A_38 nd_A_begin ⟨by simp only [rmL]; omega, by simp only [rmL]; omega⟩ (rc_A C hw hc0) rfl hl.1 rfl (Nat.le_of_ble_eq_true rfl) d_A_tellsAs_60 ⟨Nat.le_refl _, Nat.le_refl _⟩) (fun H locs hw => ?_)
        refine lv_aload_n hx hb d_A_tellsAs_63 rfl (lv_at hl 0 rfl) ?_
        refine lv_iconst (v := 2) hx hb d_A_tellsAs_64 (by decide) ?_
        refine lv_iload_n hx hb d_A_tellsAs_65 rfl (lv_at hl 2 rfl) ?_
        refine lv_aload_n hx hb d_A_tellsAs_66 rfl (lv_at hl 0 rfl) ?_
        refine fg_A_22 C hw hc0 d_A_tellsAs_67 ?_
        refine lv_isub hx hb d_A_tellsAs_70 ?_
        refine bnd h (fun q16 k17 h => ?_)
        refine clI C hw (invV (As := [.int 2, .int (p2 - (vI q14 c0 3))]) C hw (Ht c0 hc0 2 (p2 - (vI q14 c0 3)) q14 q16 k17 l) rfl wc_A_35 nd_A_tellsAs ⟨by simp only [rmL]; omega, by simp only [rmL]; omega⟩ (rc_A C hw hc0) rfl hl.1 rfl (Nat.le_of_ble_eq_true rfl) d_A_tellsAs_71 ⟨Nat.le_refl _, Nat.le_refl _⟩) (fun H locs hw => ?_)
        exact retI C hw rfl (Option.some.inj h) d_A_tellsAs_74
      · replace h := ifn b13 h
        by_cases b18 : p1 = 6
        · replace h := ifp b18 h
          refine swIn (k := 6) (tgt := 32) C b18 d_A_tellsAs_1 (by decide) rfl (by decide) ?_
          refine lv_aload_n hx hb d_A_tellsAs_32 rfl (lv_at hl 0 rfl) ?_
          refine lv_bipush (v := 40) hx hb d_A_tellsAs_33 (by decide) ?_
          refine bnd h (fun q19 k20 h => ?_)
          refine clV C hw (invV (As := [.int 40]) C hw (c_A_begin g c0 hc0 40 σ q19 k20 l) rfl wc_A_38 nd_A_begin ⟨by simp only [rmL]; omega, by simp only [rmL]; omega⟩ (rc_A C hw hc0) rfl hl.1 rfl (Nat.le_of_ble_eq_true rfl) d_A_tellsAs_35 ⟨Nat.le_refl _, Nat.le_refl _⟩) (fun H locs hw => ?_)
          refine lv_aload_n hx hb d_A_tellsAs_38 rfl (lv_at hl 0 rfl) ?_
          refine lv_iconst (v := 0) hx hb d_A_tellsAs_39 (by decide) ?_
          refine lv_iload_n hx hb d_A_tellsAs_40 rfl (lv_at hl 2 rfl) ?_
          refine bnd h (fun q21 k22 h => ?_)
          refine clI C hw (invV (As := [.int 0, .int p2]) C hw (Ht c0 hc0 0 p2 q19 q21 k22 l) rfl wc_A_35 nd_A_tellsAs ⟨by simp only [rmL]; omega, by simp only [rmL]; omega⟩ (rc_A C hw hc0) rfl hl.1 rfl (Nat.le_of_ble_eq_true rfl) d_A_tellsAs_41 ⟨Nat.le_refl _, Nat.le_refl _⟩) (fun H locs hw => ?_)
          refine lv_istore_n (lv' := [(3, .int q21.1), (0, .ref (g.2.1 c0)), (1, .int p1), (2, .int p2)]) hx hb d_A_tellsAs_44 rfl hl (by decide) rfl (fun ls hl => ?_)
          refine lv_iload_n hx hb d_A_tellsAs_45 rfl (lv_at hl 0 rfl) ?_
          refine lv_aload_n hx hb d_A_tellsAs_46 rfl (lv_at hl 1 rfl) ?_
          refine lv_aload_n hx hb d_A_tellsAs_47 rfl (lv_at hl 1 rfl) ?_
          refine fg_A_19 C hw hc0 d_A_tellsAs_48 ?_
          refine lv_iconst (v := 1) hx hb d_A_tellsAs_51 (by decide) ?_
          refine bnd h (fun q23 k24 h => ?_)
          refine clI C hw (invV (As := [.int (vI q21.2 c0 2), .int 1]) C hw ((fun g => cF_A_leavesAs g 4) g c0 hc0 (vI q21.2 c0 2) 1 q21.2 q23 k24 l) rfl wc_A_32 nd_A_leavesAs ⟨by simp only [rmL]; omega, by simp only [rmL]; omega⟩ (rc_A C hw hc0) rfl hl.1 rfl (Nat.le_of_ble_eq_true rfl) d_A_tellsAs_52 ⟨Nat.le_refl _, Nat.le_refl _⟩) (fun H locs hw => ?_)
          refine lv_iadd hx hb d_A_tellsAs_55 ?_
          exact retI C hw rfl (Option.some.inj h) d_A_tellsAs_56
        · replace h := ifn b18 h
          refine swOut (tgt := 75) C d_A_tellsAs_1 (fun z9 l9 h9 e9 => ?_) (by decide) ?_
          · have e10 : z9 = 3 ∨ z9 = 4 ∨ z9 = 5 ∨ z9 = 6 := by omega
            rcases e10 with e10 | e10 | e10 | e10
            · exact lv_neT b1 (by decide) (e9.trans e10)
            · exact lv_neT b8 (by decide) (e9.trans e10)
            · exact lv_neT b13 (by decide) (e9.trans e10)
            · exact lv_neT b18 (by decide) (e9.trans e10)
          · refine lv_aload_n hx hb d_A_tellsAs_75 rfl (lv_at hl 0 rfl) ?_
            refine lv_bipush (v := 12) hx hb d_A_tellsAs_76 (by decide) ?_
            refine bnd h (fun q25 k26 h => ?_)
            refine clV C hw (invV (As := [.int 12]) C hw (c_A_begin g c0 hc0 12 σ q25 k26 l) rfl wc_A_38 nd_A_begin ⟨by simp only [rmL]; omega, by simp only [rmL]; omega⟩ (rc_A C hw hc0) rfl hl.1 rfl (Nat.le_of_ble_eq_true rfl) d_A_tellsAs_78 ⟨Nat.le_refl _, Nat.le_refl _⟩) (fun H locs hw => ?_)
            refine lv_aload_n hx hb d_A_tellsAs_81 rfl (lv_at hl 0 rfl) ?_
            refine lv_aload_n hx hb d_A_tellsAs_82 rfl (lv_at hl 0 rfl) ?_
            refine fg_A_19 C hw hc0 d_A_tellsAs_83 ?_
            refine lv_iload_n hx hb d_A_tellsAs_86 rfl (lv_at hl 2 rfl) ?_
            refine bnd h (fun q27 k28 h => ?_)
            refine clI C hw (invV (As := [.int (vI q25 c0 2), .int p2]) C hw ((fun g => cF_A_leavesAs g 4) g c0 hc0 (vI q25 c0 2) p2 q25 q27 k28 l) rfl wc_A_32 nd_A_leavesAs ⟨by simp only [rmL]; omega, by simp only [rmL]; omega⟩ (rc_A C hw hc0) rfl hl.1 rfl (Nat.le_of_ble_eq_true rfl) d_A_tellsAs_87 ⟨Nat.le_refl _, Nat.le_refl _⟩) (fun H locs hw => ?_)
            refine lv_iconst (v := 2) hx hb d_A_tellsAs_90 (by decide) ?_
            refine lv_imul hx hb d_A_tellsAs_91 ?_
            exact retI C hw rfl (Option.some.inj h) d_A_tellsAs_92
def F_A_tellsAs : Nat → (Nat → Int32 → Int32 → St → Option (Int32 × St))
  | 0 => fun _ _ _ _ => none
  | n + 1 => f_A_tellsAs (F_A_tellsAs n)
theorem cF_A_tellsAs (g : GX) : ∀ dd : Nat, ∀ (c0 : Nat) (hc0 : tg BX c0 13) (p1 p2 : Int32) (σ : St) (q : Int32 × St), F_A_tellsAs dd c0 p1 p2 σ = some q → ∀ l : Launch, CT BX l y_A_tellsAs (v_A_tellsAs :: lwG) (11 + dd) [.ref (g.2.1 c0), .int p1, .int p2] g σ (QI BX g q) := by
  intro dd
  induction dd with
  | zero => exact fun c0 hc0 p1 p2 σ q h l => by cases h
  | succ n ih => exact fun c0 hc0 p1 p2 σ q h l => cb_A_tellsAs g n (F_A_tellsAs n) ih c0 hc0 p1 p2 σ q h l
def f_A_perform (c0 : Nat) (p1 : Int32) (p2 : Int32) (p3 : Int32) (p4 : Int32) (p5 : Int32) (σ : St) : Option (Int32 × St) := (st (sI σ c0 1 0) fun s2 => (st (sI s2 c0 2 p1) fun s4 => (st (sI s4 c0 3 p2) fun s6 => (st (sI s6 c0 4 p3) fun s8 => (if p4 = 0 then ((F_A_takesAs 3 c0 (vI s8 c0 2) p5 s8).bind fun q10 => some (q10.1, q10.2)) else (if p4 = 1 then ((F_A_leavesAs 4 c0 (vI s8 c0 2) p5 s8).bind fun q13 => some (q13.1, q13.2)) else ((F_A_tellsAs 3 c0 (vI s8 c0 2) p5 s8).bind fun q15 => some (q15.1, q15.2))))))))
set_option maxHeartbeats 400000 in
set_option maxRecDepth 20000 in
theorem c_A_perform (g : GX) (c0 : Nat) (hc0 : tg BX c0 13) (p1 : Int32) (p2 : Int32) (p3 : Int32) (p4 : Int32) (p5 : Int32) (σ : St) (q : Int32 × St) (h : f_A_perform c0 p1 p2 p3 p4 p5 σ = some q) (l : Launch) : CT BX l y_A_perform (v_A_perform :: lwG) 15 [.ref (g.2.1 c0), .int p1, .int p2, .int p3, .int p4, .int p5] g σ (QI BX g q) := by
  refine mkC (cc := b_A_perform) (maxL := 6) (ret := (some .int)) rfl (by decide) rfl (Nat.le_of_ble_eq_true rfl) ?_
  intro p e s m args below meth c A ls C hl hw
  obtain ⟨hx, hb, hr, hml, hown, hts, hK, hE, hA, hlk⟩ := id C
  replace hl : lv_has ls 6 [(0, .ref (g.2.1 c0)), (1, .int p1), (2, .int p2), (3, .int p3), (4, .int p4), (5, .int p5)] := hl
  obtain ⟨H, hH⟩ : ∃ z, z = s.heap := ⟨_, rfl⟩
  rw [← hH] at hw ⊢
  obtain ⟨locs, hlo⟩ : ∃ z : List Loc, z = [] := ⟨_, rfl⟩
  rw [← hlo] at hw ⊢
  unfold f_A_perform at h
  refine lv_aload_n hx hb d_A_perform_0 rfl (lv_at hl 0 rfl) ?_
  refine lv_iconst (v := 0) hx hb d_A_perform_1 (by decide) ?_
  refine ste h (fun s2 e20 h => ?_)
  refine fp_A_15 C hw hc0 d_A_perform_2 (fun H locs hw => ?_)
  replace hw := HWe hw e20
  refine lv_aload_n hx hb d_A_perform_5 rfl (lv_at hl 0 rfl) ?_
  refine lv_iload_n hx hb d_A_perform_6 rfl (lv_at hl 1 rfl) ?_
  refine ste h (fun s4 e19 h => ?_)
  refine fp_A_19 C hw hc0 d_A_perform_7 (fun H locs hw => ?_)
  replace hw := HWe hw e19
  refine lv_aload_n hx hb d_A_perform_10 rfl (lv_at hl 0 rfl) ?_
  refine lv_iload_n hx hb d_A_perform_11 rfl (lv_at hl 2 rfl) ?_
  refine ste h (fun s6 e18 h => ?_)
  refine fp_A_22 C hw hc0 d_A_perform_12 (fun H locs hw => ?_)
  replace hw := HWe hw e18
  refine lv_aload_n hx hb d_A_perform_15 rfl (lv_at hl 0 rfl) ?_
  refine lv_iload_n hx hb d_A_perform_16 rfl (lv_at hl 3 rfl) ?_
  refine ste h (fun s8 e17 h => ?_)
  refine fp_A_25 C hw hc0 d_A_perform_17 (fun H locs hw => ?_)
  replace hw := HWe hw e17
  refine lv_iload hx hb d_A_perform_20 (lv_at hl 4 rfl) ?_
  by_cases b9 : p4 = 0
  · replace h := ifp b9 h
    refine lv_lookup (off := 26) (tgt := 48) hx hb d_A_perform_22 (by decide) (by rw [b9]; decide) (by decide) ?_
    refine lv_aload_n hx hb d_A_perform_48 rfl (lv_at hl 0 rfl) ?_
    refine lv_aload_n hx hb d_A_perform_49 rfl (lv_at hl 0 rfl) ?_
    refine fg_A_19 C hw hc0 d_A_perform_50 ?_
    refine lv_iload hx hb d_A_perform_53 (lv_at hl 5 rfl) ?_
    refine bnd h (fun q10 k11 h => ?_)
    refine clI C hw (invV (As := [.int (vI s8 c0 2), .int p5]) C hw ((fun g => cF_A_takesAs g 3) g c0 hc0 (vI s8 c0 2) p5 s8 q10 k11 l) rfl wc_A_28 nd_A_takesAs ⟨by decide, by decide⟩ (rc_A C hw hc0) rfl hl.1 rfl (Nat.le_of_ble_eq_true rfl) d_A_perform_55 ⟨Nat.le_refl _, Nat.le_refl _⟩) (fun H locs hw => ?_)
    exact retI C hw rfl (Option.some.inj h) d_A_perform_58
  · replace h := ifn b9 h
    by_cases b12 : p4 = 1
    · replace h := ifp b12 h
      refine lv_lookup (off := 37) (tgt := 59) hx hb d_A_perform_22 (by decide) (by rw [b12]; decide) (by decide) ?_
      refine lv_aload_n hx hb d_A_perform_59 rfl (lv_at hl 0 rfl) ?_
      refine lv_aload_n hx hb d_A_perform_60 rfl (lv_at hl 0 rfl) ?_
      refine fg_A_19 C hw hc0 d_A_perform_61 ?_
      refine lv_iload hx hb d_A_perform_64 (lv_at hl 5 rfl) ?_
      refine bnd h (fun q13 k14 h => ?_)
      refine clI C hw (invV (As := [.int (vI s8 c0 2), .int p5]) C hw ((fun g => cF_A_leavesAs g 4) g c0 hc0 (vI s8 c0 2) p5 s8 q13 k14 l) rfl wc_A_32 nd_A_leavesAs ⟨by decide, by decide⟩ (rc_A C hw hc0) rfl hl.1 rfl (Nat.le_of_ble_eq_true rfl) d_A_perform_66 ⟨Nat.le_refl _, Nat.le_refl _⟩) (fun H locs hw => ?_)
      exact retI C hw rfl (Option.some.inj h) d_A_perform_69
    · replace h := ifn b12 h
      refine lv_lookup (off := 48) (tgt := 70) hx hb d_A_perform_22 (by decide) ((lv_osw b9 (by decide)).trans ((lv_osw b12 (by decide)).trans (rfl))) (by decide) ?_
      refine lv_aload_n hx hb d_A_perform_70 rfl (lv_at hl 0 rfl) ?_
      refine lv_aload_n hx hb d_A_perform_71 rfl (lv_at hl 0 rfl) ?_
      refine fg_A_19 C hw hc0 d_A_perform_72 ?_
      refine lv_iload hx hb d_A_perform_75 (lv_at hl 5 rfl) ?_
      refine bnd h (fun q15 k16 h => ?_)
      refine clI C hw (invV (As := [.int (vI s8 c0 2), .int p5]) C hw ((fun g => cF_A_tellsAs g 3) g c0 hc0 (vI s8 c0 2) p5 s8 q15 k16 l) rfl wc_A_35 nd_A_tellsAs ⟨by decide, by decide⟩ (rc_A C hw hc0) rfl hl.1 rfl (Nat.le_of_ble_eq_true rfl) d_A_perform_77 ⟨Nat.le_refl _, Nat.le_refl _⟩) (fun H locs hw => ?_)
      exact retI C hw rfl (Option.some.inj h) d_A_perform_80
def f_T_become (c0 : Nat) (p1 : Int32) (p2 : Int32) (σ : St) : Option (St) := (st (sI σ c0 0 p1) fun s2 => (st (sI s2 c0 1 p2) fun s4 => ((f_jA_fill (c0 + 1) 0 s4).bind fun q5 => some q5)))
set_option maxHeartbeats 400000 in
set_option maxRecDepth 20000 in
theorem c_T_become (g : GX) (c0 : Nat) (hc0 : tg BX c0 16) (p1 : Int32) (p2 : Int32) (σ : St) (q : St) (h : f_T_become c0 p1 p2 σ = some q) (l : Launch) : CT BX l y_T_become (v_T_become :: lwG) 2 [.ref (g.2.1 c0), .int p1, .int p2] g σ (QV BX g q) := by
  refine mkC (cc := b_T_become) (maxL := 3) (ret := none) rfl (by decide) rfl (Nat.le_of_ble_eq_true rfl) ?_
  intro p e s m args below meth c A ls C hl hw
  obtain ⟨hx, hb, hr, hml, hown, hts, hK, hE, hA, hlk⟩ := id C
  replace hl : lv_has ls 3 [(0, .ref (g.2.1 c0)), (1, .int p1), (2, .int p2)] := hl
  obtain ⟨H, hH⟩ : ∃ z, z = s.heap := ⟨_, rfl⟩
  rw [← hH] at hw ⊢
  obtain ⟨locs, hlo⟩ : ∃ z : List Loc, z = [] := ⟨_, rfl⟩
  rw [← hlo] at hw ⊢
  unfold f_T_become at h
  refine lv_aload_n hx hb d_T_become_0 rfl (lv_at hl 0 rfl) ?_
  refine lv_iload_n hx hb d_T_become_1 rfl (lv_at hl 1 rfl) ?_
  refine ste h (fun s2 e8 h => ?_)
  refine fp_T_11 C hw hc0 d_T_become_2 (fun H locs hw => ?_)
  replace hw := HWe hw e8
  refine lv_aload_n hx hb d_T_become_5 rfl (lv_at hl 0 rfl) ?_
  refine lv_iload_n hx hb d_T_become_6 rfl (lv_at hl 2 rfl) ?_
  refine ste h (fun s4 e7 h => ?_)
  refine fp_T_15 C hw hc0 d_T_become_7 (fun H locs hw => ?_)
  replace hw := HWe hw e7
  refine lv_aload_n hx hb d_T_become_10 rfl (lv_at hl 0 rfl) ?_
  refine fg_T_18 C hw hc0 d_T_become_11 ?_
  refine lv_lconst (v := 0) hx hb d_T_become_14 (by decide) ?_
  refine bnd h (fun q5 k6 h => ?_)
  refine clV C hw (invS (As := [.ref (g.2.1 (c0 + 1)), .long 0]) C hw (c_jA_fill g (c0 + 1) (tT_1 hc0) 0 s4 q5 k6 l) rfl wc_T_22 nd_jA_fill.2 ⟨by decide, by decide⟩ rfl hl.1 rfl (Nat.le_of_ble_eq_true rfl) d_T_become_15 ⟨Nat.le_refl _, Nat.le_refl _⟩) (fun H locs hw => ?_)
  exact retV C hw rfl (Option.some.inj h) d_T_become_18
def f_X_isUnder_l4 : Nat → Int32 → Int32 → Int32 → St → Option ((Unit) ⊕ (Bool))
  | 0, _, _, _, _ => none
  | n + 1, x1, x2, x3, σ => (if 7 ≤ x3 then some (Sum.inl ()) else (if (f_X_inside x2 0 6) = false then some (Sum.inl ()) else (if x2 = x1 then some (Sum.inr true) else (if ok x2 7 = true then (f_X_isUnder_l4 n x1 (kAbove (nx x2)) (x3 + 1) σ) else none))))
def f_X_isUnder (p0 : Int32) (p1 : Int32) (σ : St) : Option (Bool) := ((f_X_isUnder_l4 FU p1 p0 0 σ).bind fun x_6 => Sum.elim (fun y8 => some false) (fun z => some z) x_6)
set_option maxHeartbeats 400000 in
set_option maxRecDepth 20000 in
theorem c_X_isUnder (g : GX) (p0 : Int32) (p1 : Int32) (σ : St) (q : Bool) (h : f_X_isUnder p0 p1 σ = some q) (l : Launch) : CT BX l y_X_isUnder (v_X_isUnder :: lwG) 2 [.int p0, .int p1] g σ (QZ BX g (q, σ)) := by
  refine mkC (cc := b_X_isUnder) (maxL := 4) (ret := (some .boolean)) rfl (by decide) rfl (Nat.le_of_ble_eq_true rfl) ?_
  intro p e s m args below meth c A ls C hl hw
  obtain ⟨hx, hb, hr, hml, hown, hts, hK, hE, hA, hlk⟩ := id C
  replace hl : lv_has ls 4 [(0, .int p0), (1, .int p1)] := hl
  obtain ⟨H, hH⟩ : ∃ z, z = s.heap := ⟨_, rfl⟩
  rw [← hH] at hw ⊢
  obtain ⟨locs, hlo⟩ : ∃ z : List Loc, z = [] := ⟨_, rfl⟩
  rw [← hlo] at hw ⊢
  unfold f_X_isUnder at h
  refine lv_iload_n hx hb d_X_isUnder_0 rfl (lv_at hl 0 rfl) ?_
  refine lv_istore_n (lv' := [(2, .int p0), (0, .int p0), (1, .int p1)]) hx hb d_X_isUnder_1 rfl hl (by decide) rfl (fun ls hl => ?_)
  refine lv_iconst (v := 0) hx hb d_X_isUnder_2 (by decide) ?_
  refine lv_istore_n (lv' := [(3, .int 0), (2, .int p0), (0, .int p0), (1, .int p1)]) hx hb d_X_isUnder_3 rfl hl (by decide) rfl (fun ls hl => ?_)
  have L1 : ∀ (x1 : Int32) (n : Nat) (x2 : Int32) (x3 : Int32) (σ : St) (H : Heap) (locs : List Loc) (ls : Array Slot), HW BX g A s σ H locs → lv_has ls 4 [(1, .int x1), (2, .int x2), (3, .int x3)] → ∀ (ex : (Unit) ⊕ (Bool)), f_X_isUnder_l4 n x1 x2 x3 σ = some ex → (∀ (y : Unit), ex = Sum.inl y → ∀ (H : Heap) (locs : List Loc) (ls : Array Slot), HW BX g A s σ H locs → lv_has ls 4 [] → W p l e (rmL 2) s m args below meth c H locs 0 0 (MQ below (QZ BX g (q, σ) A) args s 0 0 A) (F0 m 41 ls [])) → (∀ (z : Bool), ex = Sum.inr z → z = q) → W p l e (rmL 2) s m args below meth c H locs 0 0 (MQ below (QZ BX g (q, σ) A) args s 0 0 A) (F0 m 4 ls []) := by
    intro x1 n
    induction n with
    | zero =>
      intro x2 x3 σ H locs ls hw hl ex h kx1 kr1
      cases h
    | succ n ih =>
      intro x2 x3 σ H locs ls hw hl ex h kx1 kr1
      rw [f_X_isUnder_l4] at h
      refine lv_iload_n hx hb d_X_isUnder_4 rfl (lv_at hl 2 rfl) ?_
      refine va_gets hx hb (hE rfl).2.2.2.2.2.1 hw.2.2 hown (hts _ wj_k268) (fun _ h9 => h9) d_X_isUnder_5 ?_
      refine va_tlen (v := 7) hx hb (hE rfl).2.2.2.2.2.2 hw.2.2 (by decide) d_X_isUnder_8 ?_
      refine lv_icmp_ge (tgt := 41) hx hb d_X_isUnder_9 (by decide) (fun b2 => ?_) (fun b2 => ?_)
      · replace h := ifp b2 h
        exact kx1 _ (Option.some.inj h).symm H locs ls hw (lv_sub hl [] rfl)
      · replace h := ifn b2 h
        refine lv_iload_n hx hb d_X_isUnder_12 rfl (lv_at hl 1 rfl) ?_
        refine lv_iconst (v := 0) hx hb d_X_isUnder_13 (by decide) ?_
        refine lv_bipush (v := 6) hx hb d_X_isUnder_14 (by decide) ?_
        refine clZ0 (v := (f_X_inside x2 0 6)) C hw (invS (As := [.int x2, .int 0, .int 6]) C hw (c_X_inside g x2 0 6 σ l) rfl wc_X_83 nd_X_inside.2 ⟨by decide, by decide⟩ rfl hl.1 rfl (Nat.le_of_ble_eq_true rfl) d_X_isUnder_16 ⟨Nat.le_refl _, Nat.le_refl _⟩) (fun H locs hw => ?_)
        refine ifB (tgt := 41) C d_X_isUnder_19 (by decide) (fun b3 => ?_) (fun b3 => ?_)
        · replace h := ifp b3 h
          exact kx1 _ (Option.some.inj h).symm H locs ls hw (lv_sub hl [] rfl)
        · replace h := ifn b3 h
          refine lv_iload_n hx hb d_X_isUnder_22 rfl (lv_at hl 1 rfl) ?_
          refine lv_iload_n hx hb d_X_isUnder_23 rfl (lv_at hl 0 rfl) ?_
          refine lv_icmp_ne (tgt := 29) hx hb d_X_isUnder_24 (by decide) (fun b4 => ?_) (fun b4 => ?_)
          · replace h := ifn b4 h
            refine va_gets hx hb (hE rfl).2.2.2.2.2.1 hw.2.2 hown (hts _ wj_k268) (fun _ h9 => h9) d_X_isUnder_29 ?_
            refine lv_iload_n hx hb d_X_isUnder_32 rfl (lv_at hl 1 rfl) ?_
            refine gde h (fun g5 h => ?_)
            refine va_ti hx hb (hE rfl).2.2.2.2.2.2 hw.2.2 (ok_in g5) rfl d_X_isUnder_33 ?_
            refine lv_istore_n (lv' := [(2, .int (kAbove (nx x2))), (1, .int x1), (3, .int x3)]) hx hb d_X_isUnder_34 rfl hl (by decide) rfl (fun ls hl => ?_)
            refine lv_iinc (v := (x3 + 1)) (lv' := [(3, .int (x3 + 1)), (2, .int (kAbove (nx x2))), (1, .int x1)]) hx hb d_X_isUnder_35 hl (k := 2) rfl rfl (by decide) rfl (fun ls hl => ?_)
            refine lv_goto (tgt := 4) hx hb d_X_isUnder_38 (by decide) ?_
            exact ih (kAbove (nx x2)) (x3 + 1) σ H locs ls hw (lv_sub hl [2, 1, 0] rfl) ex h kx1 kr1
          · replace h := ifp b4 h
            refine lv_iconst (v := 1) hx hb d_X_isUnder_27 (by decide) ?_
            exact retZ (b := true) C hw rfl rfl (congrArg (fun z => (z, σ)) (kr1 _ (Option.some.inj h).symm)) d_X_isUnder_28
  refine bnd h (fun x_6 k7 h => ?_)
  refine L1 p1 FU p0 0 σ H locs ls hw (lv_sub hl [3, 1, 0] rfl) x_6 k7 (fun y8 e9 H locs ls hw hl => ?_) (fun z e9 => ?_)
  · rw [e9] at h
    replace h := sel h
    refine lv_iconst (v := 0) hx hb d_X_isUnder_41 (by decide) ?_
    exact retZ (b := false) C hw rfl rfl (congrArg (fun z => (z, σ)) (Option.some.inj h)) d_X_isUnder_42
  · rw [e9] at h
    replace h := ser h
    exact Option.some.inj h
def f_X_act (c0 : Nat) (p1 : Int32) (p2 : Int32) (p3 : Int32) (σ : St) : Option (Int32 × St) := (if (f_X_isTaker c0 p1 σ) = false then (st (sI σ 89 1 0) fun s3 => some (0, s3)) else (if (f_X_inside p2 0 2) = false then (st (sI σ 89 1 0) fun s11 => some (0, s11)) else (if ok p1 6 = true then (if ok p1 6 = true then ((f_A_perform 89 (vJ σ (49 + 1) (nx p1)) p1 (vJ σ (49 + 2) (nx p1)) p2 p3 σ).bind fun q8 => some (q8.1, q8.2)) else none) else none)))
set_option maxHeartbeats 400000 in
set_option maxRecDepth 20000 in
theorem c_X_act (g : GX) (c0 : Nat) (hc0 : tg BX c0 0) (p1 : Int32) (p2 : Int32) (p3 : Int32) (σ : St) (q : Int32 × St) (h : f_X_act c0 p1 p2 p3 σ = some q) (l : Launch) : CT BX l y_X_act (v_X_act :: lwG) 16 [.ref (g.2.1 c0), .int p1, .int p2, .int p3] g σ (QI BX g q) := by
  refine mkC (cc := b_X_act) (maxL := 4) (ret := (some .int)) rfl (by decide) rfl (Nat.le_of_ble_eq_true rfl) ?_
  intro p e s m args below meth c A ls C hl hw
  obtain ⟨hx, hb, hr, hml, hown, hts, hK, hE, hA, hlk⟩ := id C
  replace hl : lv_has ls 4 [(0, .ref (g.2.1 c0)), (1, .int p1), (2, .int p2), (3, .int p3)] := hl
  obtain ⟨H, hH⟩ : ∃ z, z = s.heap := ⟨_, rfl⟩
  rw [← hH] at hw ⊢
  obtain ⟨locs, hlo⟩ : ∃ z : List Loc, z = [] := ⟨_, rfl⟩
  rw [← hlo] at hw ⊢
  unfold f_X_act at h
  refine lv_aload_n hx hb d_X_act_0 rfl (lv_at hl 0 rfl) ?_
  refine lv_iload_n hx hb d_X_act_1 rfl (lv_at hl 1 rfl) ?_
  refine clZ0 (v := (f_X_isTaker c0 p1 σ)) C hw (invV (As := [.int p1]) C hw (c_X_isTaker g c0 hc0 p1 σ l) rfl wc_X_94 nd_X_isTaker ⟨by decide, by decide⟩ (rc_X C hw hc0) rfl hl.1 rfl (Nat.le_of_ble_eq_true rfl) d_X_act_2 ⟨Nat.le_refl _, Nat.le_refl _⟩) (fun H locs hw => ?_)
  refine ifB (tgt := 17) C d_X_act_5 (by decide) (fun b1 => ?_) (fun b1 => ?_)
  · replace h := ifp b1 h
    refine lv_aload_n hx hb d_X_act_17 rfl (lv_at hl 0 rfl) ?_
    refine fg_X_72 C hw hc0 d_X_act_18 ?_
    refine lv_iconst (v := 0) hx hb d_X_act_21 (by decide) ?_
    refine ste h (fun s3 e4 h => ?_)
    refine fp_X_238 C hw tX_89 d_X_act_22 (fun H locs hw => ?_)
    replace hw := HWe hw e4
    refine lv_iconst (v := 0) hx hb d_X_act_25 (by decide) ?_
    exact retI C hw rfl (Option.some.inj h) d_X_act_26
  · replace h := ifn b1 h
    refine lv_iload_n hx hb d_X_act_8 rfl (lv_at hl 2 rfl) ?_
    refine lv_iconst (v := 0) hx hb d_X_act_9 (by decide) ?_
    refine lv_iconst (v := 2) hx hb d_X_act_10 (by decide) ?_
    refine clZ0 (v := (f_X_inside p2 0 2)) C hw (invS (As := [.int p2, .int 0, .int 2]) C hw (c_X_inside g p2 0 2 σ l) rfl wc_X_83 nd_X_inside.2 ⟨by decide, by decide⟩ rfl hl.1 rfl (Nat.le_of_ble_eq_true rfl) d_X_act_11 ⟨Nat.le_refl _, Nat.le_refl _⟩) (fun H locs hw => ?_)
    refine ifnB (tgt := 27) C d_X_act_14 (by decide) (fun b5 => ?_) (fun b5 => ?_)
    · replace h := ifn b5 h
      refine lv_aload_n hx hb d_X_act_27 rfl (lv_at hl 0 rfl) ?_
      refine fg_X_72 C hw hc0 d_X_act_28 ?_
      refine lv_aload_n hx hb d_X_act_31 rfl (lv_at hl 0 rfl) ?_
      refine fg_X_23 C hw hc0 d_X_act_32 ?_
      refine fg_X_98 C hw tX_49 d_X_act_35 ?_
      refine lv_iload_n hx hb d_X_act_38 rfl (lv_at hl 1 rfl) ?_
      refine gde h (fun g6 h => ?_)
      refine ldI (n := 6) C hw (tK_1 tX_49) (by decide) g6 d_X_act_39 ?_
      refine lv_iload_n hx hb d_X_act_40 rfl (lv_at hl 1 rfl) ?_
      refine lv_aload_n hx hb d_X_act_41 rfl (lv_at hl 0 rfl) ?_
      refine fg_X_23 C hw hc0 d_X_act_42 ?_
      refine fg_X_101 C hw tX_49 d_X_act_45 ?_
      refine lv_iload_n hx hb d_X_act_48 rfl (lv_at hl 1 rfl) ?_
      refine gde h (fun g7 h => ?_)
      refine ldI (n := 6) C hw (tK_2 tX_49) (by decide) g7 d_X_act_49 ?_
      refine lv_iload_n hx hb d_X_act_50 rfl (lv_at hl 2 rfl) ?_
      refine lv_iload_n hx hb d_X_act_51 rfl (lv_at hl 3 rfl) ?_
      refine bnd h (fun q8 k9 h => ?_)
      refine clI C hw (invV (As := [.int (vJ σ (49 + 1) (nx p1)), .int p1, .int (vJ σ (49 + 2) (nx p1)), .int p2, .int p3]) C hw (c_A_perform g 89 tX_89 (vJ σ (49 + 1) (nx p1)) p1 (vJ σ (49 + 2) (nx p1)) p2 p3 σ q8 k9 l) rfl wc_X_241 nd_A_perform ⟨by decide, by decide⟩ (rc_A C hw tX_89) rfl hl.1 rfl (Nat.le_of_ble_eq_true rfl) d_X_act_52 ⟨Nat.le_refl _, Nat.le_refl _⟩) (fun H locs hw => ?_)
      exact retI C hw rfl (Option.some.inj h) d_X_act_55
    · replace h := ifp b5 h
      refine lv_aload_n hx hb d_X_act_17 rfl (lv_at hl 0 rfl) ?_
      refine fg_X_72 C hw hc0 d_X_act_18 ?_
      refine lv_iconst (v := 0) hx hb d_X_act_21 (by decide) ?_
      refine ste h (fun s11 e12 h => ?_)
      refine fp_X_238 C hw tX_89 d_X_act_22 (fun H locs hw => ?_)
      replace hw := HWe hw e12
      refine lv_iconst (v := 0) hx hb d_X_act_25 (by decide) ?_
      exact retI C hw rfl (Option.some.inj h) d_X_act_26
def f_X_taken (c0 : Nat) (p1 : Int32) (p2 : Int32) (σ : St) : Option (Int32) := (if (f_X_inside p2 0 6) = false then some (-2) else (if (f_X_isTaker c0 p1 σ) = false then some (-11) else (if ok p1 6 = true then ((f_X_isUnder (vJ σ (49 + 1) (nx p1)) p2 σ).bind fun q4 => (if q4 = false then some (-12) else (if ok p1 6 = true then some (vJ σ (49 + 1) (nx p1)) else none))) else none)))
set_option maxHeartbeats 400000 in
set_option maxRecDepth 20000 in
theorem c_X_taken (g : GX) (c0 : Nat) (hc0 : tg BX c0 0) (p1 : Int32) (p2 : Int32) (σ : St) (q : Int32) (h : f_X_taken c0 p1 p2 σ = some q) (l : Launch) : CT BX l y_X_taken (v_X_taken :: lwG) 3 [.ref (g.2.1 c0), .int p1, .int p2] g σ (QI BX g (q, σ)) := by
  refine mkC (cc := b_X_taken) (maxL := 3) (ret := (some .int)) rfl (by decide) rfl (Nat.le_of_ble_eq_true rfl) ?_
  intro p e s m args below meth c A ls C hl hw
  obtain ⟨hx, hb, hr, hml, hown, hts, hK, hE, hA, hlk⟩ := id C
  replace hl : lv_has ls 3 [(0, .ref (g.2.1 c0)), (1, .int p1), (2, .int p2)] := hl
  obtain ⟨H, hH⟩ : ∃ z, z = s.heap := ⟨_, rfl⟩
  rw [← hH] at hw ⊢
  obtain ⟨locs, hlo⟩ : ∃ z : List Loc, z = [] := ⟨_, rfl⟩
  rw [← hlo] at hw ⊢
  unfold f_X_taken at h
  refine lv_iload_n hx hb d_X_taken_0 rfl (lv_at hl 2 rfl) ?_
  refine lv_iconst (v := 0) hx hb d_X_taken_1 (by decide) ?_
  refine lv_bipush (v := 6) hx hb d_X_taken_2 (by decide) ?_
  refine clZ0 (v := (f_X_inside p2 0 6)) C hw (invS (As := [.int p2, .int 0, .int 6]) C hw (c_X_inside g p2 0 6 σ l) rfl wc_X_83 nd_X_inside.2 ⟨by decide, by decide⟩ rfl hl.1 rfl (Nat.le_of_ble_eq_true rfl) d_X_taken_4 ⟨Nat.le_refl _, Nat.le_refl _⟩) (fun H locs hw => ?_)
  refine ifnB (tgt := 13) C d_X_taken_7 (by decide) (fun b1 => ?_) (fun b1 => ?_)
  · replace h := ifn b1 h
    refine lv_aload_n hx hb d_X_taken_13 rfl (lv_at hl 0 rfl) ?_
    refine lv_iload_n hx hb d_X_taken_14 rfl (lv_at hl 1 rfl) ?_
    refine clZ0 (v := (f_X_isTaker c0 p1 σ)) C hw (invV (As := [.int p1]) C hw (c_X_isTaker g c0 hc0 p1 σ l) rfl wc_X_94 nd_X_isTaker ⟨by decide, by decide⟩ (rc_X C hw hc0) rfl hl.1 rfl (Nat.le_of_ble_eq_true rfl) d_X_taken_15 ⟨Nat.le_refl _, Nat.le_refl _⟩) (fun H locs hw => ?_)
    refine ifnB (tgt := 24) C d_X_taken_18 (by decide) (fun b2 => ?_) (fun b2 => ?_)
    · replace h := ifn b2 h
      refine lv_aload_n hx hb d_X_taken_24 rfl (lv_at hl 0 rfl) ?_
      refine fg_X_23 C hw hc0 d_X_taken_25 ?_
      refine fg_X_98 C hw tX_49 d_X_taken_28 ?_
      refine lv_iload_n hx hb d_X_taken_31 rfl (lv_at hl 1 rfl) ?_
      refine gde h (fun g3 h => ?_)
      refine ldI (n := 6) C hw (tK_1 tX_49) (by decide) g3 d_X_taken_32 ?_
      refine lv_iload_n hx hb d_X_taken_33 rfl (lv_at hl 2 rfl) ?_
      refine bnd h (fun q4 k5 h => ?_)
      refine clZ0 (v := q4) C hw (invS (As := [.int (vJ σ (49 + 1) (nx p1)), .int p2]) C hw (c_X_isUnder g (vJ σ (49 + 1) (nx p1)) p2 σ q4 k5 l) rfl wc_X_254 nd_X_isUnder.2 ⟨by decide, by decide⟩ rfl hl.1 rfl (Nat.le_of_ble_eq_true rfl) d_X_taken_34 ⟨Nat.le_refl _, Nat.le_refl _⟩) (fun H locs hw => ?_)
      refine ifB (tgt := 52) C d_X_taken_37 (by decide) (fun b6 => ?_) (fun b6 => ?_)
      · replace h := ifp b6 h
        refine lv_bipush (v := (-12)) hx hb d_X_taken_52 (by decide) ?_
        exact retI C hw rfl (congrArg (fun z => (z, σ)) (Option.some.inj h)) d_X_taken_54
      · replace h := ifn b6 h
        refine lv_aload_n hx hb d_X_taken_40 rfl (lv_at hl 0 rfl) ?_
        refine fg_X_23 C hw hc0 d_X_taken_41 ?_
        refine fg_X_98 C hw tX_49 d_X_taken_44 ?_
        refine lv_iload_n hx hb d_X_taken_47 rfl (lv_at hl 1 rfl) ?_
        refine gde h (fun g7 h => ?_)
        refine ldI (n := 6) C hw (tK_1 tX_49) (by decide) g7 d_X_taken_48 ?_
        refine lv_goto (tgt := 54) hx hb d_X_taken_49 (by decide) ?_
        exact retI C hw rfl (congrArg (fun z => (z, σ)) (Option.some.inj h)) d_X_taken_54
    · replace h := ifp b2 h
      refine lv_bipush (v := (-11)) hx hb d_X_taken_21 (by decide) ?_
      exact retI C hw rfl (congrArg (fun z => (z, σ)) (Option.some.inj h)) d_X_taken_23
  · replace h := ifp b1 h
    refine lv_bipush (v := (-2)) hx hb d_X_taken_10 (by decide) ?_
    exact retI C hw rfl (congrArg (fun z => (z, σ)) (Option.some.inj h)) d_X_taken_12
def f_X_tape (c0 : Nat) (p1 : Int32) (p2 : Int32) (p3 : Int32) (σ : St) : Option (Int32 × St) := (if (f_X_isTape p1) = false then some ((-1), σ) else (if p2 = (-1) then (if ok p1 6 = true then ((f_T_become (92 + 2 * nx p1) p2 0 σ).bind fun q10 => some (1, q10)) else none) else (if (f_X_inside p2 0 4) = false then some ((-2), σ) else (if p3 ≤ 60 then (if 0 ≤ p3 then (if ok p1 6 = true then ((f_T_become (92 + 2 * nx p1) p2 p3 σ).bind fun q7 => some (1, q7)) else none) else some ((-14), σ)) else some ((-2), σ)))))
set_option maxHeartbeats 400000 in
set_option maxRecDepth 20000 in
theorem c_X_tape (g : GX) (c0 : Nat) (hc0 : tg BX c0 0) (p1 : Int32) (p2 : Int32) (p3 : Int32) (σ : St) (q : Int32 × St) (h : f_X_tape c0 p1 p2 p3 σ = some q) (l : Launch) : CT BX l y_X_tape (v_X_tape :: lwG) 3 [.ref (g.2.1 c0), .int p1, .int p2, .int p3] g σ (QI BX g q) := by
  refine mkC (cc := b_X_tape) (maxL := 4) (ret := (some .int)) rfl (by decide) rfl (Nat.le_of_ble_eq_true rfl) ?_
  intro p e s m args below meth c A ls C hl hw
  obtain ⟨hx, hb, hr, hml, hown, hts, hK, hE, hA, hlk⟩ := id C
  replace hl : lv_has ls 4 [(0, .ref (g.2.1 c0)), (1, .int p1), (2, .int p2), (3, .int p3)] := hl
  obtain ⟨H, hH⟩ : ∃ z, z = s.heap := ⟨_, rfl⟩
  rw [← hH] at hw ⊢
  obtain ⟨locs, hlo⟩ : ∃ z : List Loc, z = [] := ⟨_, rfl⟩
  rw [← hlo] at hw ⊢
  unfold f_X_tape at h
  refine lv_iload_n hx hb d_X_tape_0 rfl (lv_at hl 1 rfl) ?_
  refine clZ0 (v := (f_X_isTape p1)) C hw (invS (As := [.int p1]) C hw (c_X_isTape g p1 σ l) rfl wc_X_221 nd_X_isTape.2 ⟨by decide, by decide⟩ rfl hl.1 rfl (Nat.le_of_ble_eq_true rfl) d_X_tape_1 ⟨Nat.le_refl _, Nat.le_refl _⟩) (fun H locs hw => ?_)
  refine ifnB (tgt := 9) C d_X_tape_4 (by decide) (fun b1 => ?_) (fun b1 => ?_)
  · replace h := ifn b1 h
    refine lv_iload_n hx hb d_X_tape_9 rfl (lv_at hl 2 rfl) ?_
    refine lv_iconst (v := (-1)) hx hb d_X_tape_10 (by decide) ?_
    refine lv_icmp_ne (tgt := 27) hx hb d_X_tape_11 (by decide) (fun b2 => ?_) (fun b2 => ?_)
    · replace h := ifn b2 h
      refine lv_iload_n hx hb d_X_tape_27 rfl (lv_at hl 2 rfl) ?_
      refine lv_iconst (v := 0) hx hb d_X_tape_28 (by decide) ?_
      refine lv_iconst (v := 4) hx hb d_X_tape_29 (by decide) ?_
      refine clZ0 (v := (f_X_inside p2 0 4)) C hw (invS (As := [.int p2, .int 0, .int 4]) C hw (c_X_inside g p2 0 4 σ l) rfl wc_X_83 nd_X_inside.2 ⟨by decide, by decide⟩ rfl hl.1 rfl (Nat.le_of_ble_eq_true rfl) d_X_tape_30 ⟨Nat.le_refl _, Nat.le_refl _⟩) (fun H locs hw => ?_)
      refine ifB (tgt := 42) C d_X_tape_33 (by decide) (fun b3 => ?_) (fun b3 => ?_)
      · replace h := ifp b3 h
        refine lv_bipush (v := (-2)) hx hb d_X_tape_42 (by decide) ?_
        exact retI C hw rfl (Option.some.inj h) d_X_tape_44
      · replace h := ifn b3 h
        refine lv_iload_n hx hb d_X_tape_36 rfl (lv_at hl 3 rfl) ?_
        refine lv_bipush (v := 60) hx hb d_X_tape_37 (by decide) ?_
        refine lv_icmp_le (tgt := 45) hx hb d_X_tape_39 (by decide) (fun b4 => ?_) (fun b4 => ?_)
        · replace h := ifp b4 h
          refine lv_iload_n hx hb d_X_tape_45 rfl (lv_at hl 3 rfl) ?_
          refine lv_if_ge (tgt := 52) hx hb d_X_tape_46 (by decide) (fun b5 => ?_) (fun b5 => ?_)
          · replace h := ifp b5 h
            refine lv_aload_n hx hb d_X_tape_52 rfl (lv_at hl 0 rfl) ?_
            refine fg_X_78 C hw hc0 d_X_tape_53 ?_
            refine lv_iload_n hx hb d_X_tape_56 rfl (lv_at hl 1 rfl) ?_
            refine gde h (fun g6 h => ?_)
            refine ldT C hw tX_91 g6 d_X_tape_57 ?_
            refine lv_iload_n hx hb d_X_tape_58 rfl (lv_at hl 2 rfl) ?_
            refine lv_iload_n hx hb d_X_tape_59 rfl (lv_at hl 3 rfl) ?_
            refine bnd h (fun q7 k8 h => ?_)
            refine clV C hw (invV (As := [.int p2, .int p3]) C hw (c_T_become g (92 + 2 * nx p1) (tTi g6) p2 p3 σ q7 k8 l) rfl wc_X_258 nd_T_become ⟨by decide, by decide⟩ (rc_T C hw (tTi g6)) rfl hl.1 rfl (Nat.le_of_ble_eq_true rfl) d_X_tape_60 ⟨Nat.le_refl _, Nat.le_refl _⟩) (fun H locs hw => ?_)
            refine lv_iconst (v := 1) hx hb d_X_tape_63 (by decide) ?_
            exact retI C hw rfl (Option.some.inj h) d_X_tape_64
          · replace h := ifn b5 h
            refine lv_bipush (v := (-14)) hx hb d_X_tape_49 (by decide) ?_
            exact retI C hw rfl (Option.some.inj h) d_X_tape_51
        · replace h := ifn b4 h
          refine lv_bipush (v := (-2)) hx hb d_X_tape_42 (by decide) ?_
          exact retI C hw rfl (Option.some.inj h) d_X_tape_44
    · replace h := ifp b2 h
      refine lv_aload_n hx hb d_X_tape_14 rfl (lv_at hl 0 rfl) ?_
      refine fg_X_78 C hw hc0 d_X_tape_15 ?_
      refine lv_iload_n hx hb d_X_tape_18 rfl (lv_at hl 1 rfl) ?_
      refine gde h (fun g9 h => ?_)
      refine ldT C hw tX_91 g9 d_X_tape_19 ?_
      refine lv_iload_n hx hb d_X_tape_20 rfl (lv_at hl 2 rfl) ?_
      refine lv_iconst (v := 0) hx hb d_X_tape_21 (by decide) ?_
      refine bnd h (fun q10 k11 h => ?_)
      refine clV C hw (invV (As := [.int p2, .int 0]) C hw (c_T_become g (92 + 2 * nx p1) (tTi g9) p2 0 σ q10 k11 l) rfl wc_X_258 nd_T_become ⟨by decide, by decide⟩ (rc_T C hw (tTi g9)) rfl hl.1 rfl (Nat.le_of_ble_eq_true rfl) d_X_tape_22 ⟨Nat.le_refl _, Nat.le_refl _⟩) (fun H locs hw => ?_)
      refine lv_iconst (v := 1) hx hb d_X_tape_25 (by decide) ?_
      exact retI C hw rfl (Option.some.inj h) d_X_tape_26
  · replace h := ifp b1 h
    refine lv_iconst (v := (-1)) hx hb d_X_tape_7 (by decide) ?_
    exact retI C hw rfl (Option.some.inj h) d_X_tape_8
def f_X_rule (c0 : Nat) (σ : St) : Option (Int32 × St) := (if (vI σ c0 9) < 6 then (if ok (vI σ c0 9) 6 = true then ((f_E_understands 84 (7 + 6 * nx (vI σ c0 9)) σ).bind fun q3 => (st (sI q3.2 84 1 0) fun s6 => (if q3.1 = false then some (((-10) - (vI s6 84 2)), s6) else ((f_K_hold 49 (7 + 6 * nx (vI σ c0 9)) s6).bind fun q8 => (st (sI q8 c0 9 ((vI q8 c0 9) + 1)) fun s11 => some (((vI s11 c0 9) - 1), s11)))))) else none) else some ((-4), σ))
set_option maxHeartbeats 400000 in
set_option maxRecDepth 20000 in
theorem c_X_rule (g : GX) (c0 : Nat) (hc0 : tg BX c0 0) (σ : St) (q : Int32 × St) (h : f_X_rule c0 σ = some q) (l : Launch) : CT BX l y_X_rule (v_X_rule :: lwG) 21 [.ref (g.2.1 c0)] g σ (QI BX g q) := by
  refine mkC (cc := b_X_rule) (maxL := 3) (ret := (some .int)) rfl (by decide) rfl (Nat.le_of_ble_eq_true rfl) ?_
  intro p e s m args below meth c A ls C hl hw
  obtain ⟨hx, hb, hr, hml, hown, hts, hK, hE, hA, hlk⟩ := id C
  replace hl : lv_has ls 3 [(0, .ref (g.2.1 c0))] := hl
  obtain ⟨H, hH⟩ : ∃ z, z = s.heap := ⟨_, rfl⟩
  rw [← hH] at hw ⊢
  obtain ⟨locs, hlo⟩ : ∃ z : List Loc, z = [] := ⟨_, rfl⟩
  rw [← hlo] at hw ⊢
  unfold f_X_rule at h
  refine lv_aload_n hx hb d_X_rule_0 rfl (lv_at hl 0 rfl) ?_
  refine fg_X_58 C hw hc0 d_X_rule_1 ?_
  refine lv_bipush (v := 6) hx hb d_X_rule_4 (by decide) ?_
  refine lv_icmp_lt (tgt := 12) hx hb d_X_rule_6 (by decide) (fun b1 => ?_) (fun b1 => ?_)
  · replace h := ifp b1 h
    refine lv_aload_n hx hb d_X_rule_12 rfl (lv_at hl 0 rfl) ?_
    refine fg_X_54 C hw hc0 d_X_rule_13 ?_
    refine lv_aload_n hx hb d_X_rule_16 rfl (lv_at hl 0 rfl) ?_
    refine fg_X_58 C hw hc0 d_X_rule_17 ?_
    refine gde h (fun g2 h => ?_)
    refine ldR C hw tX_86 g2 d_X_rule_20 ?_
    refine lv_astore_n (lv' := [(1, .ref (g.2.1 (7 + 6 * nx (vI σ c0 9)))), (0, .ref (g.2.1 c0))]) hx hb d_X_rule_21 rfl hl (by decide) rfl (fun ls hl => ?_)
    refine lv_aload_n hx hb d_X_rule_22 rfl (lv_at hl 1 rfl) ?_
    refine fg_X_50 C hw hc0 d_X_rule_23 ?_
    refine lv_aload_n hx hb d_X_rule_26 rfl (lv_at hl 0 rfl) ?_
    refine bnd h (fun q3 k4 h => ?_)
    refine clZ C hw (invV (As := [.ref (g.2.1 (7 + 6 * nx (vI σ c0 9)))]) C hw (c_E_understands g 84 tX_84 (7 + 6 * nx (vI σ c0 9)) (tRi g2) σ q3 k4 l) rfl wc_X_136 nd_E_understands ⟨by decide, by decide⟩ (rc_E C hw tX_84) rfl hl.1 rfl (Nat.le_of_ble_eq_true rfl) d_X_rule_27 ⟨Nat.le_refl _, Nat.le_refl _⟩) (fun H locs hw => ?_)
    refine lv_istore_n (lv' := [(2, .int (b2i q3.1)), (1, .ref (g.2.1 (7 + 6 * nx (vI σ c0 9)))), (0, .ref (g.2.1 c0))]) hx hb d_X_rule_30 rfl hl (by decide) rfl (fun ls hl => ?_)
    refine lv_aload_n hx hb d_X_rule_31 rfl (lv_at hl 2 rfl) ?_
    refine fg_X_50 C hw hc0 d_X_rule_32 ?_
    refine lv_iconst (v := 0) hx hb d_X_rule_35 (by decide) ?_
    refine ste h (fun s6 e13 h => ?_)
    refine fp_X_129 C hw tX_84 d_X_rule_36 (fun H locs hw => ?_)
    replace hw := HWe hw e13
    refine lv_iload_n hx hb d_X_rule_39 rfl (lv_at hl 0 rfl) ?_
    refine ifnB (tgt := 54) C d_X_rule_40 (by decide) (fun b7 => ?_) (fun b7 => ?_)
    · replace h := ifn b7 h
      refine lv_aload_n hx hb d_X_rule_54 rfl (lv_at hl 2 rfl) ?_
      refine fg_X_23 C hw hc0 d_X_rule_55 ?_
      refine lv_aload_n hx hb d_X_rule_58 rfl (lv_at hl 1 rfl) ?_
      refine bnd h (fun q8 k9 h => ?_)
      refine clV C hw (invV (As := [.ref (g.2.1 (7 + 6 * nx (vI σ c0 9)))]) C hw (c_K_hold g 49 tX_49 (7 + 6 * nx (vI σ c0 9)) (tRi g2) s6 q8 k9 l) rfl wc_X_143 nd_K_hold ⟨by decide, by decide⟩ (rc_K C hw tX_49) rfl hl.1 rfl (Nat.le_of_ble_eq_true rfl) d_X_rule_59 ⟨Nat.le_refl _, Nat.le_refl _⟩) (fun H locs hw => ?_)
      refine lv_aload_n hx hb d_X_rule_62 rfl (lv_at hl 2 rfl) ?_
      refine lv_dup hx hb d_X_rule_63 rfl ?_
      refine fg_X_58 C hw hc0 d_X_rule_64 ?_
      refine lv_iconst (v := 1) hx hb d_X_rule_67 (by decide) ?_
      refine lv_iadd hx hb d_X_rule_68 ?_
      refine ste h (fun s11 e12 h => ?_)
      refine fp_X_58 C hw hc0 d_X_rule_69 (fun H locs hw => ?_)
      replace hw := HWe hw e12
      refine lv_aload_n hx hb d_X_rule_72 rfl (lv_at hl 2 rfl) ?_
      refine fg_X_58 C hw hc0 d_X_rule_73 ?_
      refine lv_iconst (v := 1) hx hb d_X_rule_76 (by decide) ?_
      refine lv_isub hx hb d_X_rule_77 ?_
      exact retI C hw rfl (Option.some.inj h) d_X_rule_78
    · replace h := ifp b7 h
      refine lv_bipush (v := (-10)) hx hb d_X_rule_43 (by decide) ?_
      refine lv_aload_n hx hb d_X_rule_45 rfl (lv_at hl 2 rfl) ?_
      refine fg_X_50 C hw hc0 d_X_rule_46 ?_
      refine fg_X_140 C hw tX_84 d_X_rule_49 ?_
      refine lv_isub hx hb d_X_rule_52 ?_
      exact retI C hw rfl (Option.some.inj h) d_X_rule_53
  · replace h := ifn b1 h
    refine lv_bipush (v := (-4)) hx hb d_X_rule_9 (by decide) ?_
    exact retI C hw rfl (Option.some.inj h) d_X_rule_11
