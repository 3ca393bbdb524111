/-! ===== read off the bytecode by a program: each method as a function, and its walk ===== -/
def f_M_image_l55 : Nat → Nat → Int32 → St → Option (St)
  | 0, _, _, _ => none
  | n + 1, c0, x1, σ => (if 6 ≤ x1 then some σ else (if ok x1 6 = true then (if ok x1 6 = true then (st (sJ σ 26 (upd (vJ σ 26) (nx x1) (vJ σ 1 (nx x1)))) fun s19 => (if ok x1 6 = true then (if ok x1 6 = true then (st (sJ s19 27 (upd (vJ s19 27) (nx x1) (vJ s19 2 (nx x1)))) fun s22 => (if ok x1 6 = true then (if ok x1 6 = true then (st (sJ s22 28 (upd (vJ s22 28) (nx x1) (vJ s22 3 (nx x1)))) fun s25 => (if ok x1 6 = true then (if ok x1 6 = true then (st (sJ s25 29 (upd (vJ s25 29) (nx x1) (vJ s25 4 (nx x1)))) fun s28 => (if ok x1 6 = true then (if ok x1 6 = true then (st (sJ s28 30 (upd (vJ s28 30) (nx x1) (vJ s28 5 (nx x1)))) fun s31 => (if ok x1 6 = true then (if ok x1 6 = true then (st (sJ s31 31 (upd (vJ s31 31) (nx x1) (vJ s31 6 (nx x1)))) fun s34 => (if ok x1 6 = true then (if ok x1 6 = true then (st (sJ s34 33 (upd (vJ s34 33) (nx x1) (vJ s34 23 (nx x1)))) fun s37 => (if ok x1 6 = true then (if ok x1 6 = true then (st (sJ s37 34 (upd (vJ s37 34) (nx x1) (vJ s37 24 (nx x1)))) fun s40 => (f_M_image_l55 n c0 (x1 + 1) s40)) else none) else none)) else none) else none)) else none) else none)) else none) else none)) else none) else none)) else none) else none)) else none) else none)) else none) else none))
def f_M_image_l165 : Nat → Nat → Int32 → St → Option (St)
  | 0, _, _, _ => none
  | n + 1, c0, x1, σ => (if 24 ≤ x1 then some σ else (if ok x1 24 = true then (if ok x1 24 = true then (st (sJ σ 32 (upd (vJ σ 32) (nx x1) (vJ σ 7 (nx x1)))) fun s56 => (f_M_image_l165 n c0 (x1 + 1) s56)) else none) else none))
def f_M_image_l191 : Nat → Nat → Int32 → St → Option (St)
  | 0, _, _, _ => none
  | n + 1, c0, x1, σ => (if 12 ≤ x1 then some σ else (if ok x1 12 = true then (if ok x1 12 = true then (st (sJ σ 35 (upd (vJ σ 35) (nx x1) (vJ σ 25 (nx x1)))) fun s65 => (f_M_image_l191 n c0 (x1 + 1) s65)) else none) else none))
def f_M_image (c0 : Nat) (σ : St) : Option (Int32 × St) := (st (sI σ c0 45 1) fun s2 => (st (sI s2 c0 46 (vI s2 c0 11)) fun s4 => (st (sI s4 c0 47 (vI s4 c0 0)) fun s6 => (st (sI s6 c0 48 (vI s6 c0 1)) fun s8 => (st (sI s8 c0 49 (vI s8 c0 2)) fun s10 => (st (sI s10 c0 50 (vI s10 c0 40)) fun s12 => (st (sI s12 c0 51 (vI s12 c0 43)) fun s14 => ((f_M_image_l55 FU c0 0 s14).bind fun x_49 => ((f_M_image_l165 FU c0 0 x_49).bind fun x_58 => ((f_M_image_l191 FU c0 0 x_58).bind fun x_67 => some ((vI x_67 c0 0), x_67)))))))))))
set_option maxHeartbeats 400000 in
set_option maxRecDepth 20000 in
theorem c_M_image (g : GX) (c0 : Nat) (hc0 : tg BM c0 20) (σ : St) (q : Int32 × St) (h : f_M_image c0 σ = some q) (l : Launch) : CT BM l y_M_image (v_M_image :: lwG) 1 [.ref (g.2.1 c0)] g σ (QI BM g q) := by
  refine mkC (cc := b_M_image) (maxL := 2) (ret := (some .int)) rfl (by decide) rfl (Nat.le_of_ble_eq_true rfl) ?_
  intro p e s m args below meth c A ls C hl hw
  obtain ⟨hx, hb, hr, hml, hown, hts, hK, hE, hA, hlk⟩ := id C
  replace hl : lv_has ls 2 [(0, .ref (g.2.1 c0))] := hl
  obtain ⟨H, hH⟩ : ∃ z, z = s.heap := ⟨_, rfl⟩
  rw [← hH] at hw ⊢
  obtain ⟨locs, hlo⟩ : ∃ z : List Loc, z = [] := ⟨_, rfl⟩
  rw [← hlo] at hw ⊢
  unfold f_M_image at h
  refine lv_aload_n hx hb d_M_image_0 rfl (lv_at hl 0 rfl) ?_
  refine lv_iconst (v := 1) hx hb d_M_image_1 (by decide) ?_
  refine ste h (fun s2 e82 h => ?_)
  refine fp_M_147 C hw hc0 (by decide) d_M_image_2 (fun H locs hw => ?_)
  replace hw := HWe hw e82
  refine lv_aload_n hx hb d_M_image_5 rfl (lv_at hl 0 rfl) ?_
  refine lv_aload_n hx hb d_M_image_6 rfl (lv_at hl 0 rfl) ?_
  refine fg_M_44 C hw hc0 d_M_image_7 ?_
  refine ste h (fun s4 e81 h => ?_)
  refine fp_M_151 C hw hc0 d_M_image_10 (fun H locs hw => ?_)
  replace hw := HWe hw e81
  refine lv_aload_n hx hb d_M_image_13 rfl (lv_at hl 0 rfl) ?_
  refine lv_aload_n hx hb d_M_image_14 rfl (lv_at hl 0 rfl) ?_
  refine fg_M_7 C hw hc0 d_M_image_15 ?_
  refine ste h (fun s6 e80 h => ?_)
  refine fp_M_154 C hw hc0 d_M_image_18 (fun H locs hw => ?_)
  replace hw := HWe hw e80
  refine lv_aload_n hx hb d_M_image_21 rfl (lv_at hl 0 rfl) ?_
  refine lv_aload_n hx hb d_M_image_22 rfl (lv_at hl 0 rfl) ?_
  refine fg_M_13 C hw hc0 d_M_image_23 ?_
  refine ste h (fun s8 e79 h => ?_)
  refine fp_M_157 C hw hc0 d_M_image_26 (fun H locs hw => ?_)
  replace hw := HWe hw e79
  refine lv_aload_n hx hb d_M_image_29 rfl (lv_at hl 0 rfl) ?_
  refine lv_aload_n hx hb d_M_image_30 rfl (lv_at hl 0 rfl) ?_
  refine fg_M_16 C hw hc0 d_M_image_31 ?_
  refine ste h (fun s10 e78 h => ?_)
  refine fp_M_160 C hw hc0 d_M_image_34 (fun H locs hw => ?_)
  replace hw := HWe hw e78
  refine lv_aload_n hx hb d_M_image_37 rfl (lv_at hl 0 rfl) ?_
  refine lv_aload_n hx hb d_M_image_38 rfl (lv_at hl 0 rfl) ?_
  refine fg_M_132 C hw hc0 d_M_image_39 ?_
  refine ste h (fun s12 e77 h => ?_)
  refine fp_M_163 C hw hc0 d_M_image_42 (fun H locs hw => ?_)
  replace hw := HWe hw e77
  refine lv_aload_n hx hb d_M_image_45 rfl (lv_at hl 0 rfl) ?_
  refine lv_aload_n hx hb d_M_image_46 rfl (lv_at hl 0 rfl) ?_
  refine fg_M_141 C hw hc0 d_M_image_47 ?_
  refine ste h (fun s14 e76 h => ?_)
  refine fp_M_166 C hw hc0 d_M_image_50 (fun H locs hw => ?_)
  replace hw := HWe hw e76
  refine lv_iconst (v := 0) hx hb d_M_image_53 (by decide) ?_
  refine lv_istore_n (lv' := [(1, .int 0), (0, .ref (g.2.1 c0))]) hx hb d_M_image_54 rfl hl (by decide) rfl (fun ls hl => ?_)
  have L15 : ∀ (c0 : Nat) (hc0 : tg BM c0 20) (n : Nat) (x1 : Int32) (σ : St) (H : Heap) (locs : List Loc) (ls : Array Slot), HW BM g A s σ H locs → lv_has ls 2 [(0, .ref (g.2.1 c0)), (1, .int x1)] → ∀ (ex : St), f_M_image_l55 n c0 x1 σ = some ex → (∀ (y : St), ex = y → ∀ (H : Heap) (locs : List Loc) (ls : Array Slot), HW BM g A s y H locs → lv_has ls 2 [(0, .ref (g.2.1 c0))] → W p l e (rmL 1) s m args below meth c H locs 0 0 (MQ below (QI BM g q A) args s 0 0 A) (F0 m 163 ls [])) → (True) → W p l e (rmL 1) s m args below meth c H locs 0 0 (MQ below (QI BM g q A) args s 0 0 A) (F0 m 55 ls []) := by
    intro c0 hc0 n
    induction n with
    | zero =>
      intro x1 σ H locs ls hw hl ex h kx15 kr15
      cases h
    | succ n ih =>
      intro x1 σ H locs ls hw hl ex h kx15 kr15
      rw [f_M_image_l55] at h
      refine lv_iload_n hx hb d_M_image_55 rfl (lv_at hl 1 rfl) ?_
      refine lv_bipush (v := 6) hx hb d_M_image_56 (by decide) ?_
      refine lv_icmp_ge (tgt := 163) hx hb d_M_image_58 (by decide) (fun b16 => ?_) (fun b16 => ?_)
      · replace h := ifp b16 h
        exact kx15 _ (Option.some.inj h).symm H locs ls hw (lv_sub hl [0] rfl)
      · replace h := ifn b16 h
        refine lv_aload_n hx hb d_M_image_61 rfl (lv_at hl 0 rfl) ?_
        refine fg_M_169 C hw hc0 d_M_image_62 ?_
        refine lv_iload_n hx hb d_M_image_65 rfl (lv_at hl 1 rfl) ?_
        refine lv_aload_n hx hb d_M_image_66 rfl (lv_at hl 0 rfl) ?_
        refine fg_M_19 C hw hc0 d_M_image_67 ?_
        refine lv_iload_n hx hb d_M_image_70 rfl (lv_at hl 1 rfl) ?_
        refine gde h (fun g17 h => ?_)
        refine ldI (n := 6) C hw tM_1 (by decide) g17 d_M_image_71 ?_
        refine gde h (fun g18 h => ?_)
        refine ste h (fun s19 e48 h => ?_)
        refine stI (n := 6) C hw tM_26 (by decide) g18 d_M_image_72 (fun H locs hw => ?_)
        replace hw := HWe hw e48
        refine lv_aload_n hx hb d_M_image_73 rfl (lv_at hl 0 rfl) ?_
        refine fg_M_172 C hw hc0 d_M_image_74 ?_
        refine lv_iload_n hx hb d_M_image_77 rfl (lv_at hl 1 rfl) ?_
        refine lv_aload_n hx hb d_M_image_78 rfl (lv_at hl 0 rfl) ?_
        refine fg_M_23 C hw hc0 d_M_image_79 ?_
        refine lv_iload_n hx hb d_M_image_82 rfl (lv_at hl 1 rfl) ?_
        refine gde h (fun g20 h => ?_)
        refine ldI (n := 6) C hw tM_2 (by decide) g20 d_M_image_83 ?_
        refine gde h (fun g21 h => ?_)
        refine ste h (fun s22 e47 h => ?_)
        refine stI (n := 6) C hw tM_27 (by decide) g21 d_M_image_84 (fun H locs hw => ?_)
        replace hw := HWe hw e47
        refine lv_aload_n hx hb d_M_image_85 rfl (lv_at hl 0 rfl) ?_
        refine fg_M_175 C hw hc0 d_M_image_86 ?_
        refine lv_iload_n hx hb d_M_image_89 rfl (lv_at hl 1 rfl) ?_
        refine lv_aload_n hx hb d_M_image_90 rfl (lv_at hl 0 rfl) ?_
        refine fg_M_26 C hw hc0 d_M_image_91 ?_
        refine lv_iload_n hx hb d_M_image_94 rfl (lv_at hl 1 rfl) ?_
        refine gde h (fun g23 h => ?_)
        refine ldI (n := 6) C hw tM_3 (by decide) g23 d_M_image_95 ?_
        refine gde h (fun g24 h => ?_)
        refine ste h (fun s25 e46 h => ?_)
        refine stI (n := 6) C hw tM_28 (by decide) g24 d_M_image_96 (fun H locs hw => ?_)
        replace hw := HWe hw e46
        refine lv_aload_n hx hb d_M_image_97 rfl (lv_at hl 0 rfl) ?_
        refine fg_M_178 C hw hc0 d_M_image_98 ?_
        refine lv_iload_n hx hb d_M_image_101 rfl (lv_at hl 1 rfl) ?_
        refine lv_aload_n hx hb d_M_image_102 rfl (lv_at hl 0 rfl) ?_
        refine fg_M_29 C hw hc0 d_M_image_103 ?_
        refine lv_iload_n hx hb d_M_image_106 rfl (lv_at hl 1 rfl) ?_
        refine gde h (fun g26 h => ?_)
        refine ldI (n := 6) C hw tM_4 (by decide) g26 d_M_image_107 ?_
        refine gde h (fun g27 h => ?_)
        refine ste h (fun s28 e45 h => ?_)
        refine stI (n := 6) C hw tM_29 (by decide) g27 d_M_image_108 (fun H locs hw => ?_)
        replace hw := HWe hw e45
        refine lv_aload_n hx hb d_M_image_109 rfl (lv_at hl 0 rfl) ?_
        refine fg_M_181 C hw hc0 d_M_image_110 ?_
        refine lv_iload_n hx hb d_M_image_113 rfl (lv_at hl 1 rfl) ?_
        refine lv_aload_n hx hb d_M_image_114 rfl (lv_at hl 0 rfl) ?_
        refine fg_M_32 C hw hc0 d_M_image_115 ?_
        refine lv_iload_n hx hb d_M_image_118 rfl (lv_at hl 1 rfl) ?_
        refine gde h (fun g29 h => ?_)
        refine ldI (n := 6) C hw tM_5 (by decide) g29 d_M_image_119 ?_
        refine gde h (fun g30 h => ?_)
        refine ste h (fun s31 e44 h => ?_)
        refine stI (n := 6) C hw tM_30 (by decide) g30 d_M_image_120 (fun H locs hw => ?_)
        replace hw := HWe hw e44
        refine lv_aload_n hx hb d_M_image_121 rfl (lv_at hl 0 rfl) ?_
        refine fg_M_184 C hw hc0 d_M_image_122 ?_
        refine lv_iload_n hx hb d_M_image_125 rfl (lv_at hl 1 rfl) ?_
        refine lv_aload_n hx hb d_M_image_126 rfl (lv_at hl 0 rfl) ?_
        refine fg_M_35 C hw hc0 d_M_image_127 ?_
        refine lv_iload_n hx hb d_M_image_130 rfl (lv_at hl 1 rfl) ?_
        refine gde h (fun g32 h => ?_)
        refine ldI (n := 6) C hw tM_6 (by decide) g32 d_M_image_131 ?_
        refine gde h (fun g33 h => ?_)
        refine ste h (fun s34 e43 h => ?_)
        refine stI (n := 6) C hw tM_31 (by decide) g33 d_M_image_132 (fun H locs hw => ?_)
        replace hw := HWe hw e43
        refine lv_aload_n hx hb d_M_image_133 rfl (lv_at hl 0 rfl) ?_
        refine fg_M_190 C hw hc0 d_M_image_134 ?_
        refine lv_iload_n hx hb d_M_image_137 rfl (lv_at hl 1 rfl) ?_
        refine lv_aload_n hx hb d_M_image_138 rfl (lv_at hl 0 rfl) ?_
        refine fg_M_135 C hw hc0 d_M_image_139 ?_
        refine lv_iload_n hx hb d_M_image_142 rfl (lv_at hl 1 rfl) ?_
        refine gde h (fun g35 h => ?_)
        refine ldI (n := 6) C hw tM_23 (by decide) g35 d_M_image_143 ?_
        refine gde h (fun g36 h => ?_)
        refine ste h (fun s37 e42 h => ?_)
        refine stI (n := 6) C hw tM_33 (by decide) g36 d_M_image_144 (fun H locs hw => ?_)
        replace hw := HWe hw e42
        refine lv_aload_n hx hb d_M_image_145 rfl (lv_at hl 0 rfl) ?_
        refine fg_M_193 C hw hc0 d_M_image_146 ?_
        refine lv_iload_n hx hb d_M_image_149 rfl (lv_at hl 1 rfl) ?_
        refine lv_aload_n hx hb d_M_image_150 rfl (lv_at hl 0 rfl) ?_
        refine fg_M_138 C hw hc0 d_M_image_151 ?_
        refine lv_iload_n hx hb d_M_image_154 rfl (lv_at hl 1 rfl) ?_
        refine gde h (fun g38 h => ?_)
        refine ldI (n := 6) C hw tM_24 (by decide) g38 d_M_image_155 ?_
        refine gde h (fun g39 h => ?_)
        refine ste h (fun s40 e41 h => ?_)
        refine stI (n := 6) C hw tM_34 (by decide) g39 d_M_image_156 (fun H locs hw => ?_)
        replace hw := HWe hw e41
        refine lv_iinc (v := (x1 + 1)) (lv' := [(1, .int (x1 + 1)), (0, .ref (g.2.1 c0))]) hx hb d_M_image_157 hl (k := 1) rfl rfl (by decide) rfl (fun ls hl => ?_)
        refine lv_goto (tgt := 55) hx hb d_M_image_160 (by decide) ?_
        exact ih (x1 + 1) s40 H locs ls hw (lv_sub hl [1, 0] rfl) ex h kx15 kr15
  refine bnd h (fun x_49 k50 h => ?_)
  refine L15 c0 hc0 FU 0 s14 H locs ls hw (lv_sub hl [1, 0] rfl) x_49 k50 (fun y74 e75 H locs ls hw hl => ?_) trivial
  subst e75
  refine lv_iconst (v := 0) hx hb d_M_image_163 (by decide) ?_
  refine lv_istore_n (lv' := [(1, .int 0), (0, .ref (g.2.1 c0))]) hx hb d_M_image_164 rfl hl (by decide) rfl (fun ls hl => ?_)
  have L52 : ∀ (c0 : Nat) (hc0 : tg BM c0 20) (n : Nat) (x1 : Int32) (σ : St) (H : Heap) (locs : List Loc) (ls : Array Slot), HW BM g A s σ H locs → lv_has ls 2 [(0, .ref (g.2.1 c0)), (1, .int x1)] → ∀ (ex : St), f_M_image_l165 n c0 x1 σ = some ex → (∀ (y : St), ex = y → ∀ (H : Heap) (locs : List Loc) (ls : Array Slot), HW BM g A s y H locs → lv_has ls 2 [(0, .ref (g.2.1 c0))] → W p l e (rmL 1) s m args below meth c H locs 0 0 (MQ below (QI BM g q A) args s 0 0 A) (F0 m 189 ls [])) → (True) → W p l e (rmL 1) s m args below meth c H locs 0 0 (MQ below (QI BM g q A) args s 0 0 A) (F0 m 165 ls []) := by
    intro c0 hc0 n
    induction n with
    | zero =>
      intro x1 σ H locs ls hw hl ex h kx52 kr52
      cases h
    | succ n ih =>
      intro x1 σ H locs ls hw hl ex h kx52 kr52
      rw [f_M_image_l165] at h
      refine lv_iload_n hx hb d_M_image_165 rfl (lv_at hl 1 rfl) ?_
      refine lv_bipush (v := 24) hx hb d_M_image_166 (by decide) ?_
      refine lv_icmp_ge (tgt := 189) hx hb d_M_image_168 (by decide) (fun b53 => ?_) (fun b53 => ?_)
      · replace h := ifp b53 h
        exact kx52 _ (Option.some.inj h).symm H locs ls hw (lv_sub hl [0] rfl)
      · replace h := ifn b53 h
        refine lv_aload_n hx hb d_M_image_171 rfl (lv_at hl 0 rfl) ?_
        refine fg_M_187 C hw hc0 d_M_image_172 ?_
        refine lv_iload_n hx hb d_M_image_175 rfl (lv_at hl 1 rfl) ?_
        refine lv_aload_n hx hb d_M_image_176 rfl (lv_at hl 0 rfl) ?_
        refine fg_M_38 C hw hc0 d_M_image_177 ?_
        refine lv_iload_n hx hb d_M_image_180 rfl (lv_at hl 1 rfl) ?_
        refine gde h (fun g54 h => ?_)
        refine ldI (n := 24) C hw tM_7 (by decide) g54 d_M_image_181 ?_
        refine gde h (fun g55 h => ?_)
        refine ste h (fun s56 e57 h => ?_)
        refine stI (n := 24) C hw tM_32 (by decide) g55 d_M_image_182 (fun H locs hw => ?_)
        replace hw := HWe hw e57
        refine lv_iinc (v := (x1 + 1)) (lv' := [(1, .int (x1 + 1)), (0, .ref (g.2.1 c0))]) hx hb d_M_image_183 hl (k := 1) rfl rfl (by decide) rfl (fun ls hl => ?_)
        refine lv_goto (tgt := 165) hx hb d_M_image_186 (by decide) ?_
        exact ih (x1 + 1) s56 H locs ls hw (lv_sub hl [1, 0] rfl) ex h kx52 kr52
  refine bnd h (fun x_58 k59 h => ?_)
  refine L52 c0 hc0 FU 0 x_49 H locs ls hw (lv_sub hl [1, 0] rfl) x_58 k59 (fun y72 e73 H locs ls hw hl => ?_) trivial
  subst e73
  refine lv_iconst (v := 0) hx hb d_M_image_189 (by decide) ?_
  refine lv_istore_n (lv' := [(1, .int 0), (0, .ref (g.2.1 c0))]) hx hb d_M_image_190 rfl hl (by decide) rfl (fun ls hl => ?_)
  have L61 : ∀ (c0 : Nat) (hc0 : tg BM c0 20) (n : Nat) (x1 : Int32) (σ : St) (H : Heap) (locs : List Loc) (ls : Array Slot), HW BM g A s σ H locs → lv_has ls 2 [(0, .ref (g.2.1 c0)), (1, .int x1)] → ∀ (ex : St), f_M_image_l191 n c0 x1 σ = some ex → (∀ (y : St), ex = y → ∀ (H : Heap) (locs : List Loc) (ls : Array Slot), HW BM g A s y H locs → lv_has ls 2 [(0, .ref (g.2.1 c0))] → W p l e (rmL 1) s m args below meth c H locs 0 0 (MQ below (QI BM g q A) args s 0 0 A) (F0 m 215 ls [])) → (True) → W p l e (rmL 1) s m args below meth c H locs 0 0 (MQ below (QI BM g q A) args s 0 0 A) (F0 m 191 ls []) := by
    intro c0 hc0 n
    induction n with
    | zero =>
      intro x1 σ H locs ls hw hl ex h kx61 kr61
      cases h
    | succ n ih =>
      intro x1 σ H locs ls hw hl ex h kx61 kr61
      rw [f_M_image_l191] at h
      refine lv_iload_n hx hb d_M_image_191 rfl (lv_at hl 1 rfl) ?_
      refine lv_bipush (v := 12) hx hb d_M_image_192 (by decide) ?_
      refine lv_icmp_ge (tgt := 215) hx hb d_M_image_194 (by decide) (fun b62 => ?_) (fun b62 => ?_)
      · replace h := ifp b62 h
        exact kx61 _ (Option.some.inj h).symm H locs ls hw (lv_sub hl [0] rfl)
      · replace h := ifn b62 h
        refine lv_aload_n hx hb d_M_image_197 rfl (lv_at hl 0 rfl) ?_
        refine fg_M_196 C hw hc0 d_M_image_198 ?_
        refine lv_iload_n hx hb d_M_image_201 rfl (lv_at hl 1 rfl) ?_
        refine lv_aload_n hx hb d_M_image_202 rfl (lv_at hl 0 rfl) ?_
        refine fg_M_144 C hw hc0 d_M_image_203 ?_
        refine lv_iload_n hx hb d_M_image_206 rfl (lv_at hl 1 rfl) ?_
        refine gde h (fun g63 h => ?_)
        refine ldI (n := 12) C hw tM_25 (by decide) g63 d_M_image_207 ?_
        refine gde h (fun g64 h => ?_)
        refine ste h (fun s65 e66 h => ?_)
        refine stI (n := 12) C hw tM_35 (by decide) g64 d_M_image_208 (fun H locs hw => ?_)
        replace hw := HWe hw e66
        refine lv_iinc (v := (x1 + 1)) (lv' := [(1, .int (x1 + 1)), (0, .ref (g.2.1 c0))]) hx hb d_M_image_209 hl (k := 1) rfl rfl (by decide) rfl (fun ls hl => ?_)
        refine lv_goto (tgt := 191) hx hb d_M_image_212 (by decide) ?_
        exact ih (x1 + 1) s65 H locs ls hw (lv_sub hl [1, 0] rfl) ex h kx61 kr61
  refine bnd h (fun x_67 k68 h => ?_)
  refine L61 c0 hc0 FU 0 x_58 H locs ls hw (lv_sub hl [1, 0] rfl) x_67 k68 (fun y70 e71 H locs ls hw hl => ?_) trivial
  subst e71
  refine lv_aload_n hx hb d_M_image_215 rfl (lv_at hl 0 rfl) ?_
  refine fg_M_7 C hw hc0 d_M_image_216 ?_
  exact retI C hw rfl (Option.some.inj h) d_M_image_219
def f_M_undo_l60 : Nat → Nat → Int32 → St → Option (St)
  | 0, _, _, _ => none
  | n + 1, c0, x1, σ => (if 6 ≤ x1 then some σ else (if ok x1 6 = true then (if ok x1 6 = true then (st (sJ σ 1 (upd (vJ σ 1) (nx x1) (vJ σ 26 (nx x1)))) fun s18 => (if ok x1 6 = true then (if ok x1 6 = true then (st (sJ s18 2 (upd (vJ s18 2) (nx x1) (vJ s18 27 (nx x1)))) fun s21 => (if ok x1 6 = true then (if ok x1 6 = true then (st (sJ s21 3 (upd (vJ s21 3) (nx x1) (vJ s21 28 (nx x1)))) fun s24 => (if ok x1 6 = true then (if ok x1 6 = true then (st (sJ s24 4 (upd (vJ s24 4) (nx x1) (vJ s24 29 (nx x1)))) fun s27 => (if ok x1 6 = true then (if ok x1 6 = true then (st (sJ s27 5 (upd (vJ s27 5) (nx x1) (vJ s27 30 (nx x1)))) fun s30 => (if ok x1 6 = true then (if ok x1 6 = true then (st (sJ s30 6 (upd (vJ s30 6) (nx x1) (vJ s30 31 (nx x1)))) fun s33 => (if ok x1 6 = true then (if ok x1 6 = true then (st (sJ s33 23 (upd (vJ s33 23) (nx x1) (vJ s33 33 (nx x1)))) fun s36 => (if ok x1 6 = true then (if ok x1 6 = true then (st (sJ s36 24 (upd (vJ s36 24) (nx x1) (vJ s36 34 (nx x1)))) fun s39 => (f_M_undo_l60 n c0 (x1 + 1) s39)) else none) else none)) else none) else none)) else none) else none)) else none) else none)) else none) else none)) else none) else none)) else none) else none)) else none) else none))
def f_M_undo_l170 : Nat → Nat → Int32 → St → Option (St)
  | 0, _, _, _ => none
  | n + 1, c0, x1, σ => (if 24 ≤ x1 then some σ else (if ok x1 24 = true then (if ok x1 24 = true then (st (sJ σ 7 (upd (vJ σ 7) (nx x1) (vJ σ 32 (nx x1)))) fun s55 => (f_M_undo_l170 n c0 (x1 + 1) s55)) else none) else none))
def f_M_undo_l196 : Nat → Nat → Int32 → St → Option (St)
  | 0, _, _, _ => none
  | n + 1, c0, x1, σ => (if 12 ≤ x1 then some σ else (if ok x1 12 = true then (if ok x1 12 = true then (st (sJ σ 25 (upd (vJ σ 25) (nx x1) (vJ σ 35 (nx x1)))) fun s64 => (f_M_undo_l196 n c0 (x1 + 1) s64)) else none) else none))
def f_M_undo (c0 : Nat) (σ : St) : Option (Int32 × St) := (if (vI σ c0 45) = 0 then some ((-3), σ) else (st (sI σ c0 11 (vI σ c0 46)) fun s3 => (st (sI s3 c0 0 (vI s3 c0 47)) fun s5 => (st (sI s5 c0 1 (vI s5 c0 48)) fun s7 => (st (sI s7 c0 2 (vI s7 c0 49)) fun s9 => (st (sI s9 c0 40 (vI s9 c0 50)) fun s11 => (st (sI s11 c0 43 (vI s11 c0 51)) fun s13 => ((f_M_undo_l60 FU c0 0 s13).bind fun x_48 => ((f_M_undo_l170 FU c0 0 x_48).bind fun x_57 => ((f_M_undo_l196 FU c0 0 x_57).bind fun x_66 => some ((vI x_66 c0 0), x_66)))))))))))
set_option maxHeartbeats 400000 in
set_option maxRecDepth 20000 in
theorem c_M_undo (g : GX) (c0 : Nat) (hc0 : tg BM c0 20) (σ : St) (q : Int32 × St) (h : f_M_undo c0 σ = some q) (l : Launch) : CT BM l y_M_undo (v_M_undo :: lwG) 1 [.ref (g.2.1 c0)] g σ (QI BM g q) := by
  refine mkC (cc := b_M_undo) (maxL := 2) (ret := (some .int)) rfl (by decide) rfl (Nat.le_of_ble_eq_true rfl) ?_
  intro p e s m args below meth c A ls C hl hw
  obtain ⟨hx, hb, hr, hml, hown, hts, hK, hE, hA, hlk⟩ := id C
  replace hl : lv_has ls 2 [(0, .ref (g.2.1 c0))] := hl
  obtain ⟨H, hH⟩ : ∃ z, z = s.heap := ⟨_, rfl⟩
  rw [← hH] at hw ⊢
  obtain ⟨locs, hlo⟩ : ∃ z : List Loc, z = [] := ⟨_, rfl⟩
  rw [← hlo] at hw ⊢
  unfold f_M_undo at h
  refine lv_aload_n hx hb d_M_undo_0 rfl (lv_at hl 0 rfl) ?_
  refine fg_M_147 C hw hc0 d_M_undo_1 ?_
  refine lv_if_ne (tgt := 10) hx hb d_M_undo_4 (by decide) (fun b1 => ?_) (fun b1 => ?_)
  · replace h := ifn b1 h
    refine lv_aload_n hx hb d_M_undo_10 rfl (lv_at hl 0 rfl) ?_
    refine lv_aload_n hx hb d_M_undo_11 rfl (lv_at hl 0 rfl) ?_
    refine fg_M_151 C hw hc0 d_M_undo_12 ?_
    refine ste h (fun s3 e80 h => ?_)
    refine fp_M_44 C hw hc0 d_M_undo_15 (fun H locs hw => ?_)
    replace hw := HWe hw e80
    refine lv_aload_n hx hb d_M_undo_18 rfl (lv_at hl 0 rfl) ?_
    refine lv_aload_n hx hb d_M_undo_19 rfl (lv_at hl 0 rfl) ?_
    refine fg_M_154 C hw hc0 d_M_undo_20 ?_
    refine ste h (fun s5 e79 h => ?_)
    refine fp_M_7 C hw hc0 d_M_undo_23 (fun H locs hw => ?_)
    replace hw := HWe hw e79
    refine lv_aload_n hx hb d_M_undo_26 rfl (lv_at hl 0 rfl) ?_
    refine lv_aload_n hx hb d_M_undo_27 rfl (lv_at hl 0 rfl) ?_
    refine fg_M_157 C hw hc0 d_M_undo_28 ?_
    refine ste h (fun s7 e78 h => ?_)
    refine fp_M_13 C hw hc0 d_M_undo_31 (fun H locs hw => ?_)
    replace hw := HWe hw e78
    refine lv_aload_n hx hb d_M_undo_34 rfl (lv_at hl 0 rfl) ?_
    refine lv_aload_n hx hb d_M_undo_35 rfl (lv_at hl 0 rfl) ?_
    refine fg_M_160 C hw hc0 d_M_undo_36 ?_
    refine ste h (fun s9 e77 h => ?_)
    refine fp_M_16 C hw hc0 d_M_undo_39 (fun H locs hw => ?_)
    replace hw := HWe hw e77
    refine lv_aload_n hx hb d_M_undo_42 rfl (lv_at hl 0 rfl) ?_
    refine lv_aload_n hx hb d_M_undo_43 rfl (lv_at hl 0 rfl) ?_
    refine fg_M_163 C hw hc0 d_M_undo_44 ?_
    refine ste h (fun s11 e76 h => ?_)
    refine fp_M_132 C hw hc0 d_M_undo_47 (fun H locs hw => ?_)
    replace hw := HWe hw e76
    refine lv_aload_n hx hb d_M_undo_50 rfl (lv_at hl 0 rfl) ?_
    refine lv_aload_n hx hb d_M_undo_51 rfl (lv_at hl 0 rfl) ?_
    refine fg_M_166 C hw hc0 d_M_undo_52 ?_
    refine ste h (fun s13 e75 h => ?_)
    refine fp_M_141 C hw hc0 d_M_undo_55 (fun H locs hw => ?_)
    replace hw := HWe hw e75
    refine lv_iconst (v := 0) hx hb d_M_undo_58 (by decide) ?_
    refine lv_istore_n (lv' := [(1, .int 0), (0, .ref (g.2.1 c0))]) hx hb d_M_undo_59 rfl hl (by decide) rfl (fun ls hl => ?_)
    have L14 : ∀ (c0 : Nat) (hc0 : tg BM c0 20) (n : Nat) (x1 : Int32) (σ : St) (H : Heap) (locs : List Loc) (ls : Array Slot), HW BM g A s σ H locs → lv_has ls 2 [(0, .ref (g.2.1 c0)), (1, .int x1)] → ∀ (ex : St), f_M_undo_l60 n c0 x1 σ = some ex → (∀ (y : St), ex = y → ∀ (H : Heap) (locs : List Loc) (ls : Array Slot), HW BM g A s y H locs → lv_has ls 2 [(0, .ref (g.2.1 c0))] → W p l e (rmL 1) s m args below meth c H locs 0 0 (MQ below (QI BM g q A) args s 0 0 A) (F0 m 168 ls [])) → (True) → W p l e (rmL 1) s m args below meth c H locs 0 0 (MQ below (QI BM g q A) args s 0 0 A) (F0 m 60 ls []) := by
      intro c0 hc0 n
      induction n with
      | zero =>
        intro x1 σ H locs ls hw hl ex h kx14 kr14
        cases h
      | succ n ih =>
        intro x1 σ H locs ls hw hl ex h kx14 kr14
        rw [f_M_undo_l60] at h
        refine lv_iload_n hx hb d_M_undo_60 rfl (lv_at hl 1 rfl) ?_
        refine lv_bipush (v := 6) hx hb d_M_undo_61 (by decide) ?_
        refine lv_icmp_ge (tgt := 168) hx hb d_M_undo_63 (by decide) (fun b15 => ?_) (fun b15 => ?_)
        · replace h := ifp b15 h
          exact kx14 _ (Option.some.inj h).symm H locs ls hw (lv_sub hl [0] rfl)
        · replace h := ifn b15 h
          refine lv_aload_n hx hb d_M_undo_66 rfl (lv_at hl 0 rfl) ?_
          refine fg_M_19 C hw hc0 d_M_undo_67 ?_
          refine lv_iload_n hx hb d_M_undo_70 rfl (lv_at hl 1 rfl) ?_
          refine lv_aload_n hx hb d_M_undo_71 rfl (lv_at hl 0 rfl) ?_
          refine fg_M_169 C hw hc0 d_M_undo_72 ?_
          refine lv_iload_n hx hb d_M_undo_75 rfl (lv_at hl 1 rfl) ?_
          refine gde h (fun g16 h => ?_)
          refine ldI (n := 6) C hw tM_26 (by decide) g16 d_M_undo_76 ?_
          refine gde h (fun g17 h => ?_)
          refine ste h (fun s18 e47 h => ?_)
          refine stI (n := 6) C hw tM_1 (by decide) g17 d_M_undo_77 (fun H locs hw => ?_)
          replace hw := HWe hw e47
          refine lv_aload_n hx hb d_M_undo_78 rfl (lv_at hl 0 rfl) ?_
          refine fg_M_23 C hw hc0 d_M_undo_79 ?_
          refine lv_iload_n hx hb d_M_undo_82 rfl (lv_at hl 1 rfl) ?_
          refine lv_aload_n hx hb d_M_undo_83 rfl (lv_at hl 0 rfl) ?_
          refine fg_M_172 C hw hc0 d_M_undo_84 ?_
          refine lv_iload_n hx hb d_M_undo_87 rfl (lv_at hl 1 rfl) ?_
          refine gde h (fun g19 h => ?_)
          refine ldI (n := 6) C hw tM_27 (by decide) g19 d_M_undo_88 ?_
          refine gde h (fun g20 h => ?_)
          refine ste h (fun s21 e46 h => ?_)
          refine stI (n := 6) C hw tM_2 (by decide) g20 d_M_undo_89 (fun H locs hw => ?_)
          replace hw := HWe hw e46
          refine lv_aload_n hx hb d_M_undo_90 rfl (lv_at hl 0 rfl) ?_
          refine fg_M_26 C hw hc0 d_M_undo_91 ?_
          refine lv_iload_n hx hb d_M_undo_94 rfl (lv_at hl 1 rfl) ?_
          refine lv_aload_n hx hb d_M_undo_95 rfl (lv_at hl 0 rfl) ?_
          refine fg_M_175 C hw hc0 d_M_undo_96 ?_
          refine lv_iload_n hx hb d_M_undo_99 rfl (lv_at hl 1 rfl) ?_
          refine gde h (fun g22 h => ?_)
          refine ldI (n := 6) C hw tM_28 (by decide) g22 d_M_undo_100 ?_
          refine gde h (fun g23 h => ?_)
          refine ste h (fun s24 e45 h => ?_)
          refine stI (n := 6) C hw tM_3 (by decide) g23 d_M_undo_101 (fun H locs hw => ?_)
          replace hw := HWe hw e45
          refine lv_aload_n hx hb d_M_undo_102 rfl (lv_at hl 0 rfl) ?_
          refine fg_M_29 C hw hc0 d_M_undo_103 ?_
          refine lv_iload_n hx hb d_M_undo_106 rfl (lv_at hl 1 rfl) ?_
          refine lv_aload_n hx hb d_M_undo_107 rfl (lv_at hl 0 rfl) ?_
          refine fg_M_178 C hw hc0 d_M_undo_108 ?_
          refine lv_iload_n hx hb d_M_undo_111 rfl (lv_at hl 1 rfl) ?_
          refine gde h (fun g25 h => ?_)
          refine ldI (n := 6) C hw tM_29 (by decide) g25 d_M_undo_112 ?_
          refine gde h (fun g26 h => ?_)
          refine ste h (fun s27 e44 h => ?_)
          refine stI (n := 6) C hw tM_4 (by decide) g26 d_M_undo_113 (fun H locs hw => ?_)
          replace hw := HWe hw e44
          refine lv_aload_n hx hb d_M_undo_114 rfl (lv_at hl 0 rfl) ?_
          refine fg_M_32 C hw hc0 d_M_undo_115 ?_
          refine lv_iload_n hx hb d_M_undo_118 rfl (lv_at hl 1 rfl) ?_
          refine lv_aload_n hx hb d_M_undo_119 rfl (lv_at hl 0 rfl) ?_
          refine fg_M_181 C hw hc0 d_M_undo_120 ?_
          refine lv_iload_n hx hb d_M_undo_123 rfl (lv_at hl 1 rfl) ?_
          refine gde h (fun g28 h => ?_)
          refine ldI (n := 6) C hw tM_30 (by decide) g28 d_M_undo_124 ?_
          refine gde h (fun g29 h => ?_)
          refine ste h (fun s30 e43 h => ?_)
          refine stI (n := 6) C hw tM_5 (by decide) g29 d_M_undo_125 (fun H locs hw => ?_)
          replace hw := HWe hw e43
          refine lv_aload_n hx hb d_M_undo_126 rfl (lv_at hl 0 rfl) ?_
          refine fg_M_35 C hw hc0 d_M_undo_127 ?_
          refine lv_iload_n hx hb d_M_undo_130 rfl (lv_at hl 1 rfl) ?_
          refine lv_aload_n hx hb d_M_undo_131 rfl (lv_at hl 0 rfl) ?_
          refine fg_M_184 C hw hc0 d_M_undo_132 ?_
          refine lv_iload_n hx hb d_M_undo_135 rfl (lv_at hl 1 rfl) ?_
          refine gde h (fun g31 h => ?_)
          refine ldI (n := 6) C hw tM_31 (by decide) g31 d_M_undo_136 ?_
          refine gde h (fun g32 h => ?_)
          refine ste h (fun s33 e42 h => ?_)
          refine stI (n := 6) C hw tM_6 (by decide) g32 d_M_undo_137 (fun H locs hw => ?_)
          replace hw := HWe hw e42
          refine lv_aload_n hx hb d_M_undo_138 rfl (lv_at hl 0 rfl) ?_
          refine fg_M_135 C hw hc0 d_M_undo_139 ?_
          refine lv_iload_n hx hb d_M_undo_142 rfl (lv_at hl 1 rfl) ?_
          refine lv_aload_n hx hb d_M_undo_143 rfl (lv_at hl 0 rfl) ?_
          refine fg_M_190 C hw hc0 d_M_undo_144 ?_
          refine lv_iload_n hx hb d_M_undo_147 rfl (lv_at hl 1 rfl) ?_
          refine gde h (fun g34 h => ?_)
          refine ldI (n := 6) C hw tM_33 (by decide) g34 d_M_undo_148 ?_
          refine gde h (fun g35 h => ?_)
          refine ste h (fun s36 e41 h => ?_)
          refine stI (n := 6) C hw tM_23 (by decide) g35 d_M_undo_149 (fun H locs hw => ?_)
          replace hw := HWe hw e41
          refine lv_aload_n hx hb d_M_undo_150 rfl (lv_at hl 0 rfl) ?_
          refine fg_M_138 C hw hc0 d_M_undo_151 ?_
          refine lv_iload_n hx hb d_M_undo_154 rfl (lv_at hl 1 rfl) ?_
          refine lv_aload_n hx hb d_M_undo_155 rfl (lv_at hl 0 rfl) ?_
          refine fg_M_193 C hw hc0 d_M_undo_156 ?_
          refine lv_iload_n hx hb d_M_undo_159 rfl (lv_at hl 1 rfl) ?_
          refine gde h (fun g37 h => ?_)
          refine ldI (n := 6) C hw tM_34 (by decide) g37 d_M_undo_160 ?_
          refine gde h (fun g38 h => ?_)
          refine ste h (fun s39 e40 h => ?_)
          refine stI (n := 6) C hw tM_24 (by decide) g38 d_M_undo_161 (fun H locs hw => ?_)
          replace hw := HWe hw e40
          refine lv_iinc (v := (x1 + 1)) (lv' := [(1, .int (x1 + 1)), (0, .ref (g.2.1 c0))]) hx hb d_M_undo_162 hl (k := 1) rfl rfl (by decide) rfl (fun ls hl => ?_)
          refine lv_goto (tgt := 60) hx hb d_M_undo_165 (by decide) ?_
          exact ih (x1 + 1) s39 H locs ls hw (lv_sub hl [1, 0] rfl) ex h kx14 kr14
    refine bnd h (fun x_48 k49 h => ?_)
    refine L14 c0 hc0 FU 0 s13 H locs ls hw (lv_sub hl [1, 0] rfl) x_48 k49 (fun y73 e74 H locs ls hw hl => ?_) trivial
    subst e74
    refine lv_iconst (v := 0) hx hb d_M_undo_168 (by decide) ?_
    refine lv_istore_n (lv' := [(1, .int 0), (0, .ref (g.2.1 c0))]) hx hb d_M_undo_169 rfl hl (by decide) rfl (fun ls hl => ?_)
    have L51 : ∀ (c0 : Nat) (hc0 : tg BM c0 20) (n : Nat) (x1 : Int32) (σ : St) (H : Heap) (locs : List Loc) (ls : Array Slot), HW BM g A s σ H locs → lv_has ls 2 [(0, .ref (g.2.1 c0)), (1, .int x1)] → ∀ (ex : St), f_M_undo_l170 n c0 x1 σ = some ex → (∀ (y : St), ex = y → ∀ (H : Heap) (locs : List Loc) (ls : Array Slot), HW BM g A s y H locs → lv_has ls 2 [(0, .ref (g.2.1 c0))] → W p l e (rmL 1) s m args below meth c H locs 0 0 (MQ below (QI BM g q A) args s 0 0 A) (F0 m 194 ls [])) → (True) → W p l e (rmL 1) s m args below meth c H locs 0 0 (MQ below (QI BM g q A) args s 0 0 A) (F0 m 170 ls []) := by
      intro c0 hc0 n
      induction n with
      | zero =>
        intro x1 σ H locs ls hw hl ex h kx51 kr51
        cases h
      | succ n ih =>
        intro x1 σ H locs ls hw hl ex h kx51 kr51
        rw [f_M_undo_l170] at h
        refine lv_iload_n hx hb d_M_undo_170 rfl (lv_at hl 1 rfl) ?_
        refine lv_bipush (v := 24) hx hb d_M_undo_171 (by decide) ?_
        refine lv_icmp_ge (tgt := 194) hx hb d_M_undo_173 (by decide) (fun b52 => ?_) (fun b52 => ?_)
        · replace h := ifp b52 h
          exact kx51 _ (Option.some.inj h).symm H locs ls hw (lv_sub hl [0] rfl)
        · replace h := ifn b52 h
          refine lv_aload_n hx hb d_M_undo_176 rfl (lv_at hl 0 rfl) ?_
          refine fg_M_38 C hw hc0 d_M_undo_177 ?_
          refine lv_iload_n hx hb d_M_undo_180 rfl (lv_at hl 1 rfl) ?_
          refine lv_aload_n hx hb d_M_undo_181 rfl (lv_at hl 0 rfl) ?_
          refine fg_M_187 C hw hc0 d_M_undo_182 ?_
          refine lv_iload_n hx hb d_M_undo_185 rfl (lv_at hl 1 rfl) ?_
          refine gde h (fun g53 h => ?_)
          refine ldI (n := 24) C hw tM_32 (by decide) g53 d_M_undo_186 ?_
          refine gde h (fun g54 h => ?_)
          refine ste h (fun s55 e56 h => ?_)
          refine stI (n := 24) C hw tM_7 (by decide) g54 d_M_undo_187 (fun H locs hw => ?_)
          replace hw := HWe hw e56
          refine lv_iinc (v := (x1 + 1)) (lv' := [(1, .int (x1 + 1)), (0, .ref (g.2.1 c0))]) hx hb d_M_undo_188 hl (k := 1) rfl rfl (by decide) rfl (fun ls hl => ?_)
          refine lv_goto (tgt := 170) hx hb d_M_undo_191 (by decide) ?_
          exact ih (x1 + 1) s55 H locs ls hw (lv_sub hl [1, 0] rfl) ex h kx51 kr51
    refine bnd h (fun x_57 k58 h => ?_)
    refine L51 c0 hc0 FU 0 x_48 H locs ls hw (lv_sub hl [1, 0] rfl) x_57 k58 (fun y71 e72 H locs ls hw hl => ?_) trivial
    subst e72
    refine lv_iconst (v := 0) hx hb d_M_undo_194 (by decide) ?_
    refine lv_istore_n (lv' := [(1, .int 0), (0, .ref (g.2.1 c0))]) hx hb d_M_undo_195 rfl hl (by decide) rfl (fun ls hl => ?_)
    have L60 : ∀ (c0 : Nat) (hc0 : tg BM c0 20) (n : Nat) (x1 : Int32) (σ : St) (H : Heap) (locs : List Loc) (ls : Array Slot), HW BM g A s σ H locs → lv_has ls 2 [(0, .ref (g.2.1 c0)), (1, .int x1)] → ∀ (ex : St), f_M_undo_l196 n c0 x1 σ = some ex → (∀ (y : St), ex = y → ∀ (H : Heap) (locs : List Loc) (ls : Array Slot), HW BM g A s y H locs → lv_has ls 2 [(0, .ref (g.2.1 c0))] → W p l e (rmL 1) s m args below meth c H locs 0 0 (MQ below (QI BM g q A) args s 0 0 A) (F0 m 220 ls [])) → (True) → W p l e (rmL 1) s m args below meth c H locs 0 0 (MQ below (QI BM g q A) args s 0 0 A) (F0 m 196 ls []) := by
      intro c0 hc0 n
      induction n with
      | zero =>
        intro x1 σ H locs ls hw hl ex h kx60 kr60
        cases h
      | succ n ih =>
        intro x1 σ H locs ls hw hl ex h kx60 kr60
        rw [f_M_undo_l196] at h
        refine lv_iload_n hx hb d_M_undo_196 rfl (lv_at hl 1 rfl) ?_
        refine lv_bipush (v := 12) hx hb d_M_undo_197 (by decide) ?_
        refine lv_icmp_ge (tgt := 220) hx hb d_M_undo_199 (by decide) (fun b61 => ?_) (fun b61 => ?_)
        · replace h := ifp b61 h
          exact kx60 _ (Option.some.inj h).symm H locs ls hw (lv_sub hl [0] rfl)
        · replace h := ifn b61 h
          refine lv_aload_n hx hb d_M_undo_202 rfl (lv_at hl 0 rfl) ?_
          refine fg_M_144 C hw hc0 d_M_undo_203 ?_
          refine lv_iload_n hx hb d_M_undo_206 rfl (lv_at hl 1 rfl) ?_
          refine lv_aload_n hx hb d_M_undo_207 rfl (lv_at hl 0 rfl) ?_
          refine fg_M_196 C hw hc0 d_M_undo_208 ?_
          refine lv_iload_n hx hb d_M_undo_211 rfl (lv_at hl 1 rfl) ?_
          refine gde h (fun g62 h => ?_)
          refine ldI (n := 12) C hw tM_35 (by decide) g62 d_M_undo_212 ?_
          refine gde h (fun g63 h => ?_)
          refine ste h (fun s64 e65 h => ?_)
          refine stI (n := 12) C hw tM_25 (by decide) g63 d_M_undo_213 (fun H locs hw => ?_)
          replace hw := HWe hw e65
          refine lv_iinc (v := (x1 + 1)) (lv' := [(1, .int (x1 + 1)), (0, .ref (g.2.1 c0))]) hx hb d_M_undo_214 hl (k := 1) rfl rfl (by decide) rfl (fun ls hl => ?_)
          refine lv_goto (tgt := 196) hx hb d_M_undo_217 (by decide) ?_
          exact ih (x1 + 1) s64 H locs ls hw (lv_sub hl [1, 0] rfl) ex h kx60 kr60
    refine bnd h (fun x_66 k67 h => ?_)
    refine L60 c0 hc0 FU 0 x_57 H locs ls hw (lv_sub hl [1, 0] rfl) x_66 k67 (fun y69 e70 H locs ls hw hl => ?_) trivial
    subst e70
    refine lv_aload_n hx hb d_M_undo_220 rfl (lv_at hl 0 rfl) ?_
    refine fg_M_7 C hw hc0 d_M_undo_221 ?_
    exact retI C hw rfl (Option.some.inj h) d_M_undo_224
  · replace h := ifp b1 h
    refine lv_bipush (v := (-3)) hx hb d_M_undo_7 (by decide) ?_
    exact retI C hw rfl (Option.some.inj h) d_M_undo_9
def f_M_body (c0 : Nat) (p1 : Int32) (σ : St) : Option (St) := (if 20 ≤ (vI σ c0 62) then (st (sI σ c0 62 ((vI σ c0 62) + 1)) fun s3 => some s3) else (if ok (vI σ c0 62) 20 = true then (st (sJ σ 36 (upd (vJ σ 36) (nx (vI σ c0 62)) p1)) fun s6 => (st (sI s6 c0 62 ((vI s6 c0 62) + 1)) fun s8 => some s8)) else none))
set_option maxHeartbeats 400000 in
set_option maxRecDepth 20000 in
theorem c_M_body (g : GX) (c0 : Nat) (hc0 : tg BM c0 20) (p1 : Int32) (σ : St) (q : St) (h : f_M_body c0 p1 σ = some q) (l : Launch) : CT BM l y_M_body (v_M_body :: lwG) 1 [.ref (g.2.1 c0), .int p1] g σ (QV BM g q) := by
  refine mkC (cc := b_M_body) (maxL := 2) (ret := none) rfl (by decide) rfl (Nat.le_of_ble_eq_true rfl) ?_
  intro p e s m args below meth c A ls C hl hw
  obtain ⟨hx, hb, hr, hml, hown, hts, hK, hE, hA, hlk⟩ := id C
  replace hl : lv_has ls 2 [(0, .ref (g.2.1 c0)), (1, .int p1)] := hl
  obtain ⟨H, hH⟩ : ∃ z, z = s.heap := ⟨_, rfl⟩
  rw [← hH] at hw ⊢
  obtain ⟨locs, hlo⟩ : ∃ z : List Loc, z = [] := ⟨_, rfl⟩
  rw [← hlo] at hw ⊢
  unfold f_M_body at h
  refine lv_aload_n hx hb d_M_body_0 rfl (lv_at hl 0 rfl) ?_
  refine fg_M_199 C hw hc0 d_M_body_1 ?_
  refine lv_bipush (v := 20) hx hb d_M_body_4 (by decide) ?_
  refine lv_icmp_ge (tgt := 19) hx hb d_M_body_6 (by decide) (fun b1 => ?_) (fun b1 => ?_)
  · replace h := ifp b1 h
    refine lv_aload_n hx hb d_M_body_19 rfl (lv_at hl 0 rfl) ?_
    refine lv_dup hx hb d_M_body_20 rfl ?_
    refine fg_M_199 C hw hc0 d_M_body_21 ?_
    refine lv_iconst (v := 1) hx hb d_M_body_24 (by decide) ?_
    refine lv_iadd hx hb d_M_body_25 ?_
    refine ste h (fun s3 e4 h => ?_)
    refine fp_M_199 C hw hc0 d_M_body_26 (fun H locs hw => ?_)
    replace hw := HWe hw e4
    exact retV C hw rfl (Option.some.inj h) d_M_body_29
  · replace h := ifn b1 h
    refine lv_aload_n hx hb d_M_body_9 rfl (lv_at hl 0 rfl) ?_
    refine fg_M_202 C hw hc0 d_M_body_10 ?_
    refine lv_aload_n hx hb d_M_body_13 rfl (lv_at hl 0 rfl) ?_
    refine fg_M_199 C hw hc0 d_M_body_14 ?_
    refine lv_iload_n hx hb d_M_body_17 rfl (lv_at hl 1 rfl) ?_
    refine gde h (fun g5 h => ?_)
    refine ste h (fun s6 e10 h => ?_)
    refine stI (n := 20) C hw tM_36 (by decide) g5 d_M_body_18 (fun H locs hw => ?_)
    replace hw := HWe hw e10
    refine lv_aload_n hx hb d_M_body_19 rfl (lv_at hl 0 rfl) ?_
    refine lv_dup hx hb d_M_body_20 rfl ?_
    refine fg_M_199 C hw hc0 d_M_body_21 ?_
    refine lv_iconst (v := 1) hx hb d_M_body_24 (by decide) ?_
    refine lv_iadd hx hb d_M_body_25 ?_
    refine ste h (fun s8 e9 h => ?_)
    refine fp_M_199 C hw hc0 d_M_body_26 (fun H locs hw => ?_)
    replace hw := HWe hw e9
    exact retV C hw rfl (Option.some.inj h) d_M_body_29
def f_M_takerTakes (c0 : Nat) (p1 : Int32) (p2 : Int32) (σ : St) : Option (Int32 × St) := ((f_M_body c0 10 σ).bind fun q1 => some ((p2 + p1), q1))
set_option maxHeartbeats 400000 in
set_option maxRecDepth 20000 in
theorem c_M_takerTakes (g : GX) (c0 : Nat) (hc0 : tg BM c0 20) (p1 : Int32) (p2 : Int32) (σ : St) (q : Int32 × St) (h : f_M_takerTakes c0 p1 p2 σ = some q) (l : Launch) : CT BM l y_M_takerTakes (v_M_takerTakes :: lwG) 2 [.ref (g.2.1 c0), .int p1, .int p2] g σ (QI BM g q) := by
  refine mkC (cc := b_M_takerTakes) (maxL := 3) (ret := (some .int)) rfl (by decide) rfl (Nat.le_of_ble_eq_true rfl) ?_
  intro p e s m args below meth c A ls C hl hw
  obtain ⟨hx, hb, hr, hml, hown, hts, hK, hE, hA, hlk⟩ := id C
  replace hl : lv_has ls 3 [(0, .ref (g.2.1 c0)), (1, .int p1), (2, .int p2)] := hl
  obtain ⟨H, hH⟩ : ∃ z, z = s.heap := ⟨_, rfl⟩
  rw [← hH] at hw ⊢
  obtain ⟨locs, hlo⟩ : ∃ z : List Loc, z = [] := ⟨_, rfl⟩
  rw [← hlo] at hw ⊢
  unfold f_M_takerTakes at h
  refine lv_aload_n hx hb d_M_takerTakes_0 rfl (lv_at hl 0 rfl) ?_
  refine lv_bipush (v := 10) hx hb d_M_takerTakes_1 (by decide) ?_
  refine bnd h (fun q1 k2 h => ?_)
  refine clV C hw (invV (As := [.int 10]) C hw (c_M_body g c0 hc0 10 σ q1 k2 l) rfl wc_M_361 nd_M_body ⟨by decide, by decide⟩ (rc_M C hw hc0) rfl hl.1 rfl (Nat.le_of_ble_eq_true rfl) d_M_takerTakes_3 ⟨Nat.le_refl _, Nat.le_refl _⟩) (fun H locs hw => ?_)
  refine lv_iload_n hx hb d_M_takerTakes_6 rfl (lv_at hl 2 rfl) ?_
  refine lv_iload_n hx hb d_M_takerTakes_7 rfl (lv_at hl 1 rfl) ?_
  refine lv_iadd hx hb d_M_takerTakes_8 ?_
  exact retI C hw rfl (Option.some.inj h) d_M_takerTakes_9
def f_M_takesAct (c0 : Nat) (p1 : Int32) (p2 : Int32) (σ : St) : Option (Int32 × St) := (if ok p1 6 = true then (if (vJ σ 1 (nx p1)) = 2 then ((f_M_body c0 30 σ).bind fun q3 => ((f_M_takerTakes c0 p1 (p2 * 3) q3).bind fun q5 => some (q5.1, q5.2))) else (if (vJ σ 1 (nx p1)) = 3 then ((f_M_takerTakes c0 p1 p2 σ).bind fun q8 => some (q8.1, q8.2)) else (if (vJ σ 1 (nx p1)) = 4 then ((f_M_body c0 50 σ).bind fun q11 => ((f_M_takerTakes c0 p1 p2 q11).bind fun q13 => some ((-q13.1), q13.2))) else (if (vJ σ 1 (nx p1)) = 5 then ((f_M_body c0 30 σ).bind fun q16 => ((f_M_takerTakes c0 p1 (p2 * 3) q16).bind fun q18 => some (q18.1, q18.2))) else (if (vJ σ 1 (nx p1)) = 6 then ((f_M_body c0 71 σ).bind fun q21 => ((f_M_takerTakes c0 p1 p2 q21).bind fun q23 => (if ok p1 6 = true then some ((q23.1 ^^^ (vJ q23.2 2 (nx p1))), q23.2) else none))) else ((f_M_takerTakes c0 p1 p2 σ).bind fun q26 => some (q26.1, q26.2))))))) else none)
set_option maxHeartbeats 400000 in
set_option maxRecDepth 20000 in
theorem c_M_takesAct (g : GX) (c0 : Nat) (hc0 : tg BM c0 20) (p1 : Int32) (p2 : Int32) (σ : St) (q : Int32 × St) (h : f_M_takesAct c0 p1 p2 σ = some q) (l : Launch) : CT BM l y_M_takesAct (v_M_takesAct :: lwG) 3 [.ref (g.2.1 c0), .int p1, .int p2] g σ (QI BM g q) := by
  refine mkC (cc := b_M_takesAct) (maxL := 3) (ret := (some .int)) rfl (by decide) rfl (Nat.le_of_ble_eq_true rfl) ?_
  intro p e s m args below meth c A ls C hl hw
  obtain ⟨hx, hb, hr, hml, hown, hts, hK, hE, hA, hlk⟩ := id C
  replace hl : lv_has ls 3 [(0, .ref (g.2.1 c0)), (1, .int p1), (2, .int p2)] := hl
  obtain ⟨H, hH⟩ : ∃ z, z = s.heap := ⟨_, rfl⟩
  rw [← hH] at hw ⊢
  obtain ⟨locs, hlo⟩ : ∃ z : List Loc, z = [] := ⟨_, rfl⟩
  rw [← hlo] at hw ⊢
  unfold f_M_takesAct at h
  refine lv_aload_n hx hb d_M_takesAct_0 rfl (lv_at hl 0 rfl) ?_
  refine fg_M_19 C hw hc0 d_M_takesAct_1 ?_
  refine lv_iload_n hx hb d_M_takesAct_4 rfl (lv_at hl 1 rfl) ?_
  refine gde h (fun g1 h => ?_)
  refine ldI (n := 6) C hw tM_1 (by decide) g1 d_M_takesAct_5 ?_
  by_cases b2 : (vJ σ 1 (nx p1)) = 2
  · replace h := ifp b2 h
    refine swIn (k := 2) (tgt := 40) C b2 d_M_takesAct_6 (by decide) rfl (by decide) ?_
    refine lv_aload_n hx hb d_M_takesAct_40 rfl (lv_at hl 0 rfl) ?_
    refine lv_bipush (v := 30) hx hb d_M_takesAct_41 (by decide) ?_
    refine bnd h (fun q3 k4 h => ?_)
    refine clV C hw (invV (As := [.int 30]) C hw (c_M_body g c0 hc0 30 σ q3 k4 l) rfl wc_M_361 nd_M_body ⟨by decide, by decide⟩ (rc_M C hw hc0) rfl hl.1 rfl (Nat.le_of_ble_eq_true rfl) d_M_takesAct_43 ⟨Nat.le_refl _, Nat.le_refl _⟩) (fun H locs hw => ?_)
    refine lv_aload_n hx hb d_M_takesAct_46 rfl (lv_at hl 0 rfl) ?_
    refine lv_iload_n hx hb d_M_takesAct_47 rfl (lv_at hl 1 rfl) ?_
    refine lv_iload_n hx hb d_M_takesAct_48 rfl (lv_at hl 2 rfl) ?_
    refine lv_iconst (v := 3) hx hb d_M_takesAct_49 (by decide) ?_
    refine lv_imul hx hb d_M_takesAct_50 ?_
    refine bnd h (fun q5 k6 h => ?_)
    refine clI C hw (invV (As := [.int p1, .int (p2 * 3)]) C hw (c_M_takerTakes g c0 hc0 p1 (p2 * 3) q3 q5 k6 l) rfl wc_M_364 nd_M_takerTakes ⟨by decide, by decide⟩ (rc_M C hw hc0) rfl hl.1 rfl (Nat.le_of_ble_eq_true rfl) d_M_takesAct_51 ⟨Nat.le_refl _, Nat.le_refl _⟩) (fun H locs hw => ?_)
    exact retI C hw rfl (Option.some.inj h) d_M_takesAct_54
  · replace h := ifn b2 h
    by_cases b7 : (vJ σ 1 (nx p1)) = 3
    · replace h := ifp b7 h
      refine swIn (k := 3) (tgt := 89) C b7 d_M_takesAct_6 (by decide) rfl (by decide) ?_
      refine lv_aload_n hx hb d_M_takesAct_89 rfl (lv_at hl 0 rfl) ?_
      refine lv_iload_n hx hb d_M_takesAct_90 rfl (lv_at hl 1 rfl) ?_
      refine lv_iload_n hx hb d_M_takesAct_91 rfl (lv_at hl 2 rfl) ?_
      refine bnd h (fun q8 k9 h => ?_)
      refine clI C hw (invV (As := [.int p1, .int p2]) C hw (c_M_takerTakes g c0 hc0 p1 p2 σ q8 k9 l) rfl wc_M_364 nd_M_takerTakes ⟨by decide, by decide⟩ (rc_M C hw hc0) rfl hl.1 rfl (Nat.le_of_ble_eq_true rfl) d_M_takesAct_92 ⟨Nat.le_refl _, Nat.le_refl _⟩) (fun H locs hw => ?_)
      exact retI C hw rfl (Option.some.inj h) d_M_takesAct_95
    · replace h := ifn b7 h
      by_cases b10 : (vJ σ 1 (nx p1)) = 4
      · replace h := ifp b10 h
        refine swIn (k := 4) (tgt := 55) C b10 d_M_takesAct_6 (by decide) rfl (by decide) ?_
        refine lv_aload_n hx hb d_M_takesAct_55 rfl (lv_at hl 0 rfl) ?_
        refine lv_bipush (v := 50) hx hb d_M_takesAct_56 (by decide) ?_
        refine bnd h (fun q11 k12 h => ?_)
        refine clV C hw (invV (As := [.int 50]) C hw (c_M_body g c0 hc0 50 σ q11 k12 l) rfl wc_M_361 nd_M_body ⟨by decide, by decide⟩ (rc_M C hw hc0) rfl hl.1 rfl (Nat.le_of_ble_eq_true rfl) d_M_takesAct_58 ⟨Nat.le_refl _, Nat.le_refl _⟩) (fun H locs hw => ?_)
        refine lv_aload_n hx hb d_M_takesAct_61 rfl (lv_at hl 0 rfl) ?_
        refine lv_iload_n hx hb d_M_takesAct_62 rfl (lv_at hl 1 rfl) ?_
        refine lv_iload_n hx hb d_M_takesAct_63 rfl (lv_at hl 2 rfl) ?_
        refine bnd h (fun q13 k14 h => ?_)
        refine clI C hw (invV (As := [.int p1, .int p2]) C hw (c_M_takerTakes g c0 hc0 p1 p2 q11 q13 k14 l) rfl wc_M_364 nd_M_takerTakes ⟨by decide, by decide⟩ (rc_M C hw hc0) rfl hl.1 rfl (Nat.le_of_ble_eq_true rfl) d_M_takesAct_64 ⟨Nat.le_refl _, Nat.le_refl _⟩) (fun H locs hw => ?_)
        refine lv_ineg hx hb d_M_takesAct_67 ?_
        exact retI C hw rfl (Option.some.inj h) d_M_takesAct_68
      · replace h := ifn b10 h
        by_cases b15 : (vJ σ 1 (nx p1)) = 5
        · replace h := ifp b15 h
          refine swIn (k := 5) (tgt := 40) C b15 d_M_takesAct_6 (by decide) rfl (by decide) ?_
          refine lv_aload_n hx hb d_M_takesAct_40 rfl (lv_at hl 0 rfl) ?_
          refine lv_bipush (v := 30) hx hb d_M_takesAct_41 (by decide) ?_
          refine bnd h (fun q16 k17 h => ?_)
          refine clV C hw (invV (As := [.int 30]) C hw (c_M_body g c0 hc0 30 σ q16 k17 l) rfl wc_M_361 nd_M_body ⟨by decide, by decide⟩ (rc_M C hw hc0) rfl hl.1 rfl (Nat.le_of_ble_eq_true rfl) d_M_takesAct_43 ⟨Nat.le_refl _, Nat.le_refl _⟩) (fun H locs hw => ?_)
          refine lv_aload_n hx hb d_M_takesAct_46 rfl (lv_at hl 0 rfl) ?_
          refine lv_iload_n hx hb d_M_takesAct_47 rfl (lv_at hl 1 rfl) ?_
          refine lv_iload_n hx hb d_M_takesAct_48 rfl (lv_at hl 2 rfl) ?_
          refine lv_iconst (v := 3) hx hb d_M_takesAct_49 (by decide) ?_
          refine lv_imul hx hb d_M_takesAct_50 ?_
          refine bnd h (fun q18 k19 h => ?_)
          refine clI C hw (invV (As := [.int p1, .int (p2 * 3)]) C hw (c_M_takerTakes g c0 hc0 p1 (p2 * 3) q16 q18 k19 l) rfl wc_M_364 nd_M_takerTakes ⟨by decide, by decide⟩ (rc_M C hw hc0) rfl hl.1 rfl (Nat.le_of_ble_eq_true rfl) d_M_takesAct_51 ⟨Nat.le_refl _, Nat.le_refl _⟩) (fun H locs hw => ?_)
          exact retI C hw rfl (Option.some.inj h) d_M_takesAct_54
        · replace h := ifn b15 h
          by_cases b20 : (vJ σ 1 (nx p1)) = 6
          · replace h := ifp b20 h
            refine swIn (k := 6) (tgt := 69) C b20 d_M_takesAct_6 (by decide) rfl (by decide) ?_
            refine lv_aload_n hx hb d_M_takesAct_69 rfl (lv_at hl 0 rfl) ?_
            refine lv_bipush (v := 71) hx hb d_M_takesAct_70 (by decide) ?_
            refine bnd h (fun q21 k22 h => ?_)
            refine clV C hw (invV (As := [.int 71]) C hw (c_M_body g c0 hc0 71 σ q21 k22 l) rfl wc_M_361 nd_M_body ⟨by decide, by decide⟩ (rc_M C hw hc0) rfl hl.1 rfl (Nat.le_of_ble_eq_true rfl) d_M_takesAct_72 ⟨Nat.le_refl _, Nat.le_refl _⟩) (fun H locs hw => ?_)
            refine lv_aload_n hx hb d_M_takesAct_75 rfl (lv_at hl 0 rfl) ?_
            refine lv_iload_n hx hb d_M_takesAct_76 rfl (lv_at hl 1 rfl) ?_
            refine lv_iload_n hx hb d_M_takesAct_77 rfl (lv_at hl 2 rfl) ?_
            refine bnd h (fun q23 k24 h => ?_)
            refine clI C hw (invV (As := [.int p1, .int p2]) C hw (c_M_takerTakes g c0 hc0 p1 p2 q21 q23 k24 l) rfl wc_M_364 nd_M_takerTakes ⟨by decide, by decide⟩ (rc_M C hw hc0) rfl hl.1 rfl (Nat.le_of_ble_eq_true rfl) d_M_takesAct_78 ⟨Nat.le_refl _, Nat.le_refl _⟩) (fun H locs hw => ?_)
            refine lv_aload_n hx hb d_M_takesAct_81 rfl (lv_at hl 0 rfl) ?_
            refine fg_M_23 C hw hc0 d_M_takesAct_82 ?_
            refine lv_iload_n hx hb d_M_takesAct_85 rfl (lv_at hl 1 rfl) ?_
            refine gde h (fun g25 h => ?_)
            refine ldI (n := 6) C hw tM_2 (by decide) g25 d_M_takesAct_86 ?_
            refine lv_ixor hx hb d_M_takesAct_87 ?_
            exact retI C hw rfl (Option.some.inj h) d_M_takesAct_88
          · replace h := ifn b20 h
            refine swOut (tgt := 89) C d_M_takesAct_6 (fun z9 l9 h9 e9 => ?_) (by decide) ?_
            · have e10 : z9 = 2 ∨ z9 = 3 ∨ z9 = 4 ∨ z9 = 5 ∨ z9 = 6 := by omega
              rcases e10 with e10 | e10 | e10 | e10 | e10
              · exact lv_neT b2 (by decide) (e9.trans e10)
              · exact lv_neT b7 (by decide) (e9.trans e10)
              · exact lv_neT b10 (by decide) (e9.trans e10)
              · exact lv_neT b15 (by decide) (e9.trans e10)
              · exact lv_neT b20 (by decide) (e9.trans e10)
            · refine lv_aload_n hx hb d_M_takesAct_89 rfl (lv_at hl 0 rfl) ?_
              refine lv_iload_n hx hb d_M_takesAct_90 rfl (lv_at hl 1 rfl) ?_
              refine lv_iload_n hx hb d_M_takesAct_91 rfl (lv_at hl 2 rfl) ?_
              refine bnd h (fun q26 k27 h => ?_)
              refine clI C hw (invV (As := [.int p1, .int p2]) C hw (c_M_takerTakes g c0 hc0 p1 p2 σ q26 k27 l) rfl wc_M_364 nd_M_takerTakes ⟨by decide, by decide⟩ (rc_M C hw hc0) rfl hl.1 rfl (Nat.le_of_ble_eq_true rfl) d_M_takesAct_92 ⟨Nat.le_refl _, Nat.le_refl _⟩) (fun H locs hw => ?_)
              exact retI C hw rfl (Option.some.inj h) d_M_takesAct_95
def f_M_takerLeaves (c0 : Nat) (p1 : Int32) (p2 : Int32) (σ : St) : Option (Int32 × St) := ((f_M_body c0 11 σ).bind fun q1 => ((f_M_takesAct c0 p1 p2 q1).bind fun q3 => (if ok p1 6 = true then some ((q3.1 - (vJ q3.2 2 (nx p1))), q3.2) else none)))
set_option maxHeartbeats 400000 in
set_option maxRecDepth 20000 in
theorem c_M_takerLeaves (g : GX) (c0 : Nat) (hc0 : tg BM c0 20) (p1 : Int32) (p2 : Int32) (σ : St) (q : Int32 × St) (h : f_M_takerLeaves c0 p1 p2 σ = some q) (l : Launch) : CT BM l y_M_takerLeaves (v_M_takerLeaves :: lwG) 4 [.ref (g.2.1 c0), .int p1, .int p2] g σ (QI BM g q) := by
  refine mkC (cc := b_M_takerLeaves) (maxL := 3) (ret := (some .int)) rfl (by decide) rfl (Nat.le_of_ble_eq_true rfl) ?_
  intro p e s m args below meth c A ls C hl hw
  obtain ⟨hx, hb, hr, hml, hown, hts, hK, hE, hA, hlk⟩ := id C
  replace hl : lv_has ls 3 [(0, .ref (g.2.1 c0)), (1, .int p1), (2, .int p2)] := hl
  obtain ⟨H, hH⟩ : ∃ z, z = s.heap := ⟨_, rfl⟩
  rw [← hH] at hw ⊢
  obtain ⟨locs, hlo⟩ : ∃ z : List Loc, z = [] := ⟨_, rfl⟩
  rw [← hlo] at hw ⊢
  unfold f_M_takerLeaves at h
  refine lv_aload_n hx hb d_M_takerLeaves_0 rfl (lv_at hl 0 rfl) ?_
  refine lv_bipush (v := 11) hx hb d_M_takerLeaves_1 (by decide) ?_
  refine bnd h (fun q1 k2 h => ?_)
  refine clV C hw (invV (As := [.int 11]) C hw (c_M_body g c0 hc0 11 σ q1 k2 l) rfl wc_M_361 nd_M_body ⟨by decide, by decide⟩ (rc_M C hw hc0) rfl hl.1 rfl (Nat.le_of_ble_eq_true rfl) d_M_takerLeaves_3 ⟨Nat.le_refl _, Nat.le_refl _⟩) (fun H locs hw => ?_)
  refine lv_aload_n hx hb d_M_takerLeaves_6 rfl (lv_at hl 0 rfl) ?_
  refine lv_iload_n hx hb d_M_takerLeaves_7 rfl (lv_at hl 1 rfl) ?_
  refine lv_iload_n hx hb d_M_takerLeaves_8 rfl (lv_at hl 2 rfl) ?_
  refine bnd h (fun q3 k4 h => ?_)
  refine clI C hw (invV (As := [.int p1, .int p2]) C hw (c_M_takesAct g c0 hc0 p1 p2 q1 q3 k4 l) rfl wc_M_367 nd_M_takesAct ⟨by decide, by decide⟩ (rc_M C hw hc0) rfl hl.1 rfl (Nat.le_of_ble_eq_true rfl) d_M_takerLeaves_9 ⟨Nat.le_refl _, Nat.le_refl _⟩) (fun H locs hw => ?_)
  refine lv_aload_n hx hb d_M_takerLeaves_12 rfl (lv_at hl 0 rfl) ?_
  refine fg_M_23 C hw hc0 d_M_takerLeaves_13 ?_
  refine lv_iload_n hx hb d_M_takerLeaves_16 rfl (lv_at hl 1 rfl) ?_
  refine gde h (fun g5 h => ?_)
  refine ldI (n := 6) C hw tM_2 (by decide) g5 d_M_takerLeaves_17 ?_
  refine lv_isub hx hb d_M_takerLeaves_18 ?_
  exact retI C hw rfl (Option.some.inj h) d_M_takerLeaves_19
def f_M_halverLeaves (c0 : Nat) (p1 : Int32) (p2 : Int32) (σ : St) : Option (Int32 × St) := ((f_M_body c0 20 σ).bind fun q1 => ((f_M_takerLeaves c0 p1 p2 q1).bind fun q3 => some ((q3.1 ^^^ 6), q3.2)))
set_option maxHeartbeats 400000 in
set_option maxRecDepth 20000 in
theorem c_M_halverLeaves (g : GX) (c0 : Nat) (hc0 : tg BM c0 20) (p1 : Int32) (p2 : Int32) (σ : St) (q : Int32 × St) (h : f_M_halverLeaves c0 p1 p2 σ = some q) (l : Launch) : CT BM l y_M_halverLeaves (v_M_halverLeaves :: lwG) 5 [.ref (g.2.1 c0), .int p1, .int p2] g σ (QI BM g q) := by
  refine mkC (cc := b_M_halverLeaves) (maxL := 3) (ret := (some .int)) rfl (by decide) rfl (Nat.le_of_ble_eq_true rfl) ?_
  intro p e s m args below meth c A ls C hl hw
  obtain ⟨hx, hb, hr, hml, hown, hts, hK, hE, hA, hlk⟩ := id C
  replace hl : lv_has ls 3 [(0, .ref (g.2.1 c0)), (1, .int p1), (2, .int p2)] := hl
  obtain ⟨H, hH⟩ : ∃ z, z = s.heap := ⟨_, rfl⟩
  rw [← hH] at hw ⊢
  obtain ⟨locs, hlo⟩ : ∃ z : List Loc, z = [] := ⟨_, rfl⟩
  rw [← hlo] at hw ⊢
  unfold f_M_halverLeaves at h
  refine lv_aload_n hx hb d_M_halverLeaves_0 rfl (lv_at hl 0 rfl) ?_
  refine lv_bipush (v := 20) hx hb d_M_halverLeaves_1 (by decide) ?_
  refine bnd h (fun q1 k2 h => ?_)
  refine clV C hw (invV (As := [.int 20]) C hw (c_M_body g c0 hc0 20 σ q1 k2 l) rfl wc_M_361 nd_M_body ⟨by decide, by decide⟩ (rc_M C hw hc0) rfl hl.1 rfl (Nat.le_of_ble_eq_true rfl) d_M_halverLeaves_3 ⟨Nat.le_refl _, Nat.le_refl _⟩) (fun H locs hw => ?_)
  refine lv_aload_n hx hb d_M_halverLeaves_6 rfl (lv_at hl 0 rfl) ?_
  refine lv_iload_n hx hb d_M_halverLeaves_7 rfl (lv_at hl 1 rfl) ?_
  refine lv_iload_n hx hb d_M_halverLeaves_8 rfl (lv_at hl 2 rfl) ?_
  refine bnd h (fun q3 k4 h => ?_)
  refine clI C hw (invV (As := [.int p1, .int p2]) C hw (c_M_takerLeaves g c0 hc0 p1 p2 q1 q3 k4 l) rfl wc_M_370 nd_M_takerLeaves ⟨by decide, by decide⟩ (rc_M C hw hc0) rfl hl.1 rfl (Nat.le_of_ble_eq_true rfl) d_M_halverLeaves_9 ⟨Nat.le_refl _, Nat.le_refl _⟩) (fun H locs hw => ?_)
  refine lv_bipush (v := 6) hx hb d_M_halverLeaves_12 (by decide) ?_
  refine lv_ixor hx hb d_M_halverLeaves_14 ?_
  exact retI C hw rfl (Option.some.inj h) d_M_halverLeaves_15
def f_M_leavesAct (c0 : Nat) (p1 : Int32) (p2 : Int32) (σ : St) : Option (Int32 × St) := (if ok p1 6 = true then (if (vJ σ 1 (nx p1)) = 1 then ((f_M_halverLeaves c0 p1 p2 σ).bind fun q3 => some (q3.1, q3.2)) else (if (vJ σ 1 (nx p1)) = 4 then ((f_M_body c0 51 σ).bind fun q6 => ((f_M_halverLeaves c0 p1 (p2 + 1) q6).bind fun q8 => some (q8.1, q8.2))) else (if (vJ σ 1 (nx p1)) = 6 then ((f_M_body c0 70 σ).bind fun q11 => ((f_M_takerLeaves c0 p1 p2 q11).bind fun q13 => ((f_M_takerTakes c0 p1 2 q13.2).bind fun q15 => some ((q13.1 + q15.1), q15.2)))) else ((f_M_takerLeaves c0 p1 p2 σ).bind fun q17 => some (q17.1, q17.2))))) else none)
set_option maxHeartbeats 400000 in
set_option maxRecDepth 20000 in
theorem c_M_leavesAct (g : GX) (c0 : Nat) (hc0 : tg BM c0 20) (p1 : Int32) (p2 : Int32) (σ : St) (q : Int32 × St) (h : f_M_leavesAct c0 p1 p2 σ = some q) (l : Launch) : CT BM l y_M_leavesAct (v_M_leavesAct :: lwG) 6 [.ref (g.2.1 c0), .int p1, .int p2] g σ (QI BM g q) := by
  refine mkC (cc := b_M_leavesAct) (maxL := 4) (ret := (some .int)) rfl (by decide) rfl (Nat.le_of_ble_eq_true rfl) ?_
  intro p e s m args below meth c A ls C hl hw
  obtain ⟨hx, hb, hr, hml, hown, hts, hK, hE, hA, hlk⟩ := id C
  replace hl : lv_has ls 4 [(0, .ref (g.2.1 c0)), (1, .int p1), (2, .int p2)] := hl
  obtain ⟨H, hH⟩ : ∃ z, z = s.heap := ⟨_, rfl⟩
  rw [← hH] at hw ⊢
  obtain ⟨locs, hlo⟩ : ∃ z : List Loc, z = [] := ⟨_, rfl⟩
  rw [← hlo] at hw ⊢
  unfold f_M_leavesAct at h
  refine lv_aload_n hx hb d_M_leavesAct_0 rfl (lv_at hl 0 rfl) ?_
  refine fg_M_19 C hw hc0 d_M_leavesAct_1 ?_
  refine lv_iload_n hx hb d_M_leavesAct_4 rfl (lv_at hl 1 rfl) ?_
  refine gde h (fun g1 h => ?_)
  refine ldI (n := 6) C hw tM_1 (by decide) g1 d_M_leavesAct_5 ?_
  by_cases b2 : (vJ σ 1 (nx p1)) = 1
  · replace h := ifp b2 h
    refine lv_lookup (off := 34) (tgt := 40) hx hb d_M_leavesAct_6 (by decide) (by rw [b2]; decide) (by decide) ?_
    refine lv_aload_n hx hb d_M_leavesAct_40 rfl (lv_at hl 0 rfl) ?_
    refine lv_iload_n hx hb d_M_leavesAct_41 rfl (lv_at hl 1 rfl) ?_
    refine lv_iload_n hx hb d_M_leavesAct_42 rfl (lv_at hl 2 rfl) ?_
    refine bnd h (fun q3 k4 h => ?_)
    refine clI C hw (invV (As := [.int p1, .int p2]) C hw (c_M_halverLeaves g c0 hc0 p1 p2 σ q3 k4 l) rfl wc_M_373 nd_M_halverLeaves ⟨by decide, by decide⟩ (rc_M C hw hc0) rfl hl.1 rfl (Nat.le_of_ble_eq_true rfl) d_M_leavesAct_43 ⟨Nat.le_refl _, Nat.le_refl _⟩) (fun H locs hw => ?_)
    exact retI C hw rfl (Option.some.inj h) d_M_leavesAct_46
  · replace h := ifn b2 h
    by_cases b5 : (vJ σ 1 (nx p1)) = 4
    · replace h := ifp b5 h
      refine lv_lookup (off := 41) (tgt := 47) hx hb d_M_leavesAct_6 (by decide) (by rw [b5]; decide) (by decide) ?_
      refine lv_aload_n hx hb d_M_leavesAct_47 rfl (lv_at hl 0 rfl) ?_
      refine lv_bipush (v := 51) hx hb d_M_leavesAct_48 (by decide) ?_
      refine bnd h (fun q6 k7 h => ?_)
      refine clV C hw (invV (As := [.int 51]) C hw (c_M_body g c0 hc0 51 σ q6 k7 l) rfl wc_M_361 nd_M_body ⟨by decide, by decide⟩ (rc_M C hw hc0) rfl hl.1 rfl (Nat.le_of_ble_eq_true rfl) d_M_leavesAct_50 ⟨Nat.le_refl _, Nat.le_refl _⟩) (fun H locs hw => ?_)
      refine lv_aload_n hx hb d_M_leavesAct_53 rfl (lv_at hl 0 rfl) ?_
      refine lv_iload_n hx hb d_M_leavesAct_54 rfl (lv_at hl 1 rfl) ?_
      refine lv_iload_n hx hb d_M_leavesAct_55 rfl (lv_at hl 2 rfl) ?_
      refine lv_iconst (v := 1) hx hb d_M_leavesAct_56 (by decide) ?_
      refine lv_iadd hx hb d_M_leavesAct_57 ?_
      refine bnd h (fun q8 k9 h => ?_)
      refine clI C hw (invV (As := [.int p1, .int (p2 + 1)]) C hw (c_M_halverLeaves g c0 hc0 p1 (p2 + 1) q6 q8 k9 l) rfl wc_M_373 nd_M_halverLeaves ⟨by decide, by decide⟩ (rc_M C hw hc0) rfl hl.1 rfl (Nat.le_of_ble_eq_true rfl) d_M_leavesAct_58 ⟨Nat.le_refl _, Nat.le_refl _⟩) (fun H locs hw => ?_)
      exact retI C hw rfl (Option.some.inj h) d_M_leavesAct_61
    · replace h := ifn b5 h
      by_cases b10 : (vJ σ 1 (nx p1)) = 6
      · replace h := ifp b10 h
        refine lv_lookup (off := 56) (tgt := 62) hx hb d_M_leavesAct_6 (by decide) (by rw [b10]; decide) (by decide) ?_
        refine lv_aload_n hx hb d_M_leavesAct_62 rfl (lv_at hl 0 rfl) ?_
        refine lv_bipush (v := 70) hx hb d_M_leavesAct_63 (by decide) ?_
        refine bnd h (fun q11 k12 h => ?_)
        refine clV C hw (invV (As := [.int 70]) C hw (c_M_body g c0 hc0 70 σ q11 k12 l) rfl wc_M_361 nd_M_body ⟨by decide, by decide⟩ (rc_M C hw hc0) rfl hl.1 rfl (Nat.le_of_ble_eq_true rfl) d_M_leavesAct_65 ⟨Nat.le_refl _, Nat.le_refl _⟩) (fun H locs hw => ?_)
        refine lv_aload_n hx hb d_M_leavesAct_68 rfl (lv_at hl 0 rfl) ?_
        refine lv_iload_n hx hb d_M_leavesAct_69 rfl (lv_at hl 1 rfl) ?_
        refine lv_iload_n hx hb d_M_leavesAct_70 rfl (lv_at hl 2 rfl) ?_
        refine bnd h (fun q13 k14 h => ?_)
        refine clI C hw (invV (As := [.int p1, .int p2]) C hw (c_M_takerLeaves g c0 hc0 p1 p2 q11 q13 k14 l) rfl wc_M_370 nd_M_takerLeaves ⟨by decide, by decide⟩ (rc_M C hw hc0) rfl hl.1 rfl (Nat.le_of_ble_eq_true rfl) d_M_leavesAct_71 ⟨Nat.le_refl _, Nat.le_refl _⟩) (fun H locs hw => ?_)
        refine lv_istore_n (lv' := [(3, .int q13.1), (0, .ref (g.2.1 c0)), (1, .int p1), (2, .int p2)]) hx hb d_M_leavesAct_74 rfl hl (by decide) rfl (fun ls hl => ?_)
        refine lv_iload_n hx hb d_M_leavesAct_75 rfl (lv_at hl 0 rfl) ?_
        refine lv_aload_n hx hb d_M_leavesAct_76 rfl (lv_at hl 1 rfl) ?_
        refine lv_iload_n hx hb d_M_leavesAct_77 rfl (lv_at hl 2 rfl) ?_
        refine lv_iconst (v := 2) hx hb d_M_leavesAct_78 (by decide) ?_
        refine bnd h (fun q15 k16 h => ?_)
        refine clI C hw (invV (As := [.int p1, .int 2]) C hw (c_M_takerTakes g c0 hc0 p1 2 q13.2 q15 k16 l) rfl wc_M_364 nd_M_takerTakes ⟨by decide, by decide⟩ (rc_M C hw hc0) rfl hl.1 rfl (Nat.le_of_ble_eq_true rfl) d_M_leavesAct_79 ⟨Nat.le_refl _, Nat.le_refl _⟩) (fun H locs hw => ?_)
        refine lv_iadd hx hb d_M_leavesAct_82 ?_
        exact retI C hw rfl (Option.some.inj h) d_M_leavesAct_83
      · replace h := ifn b10 h
        refine lv_lookup (off := 78) (tgt := 84) hx hb d_M_leavesAct_6 (by decide) ((lv_osw b2 (by decide)).trans ((lv_osw b5 (by decide)).trans ((lv_osw b10 (by decide)).trans (rfl)))) (by decide) ?_
        refine lv_aload_n hx hb d_M_leavesAct_84 rfl (lv_at hl 0 rfl) ?_
        refine lv_iload_n hx hb d_M_leavesAct_85 rfl (lv_at hl 1 rfl) ?_
        refine lv_iload_n hx hb d_M_leavesAct_86 rfl (lv_at hl 2 rfl) ?_
        refine bnd h (fun q17 k18 h => ?_)
        refine clI C hw (invV (As := [.int p1, .int p2]) C hw (c_M_takerLeaves g c0 hc0 p1 p2 σ q17 k18 l) rfl wc_M_370 nd_M_takerLeaves ⟨by decide, by decide⟩ (rc_M C hw hc0) rfl hl.1 rfl (Nat.le_of_ble_eq_true rfl) d_M_leavesAct_87 ⟨Nat.le_refl _, Nat.le_refl _⟩) (fun H locs hw => ?_)
        exact retI C hw rfl (Option.some.inj h) d_M_leavesAct_90
def f_M_takerTells (c0 : Nat) (p1 : Int32) (p2 : Int32) (σ : St) : Option (Int32 × St) := ((f_M_body c0 12 σ).bind fun q1 => ((f_M_leavesAct c0 p1 p2 q1).bind fun q3 => some ((q3.1 * 2), q3.2)))
set_option maxHeartbeats 400000 in
set_option maxRecDepth 20000 in
theorem c_M_takerTells (g : GX) (c0 : Nat) (hc0 : tg BM c0 20) (p1 : Int32) (p2 : Int32) (σ : St) (q : Int32 × St) (h : f_M_takerTells c0 p1 p2 σ = some q) (l : Launch) : CT BM l y_M_takerTells (v_M_takerTells :: lwG) 7 [.ref (g.2.1 c0), .int p1, .int p2] g σ (QI BM g q) := by
  refine mkC (cc := b_M_takerTells) (maxL := 3) (ret := (some .int)) rfl (by decide) rfl (Nat.le_of_ble_eq_true rfl) ?_
  intro p e s m args below meth c A ls C hl hw
  obtain ⟨hx, hb, hr, hml, hown, hts, hK, hE, hA, hlk⟩ := id C
  replace hl : lv_has ls 3 [(0, .ref (g.2.1 c0)), (1, .int p1), (2, .int p2)] := hl
  obtain ⟨H, hH⟩ : ∃ z, z = s.heap := ⟨_, rfl⟩
  rw [← hH] at hw ⊢
  obtain ⟨locs, hlo⟩ : ∃ z : List Loc, z = [] := ⟨_, rfl⟩
  rw [← hlo] at hw ⊢
  unfold f_M_takerTells at h
  refine lv_aload_n hx hb d_M_takerTells_0 rfl (lv_at hl 0 rfl) ?_
  refine lv_bipush (v := 12) hx hb d_M_takerTells_1 (by decide) ?_
  refine bnd h (fun q1 k2 h => ?_)
  refine clV C hw (invV (As := [.int 12]) C hw (c_M_body g c0 hc0 12 σ q1 k2 l) rfl wc_M_361 nd_M_body ⟨by decide, by decide⟩ (rc_M C hw hc0) rfl hl.1 rfl (Nat.le_of_ble_eq_true rfl) d_M_takerTells_3 ⟨Nat.le_refl _, Nat.le_refl _⟩) (fun H locs hw => ?_)
  refine lv_aload_n hx hb d_M_takerTells_6 rfl (lv_at hl 0 rfl) ?_
  refine lv_iload_n hx hb d_M_takerTells_7 rfl (lv_at hl 1 rfl) ?_
  refine lv_iload_n hx hb d_M_takerTells_8 rfl (lv_at hl 2 rfl) ?_
  refine bnd h (fun q3 k4 h => ?_)
  refine clI C hw (invV (As := [.int p1, .int p2]) C hw (c_M_leavesAct g c0 hc0 p1 p2 q1 q3 k4 l) rfl wc_M_376 nd_M_leavesAct ⟨by decide, by decide⟩ (rc_M C hw hc0) rfl hl.1 rfl (Nat.le_of_ble_eq_true rfl) d_M_takerTells_9 ⟨Nat.le_refl _, Nat.le_refl _⟩) (fun H locs hw => ?_)
  refine lv_iconst (v := 2) hx hb d_M_takerTells_12 (by decide) ?_
  refine lv_imul hx hb d_M_takerTells_13 ?_
  exact retI C hw rfl (Option.some.inj h) d_M_takerTells_14
def f_M_tellsAct (c0 : Nat) (p1 : Int32) (p2 : Int32) (σ : St) : Option (Int32 × St) := (if ok p1 6 = true then (if (vJ σ 1 (nx p1)) = 3 then ((f_M_body c0 40 σ).bind fun q3 => ((f_M_takerTells c0 p1 p2 q3).bind fun q5 => ((f_M_leavesAct c0 p1 1 q5.2).bind fun q7 => some ((q5.1 + q7.1), q7.2)))) else (if (vJ σ 1 (nx p1)) = 4 then ((f_M_takerTells c0 p1 p2 σ).bind fun q10 => some (q10.1, q10.2)) else (if (vJ σ 1 (nx p1)) = 5 then ((f_M_body c0 60 σ).bind fun q13 => ((f_M_takerTells c0 p1 (p2 - p1) q13).bind fun q15 => some (q15.1, q15.2))) else (if (vJ σ 1 (nx p1)) = 6 then ((f_M_body c0 40 σ).bind fun q18 => ((f_M_takerTells c0 p1 p2 q18).bind fun q20 => ((f_M_leavesAct c0 p1 1 q20.2).bind fun q22 => some ((q20.1 + q22.1), q22.2)))) else ((f_M_takerTells c0 p1 p2 σ).bind fun q24 => some (q24.1, q24.2)))))) else none)
set_option maxHeartbeats 400000 in
set_option maxRecDepth 20000 in
theorem c_M_tellsAct (g : GX) (c0 : Nat) (hc0 : tg BM c0 20) (p1 : Int32) (p2 : Int32) (σ : St) (q : Int32 × St) (h : f_M_tellsAct c0 p1 p2 σ = some q) (l : Launch) : CT BM l y_M_tellsAct (v_M_tellsAct :: lwG) 8 [.ref (g.2.1 c0), .int p1, .int p2] g σ (QI BM g q) := by
  refine mkC (cc := b_M_tellsAct) (maxL := 4) (ret := (some .int)) rfl (by decide) rfl (Nat.le_of_ble_eq_true rfl) ?_
  intro p e s m args below meth c A ls C hl hw
  obtain ⟨hx, hb, hr, hml, hown, hts, hK, hE, hA, hlk⟩ := id C
  replace hl : lv_has ls 4 [(0, .ref (g.2.1 c0)), (1, .int p1), (2, .int p2)] := hl
  obtain ⟨H, hH⟩ : ∃ z, z = s.heap := ⟨_, rfl⟩
  rw [← hH] at hw ⊢
  obtain ⟨locs, hlo⟩ : ∃ z : List Loc, z = [] := ⟨_, rfl⟩
  rw [← hlo] at hw ⊢
  unfold f_M_tellsAct at h
  refine lv_aload_n hx hb d_M_tellsAct_0 rfl (lv_at hl 0 rfl) ?_
  refine fg_M_19 C hw hc0 d_M_tellsAct_1 ?_
  refine lv_iload_n hx hb d_M_tellsAct_4 rfl (lv_at hl 1 rfl) ?_
  refine gde h (fun g1 h => ?_)
  refine ldI (n := 6) C hw tM_1 (by decide) g1 d_M_tellsAct_5 ?_
  by_cases b2 : (vJ σ 1 (nx p1)) = 3
  · replace h := ifp b2 h
    refine swIn (k := 3) (tgt := 36) C b2 d_M_tellsAct_6 (by decide) rfl (by decide) ?_
    refine lv_aload_n hx hb d_M_tellsAct_36 rfl (lv_at hl 0 rfl) ?_
    refine lv_bipush (v := 40) hx hb d_M_tellsAct_37 (by decide) ?_
    refine bnd h (fun q3 k4 h => ?_)
    refine clV C hw (invV (As := [.int 40]) C hw (c_M_body g c0 hc0 40 σ q3 k4 l) rfl wc_M_361 nd_M_body ⟨by decide, by decide⟩ (rc_M C hw hc0) rfl hl.1 rfl (Nat.le_of_ble_eq_true rfl) d_M_tellsAct_39 ⟨Nat.le_refl _, Nat.le_refl _⟩) (fun H locs hw => ?_)
    refine lv_aload_n hx hb d_M_tellsAct_42 rfl (lv_at hl 0 rfl) ?_
    refine lv_iload_n hx hb d_M_tellsAct_43 rfl (lv_at hl 1 rfl) ?_
    refine lv_iload_n hx hb d_M_tellsAct_44 rfl (lv_at hl 2 rfl) ?_
    refine bnd h (fun q5 k6 h => ?_)
    refine clI C hw (invV (As := [.int p1, .int p2]) C hw (c_M_takerTells g c0 hc0 p1 p2 q3 q5 k6 l) rfl wc_M_379 nd_M_takerTells ⟨by decide, by decide⟩ (rc_M C hw hc0) rfl hl.1 rfl (Nat.le_of_ble_eq_true rfl) d_M_tellsAct_45 ⟨Nat.le_refl _, Nat.le_refl _⟩) (fun H locs hw => ?_)
    refine lv_istore_n (lv' := [(3, .int q5.1), (0, .ref (g.2.1 c0)), (1, .int p1), (2, .int p2)]) hx hb d_M_tellsAct_48 rfl hl (by decide) rfl (fun ls hl => ?_)
    refine lv_iload_n hx hb d_M_tellsAct_49 rfl (lv_at hl 0 rfl) ?_
    refine lv_aload_n hx hb d_M_tellsAct_50 rfl (lv_at hl 1 rfl) ?_
    refine lv_iload_n hx hb d_M_tellsAct_51 rfl (lv_at hl 2 rfl) ?_
    refine lv_iconst (v := 1) hx hb d_M_tellsAct_52 (by decide) ?_
    refine bnd h (fun q7 k8 h => ?_)
    refine clI C hw (invV (As := [.int p1, .int 1]) C hw (c_M_leavesAct g c0 hc0 p1 1 q5.2 q7 k8 l) rfl wc_M_376 nd_M_leavesAct ⟨by decide, by decide⟩ (rc_M C hw hc0) rfl hl.1 rfl (Nat.le_of_ble_eq_true rfl) d_M_tellsAct_53 ⟨Nat.le_refl _, Nat.le_refl _⟩) (fun H locs hw => ?_)
    refine lv_iadd hx hb d_M_tellsAct_56 ?_
    exact retI C hw rfl (Option.some.inj h) d_M_tellsAct_57
  · replace h := ifn b2 h
    by_cases b9 : (vJ σ 1 (nx p1)) = 4
    · replace h := ifp b9 h
      refine swIn (k := 4) (tgt := 73) C b9 d_M_tellsAct_6 (by decide) rfl (by decide) ?_
      refine lv_aload_n hx hb d_M_tellsAct_73 rfl (lv_at hl 0 rfl) ?_
      refine lv_iload_n hx hb d_M_tellsAct_74 rfl (lv_at hl 1 rfl) ?_
      refine lv_iload_n hx hb d_M_tellsAct_75 rfl (lv_at hl 2 rfl) ?_
      refine bnd h (fun q10 k11 h => ?_)
      refine clI C hw (invV (As := [.int p1, .int p2]) C hw (c_M_takerTells g c0 hc0 p1 p2 σ q10 k11 l) rfl wc_M_379 nd_M_takerTells ⟨by decide, by decide⟩ (rc_M C hw hc0) rfl hl.1 rfl (Nat.le_of_ble_eq_true rfl) d_M_tellsAct_76 ⟨Nat.le_refl _, Nat.le_refl _⟩) (fun H locs hw => ?_)
      exact retI C hw rfl (Option.some.inj h) d_M_tellsAct_79
    · replace h := ifn b9 h
      by_cases b12 : (vJ σ 1 (nx p1)) = 5
      · replace h := ifp b12 h
        refine swIn (k := 5) (tgt := 58) C b12 d_M_tellsAct_6 (by decide) rfl (by decide) ?_
        refine lv_aload_n hx hb d_M_tellsAct_58 rfl (lv_at hl 0 rfl) ?_
        refine lv_bipush (v := 60) hx hb d_M_tellsAct_59 (by decide) ?_
        refine bnd h (fun q13 k14 h => ?_)
        refine clV C hw (invV (As := [.int 60]) C hw (c_M_body g c0 hc0 60 σ q13 k14 l) rfl wc_M_361 nd_M_body ⟨by decide, by decide⟩ (rc_M C hw hc0) rfl hl.1 rfl (Nat.le_of_ble_eq_true rfl) d_M_tellsAct_61 ⟨Nat.le_refl _, Nat.le_refl _⟩) (fun H locs hw => ?_)
        refine lv_aload_n hx hb d_M_tellsAct_64 rfl (lv_at hl 0 rfl) ?_
        refine lv_iload_n hx hb d_M_tellsAct_65 rfl (lv_at hl 1 rfl) ?_
        refine lv_iload_n hx hb d_M_tellsAct_66 rfl (lv_at hl 2 rfl) ?_
        refine lv_iload_n hx hb d_M_tellsAct_67 rfl (lv_at hl 1 rfl) ?_
        refine lv_isub hx hb d_M_tellsAct_68 ?_
        refine bnd h (fun q15 k16 h => ?_)
        refine clI C hw (invV (As := [.int p1, .int (p2 - p1)]) C hw (c_M_takerTells g c0 hc0 p1 (p2 - p1) q13 q15 k16 l) rfl wc_M_379 nd_M_takerTells ⟨by decide, by decide⟩ (rc_M C hw hc0) rfl hl.1 rfl (Nat.le_of_ble_eq_true rfl) d_M_tellsAct_69 ⟨Nat.le_refl _, Nat.le_refl _⟩) (fun H locs hw => ?_)
        exact retI C hw rfl (Option.some.inj h) d_M_tellsAct_72
      · replace h := ifn b12 h
        by_cases b17 : (vJ σ 1 (nx p1)) = 6
        · replace h := ifp b17 h
          refine swIn (k := 6) (tgt := 36) C b17 d_M_tellsAct_6 (by decide) rfl (by decide) ?_
          refine lv_aload_n hx hb d_M_tellsAct_36 rfl (lv_at hl 0 rfl) ?_
          refine lv_bipush (v := 40) hx hb d_M_tellsAct_37 (by decide) ?_
          refine bnd h (fun q18 k19 h => ?_)
          refine clV C hw (invV (As := [.int 40]) C hw (c_M_body g c0 hc0 40 σ q18 k19 l) rfl wc_M_361 nd_M_body ⟨by decide, by decide⟩ (rc_M C hw hc0) rfl hl.1 rfl (Nat.le_of_ble_eq_true rfl) d_M_tellsAct_39 ⟨Nat.le_refl _, Nat.le_refl _⟩) (fun H locs hw => ?_)
          refine lv_aload_n hx hb d_M_tellsAct_42 rfl (lv_at hl 0 rfl) ?_
          refine lv_iload_n hx hb d_M_tellsAct_43 rfl (lv_at hl 1 rfl) ?_
          refine lv_iload_n hx hb d_M_tellsAct_44 rfl (lv_at hl 2 rfl) ?_
          refine bnd h (fun q20 k21 h => ?_)
          refine clI C hw (invV (As := [.int p1, .int p2]) C hw (c_M_takerTells g c0 hc0 p1 p2 q18 q20 k21 l) rfl wc_M_379 nd_M_takerTells ⟨by decide, by decide⟩ (rc_M C hw hc0) rfl hl.1 rfl (Nat.le_of_ble_eq_true rfl) d_M_tellsAct_45 ⟨Nat.le_refl _, Nat.le_refl _⟩) (fun H locs hw => ?_)
          refine lv_istore_n (lv' := [(3, .int q20.1), (0, .ref (g.2.1 c0)), (1, .int p1), (2, .int p2)]) hx hb d_M_tellsAct_48 rfl hl (by decide) rfl (fun ls hl => ?_)
          refine lv_iload_n hx hb d_M_tellsAct_49 rfl (lv_at hl 0 rfl) ?_
          refine lv_aload_n hx hb d_M_tellsAct_50 rfl (lv_at hl 1 rfl) ?_
          refine lv_iload_n hx hb d_M_tellsAct_51 rfl (lv_at hl 2 rfl) ?_
          refine lv_iconst (v := 1) hx hb d_M_tellsAct_52 (by decide) ?_
          refine bnd h (fun q22 k23 h => ?_)
          refine clI C hw (invV (As := [.int p1, .int 1]) C hw (c_M_leavesAct g c0 hc0 p1 1 q20.2 q22 k23 l) rfl wc_M_376 nd_M_leavesAct ⟨by decide, by decide⟩ (rc_M C hw hc0) rfl hl.1 rfl (Nat.le_of_ble_eq_true rfl) d_M_tellsAct_53 ⟨Nat.le_refl _, Nat.le_refl _⟩) (fun H locs hw => ?_)
          refine lv_iadd hx hb d_M_tellsAct_56 ?_
          exact retI C hw rfl (Option.some.inj h) d_M_tellsAct_57
        · replace h := ifn b17 h
          refine swOut (tgt := 73) C d_M_tellsAct_6 (fun z9 l9 h9 e9 => ?_) (by decide) ?_
          · have e10 : z9 = 3 ∨ z9 = 4 ∨ z9 = 5 ∨ z9 = 6 := by omega
            rcases e10 with e10 | e10 | e10 | e10
            · exact lv_neT b2 (by decide) (e9.trans e10)
            · exact lv_neT b9 (by decide) (e9.trans e10)
            · exact lv_neT b12 (by decide) (e9.trans e10)
            · exact lv_neT b17 (by decide) (e9.trans e10)
          · refine lv_aload_n hx hb d_M_tellsAct_73 rfl (lv_at hl 0 rfl) ?_
            refine lv_iload_n hx hb d_M_tellsAct_74 rfl (lv_at hl 1 rfl) ?_
            refine lv_iload_n hx hb d_M_tellsAct_75 rfl (lv_at hl 2 rfl) ?_
            refine bnd h (fun q24 k25 h => ?_)
            refine clI C hw (invV (As := [.int p1, .int p2]) C hw (c_M_takerTells g c0 hc0 p1 p2 σ q24 k25 l) rfl wc_M_379 nd_M_takerTells ⟨by decide, by decide⟩ (rc_M C hw hc0) rfl hl.1 rfl (Nat.le_of_ble_eq_true rfl) d_M_tellsAct_76 ⟨Nat.le_refl _, Nat.le_refl _⟩) (fun H locs hw => ?_)
            exact retI C hw rfl (Option.some.inj h) d_M_tellsAct_79
def f_M_act (c0 : Nat) (p1 : Int32) (p2 : Int32) (p3 : Int32) (σ : St) : Option (Int32 × St) := (st (sI σ c0 62 0) fun s2 => (if (f_M_isTaker c0 p1 s2) = false then some (0, s2) else (if (f_M_in c0 p2 0 2) = false then some (0, s2) else (if p2 = 0 then ((f_M_takesAct c0 p1 p3 s2).bind fun q11 => some (q11.1, q11.2)) else (if p2 = 1 then ((f_M_leavesAct c0 p1 p3 s2).bind fun q9 => some (q9.1, q9.2)) else ((f_M_tellsAct c0 p1 p3 s2).bind fun q7 => some (q7.1, q7.2)))))))
set_option maxHeartbeats 400000 in
set_option maxRecDepth 20000 in
theorem c_M_act (g : GX) (c0 : Nat) (hc0 : tg BM c0 20) (p1 : Int32) (p2 : Int32) (p3 : Int32) (σ : St) (q : Int32 × St) (h : f_M_act c0 p1 p2 p3 σ = some q) (l : Launch) : CT BM l y_M_act (v_M_act :: lwG) 9 [.ref (g.2.1 c0), .int p1, .int p2, .int p3] g σ (QI BM g q) := by
  refine mkC (cc := b_M_act) (maxL := 4) (ret := (some .int)) rfl (by decide) rfl (Nat.le_of_ble_eq_true rfl) ?_
  intro p e s m args below meth c A ls C hl hw
  obtain ⟨hx, hb, hr, hml, hown, hts, hK, hE, hA, hlk⟩ := id C
  replace hl : lv_has ls 4 [(0, .ref (g.2.1 c0)), (1, .int p1), (2, .int p2), (3, .int p3)] := hl
  obtain ⟨H, hH⟩ : ∃ z, z = s.heap := ⟨_, rfl⟩
  rw [← hH] at hw ⊢
  obtain ⟨locs, hlo⟩ : ∃ z : List Loc, z = [] := ⟨_, rfl⟩
  rw [← hlo] at hw ⊢
  unfold f_M_act at h
  refine lv_aload_n hx hb d_M_act_0 rfl (lv_at hl 0 rfl) ?_
  refine lv_iconst (v := 0) hx hb d_M_act_1 (by decide) ?_
  refine ste h (fun s2 e13 h => ?_)
  refine fp_M_199 C hw hc0 d_M_act_2 (fun H locs hw => ?_)
  replace hw := HWe hw e13
  refine lv_aload_n hx hb d_M_act_5 rfl (lv_at hl 0 rfl) ?_
  refine lv_iload_n hx hb d_M_act_6 rfl (lv_at hl 1 rfl) ?_
  refine clZ0 (v := (f_M_isTaker c0 p1 s2)) C hw (invV (As := [.int p1]) C hw (c_M_isTaker g c0 hc0 p1 s2 l) rfl wc_M_222 nd_M_isTaker ⟨by decide, by decide⟩ (rc_M C hw hc0) rfl hl.1 rfl (Nat.le_of_ble_eq_true rfl) d_M_act_7 ⟨Nat.le_refl _, Nat.le_refl _⟩) (fun H locs hw => ?_)
  refine ifB (tgt := 23) C d_M_act_10 (by decide) (fun b3 => ?_) (fun b3 => ?_)
  · replace h := ifp b3 h
    refine lv_iconst (v := 0) hx hb d_M_act_23 (by decide) ?_
    exact retI C hw rfl (Option.some.inj h) d_M_act_24
  · replace h := ifn b3 h
    refine lv_aload_n hx hb d_M_act_13 rfl (lv_at hl 0 rfl) ?_
    refine lv_iload_n hx hb d_M_act_14 rfl (lv_at hl 2 rfl) ?_
    refine lv_iconst (v := 0) hx hb d_M_act_15 (by decide) ?_
    refine lv_iconst (v := 2) hx hb d_M_act_16 (by decide) ?_
    refine clZ0 (v := (f_M_in c0 p2 0 2)) C hw (invV (As := [.int p2, .int 0, .int 2]) C hw (c_M_in g c0 hc0 p2 0 2 s2 l) rfl wc_M_218 nd_M_in ⟨by decide, by decide⟩ (rc_M C hw hc0) rfl hl.1 rfl (Nat.le_of_ble_eq_true rfl) d_M_act_17 ⟨Nat.le_refl _, Nat.le_refl _⟩) (fun H locs hw => ?_)
    refine ifnB (tgt := 25) C d_M_act_20 (by decide) (fun b4 => ?_) (fun b4 => ?_)
    · replace h := ifn b4 h
      refine lv_iload_n hx hb d_M_act_25 rfl (lv_at hl 2 rfl) ?_
      refine lv_if_ne (tgt := 38) hx hb d_M_act_26 (by decide) (fun b5 => ?_) (fun b5 => ?_)
      · replace h := ifn b5 h
        refine lv_iload_n hx hb d_M_act_38 rfl (lv_at hl 2 rfl) ?_
        refine lv_iconst (v := 1) hx hb d_M_act_39 (by decide) ?_
        refine lv_icmp_ne (tgt := 52) hx hb d_M_act_40 (by decide) (fun b6 => ?_) (fun b6 => ?_)
        · replace h := ifn b6 h
          refine lv_aload_n hx hb d_M_act_52 rfl (lv_at hl 0 rfl) ?_
          refine lv_iload_n hx hb d_M_act_53 rfl (lv_at hl 1 rfl) ?_
          refine lv_iload_n hx hb d_M_act_54 rfl (lv_at hl 3 rfl) ?_
          refine bnd h (fun q7 k8 h => ?_)
          refine clI C hw (invV (As := [.int p1, .int p3]) C hw (c_M_tellsAct g c0 hc0 p1 p3 s2 q7 k8 l) rfl wc_M_382 nd_M_tellsAct ⟨by decide, by decide⟩ (rc_M C hw hc0) rfl hl.1 rfl (Nat.le_of_ble_eq_true rfl) d_M_act_55 ⟨Nat.le_refl _, Nat.le_refl _⟩) (fun H locs hw => ?_)
          exact retI C hw rfl (Option.some.inj h) d_M_act_58
        · replace h := ifp b6 h
          refine lv_aload_n hx hb d_M_act_43 rfl (lv_at hl 0 rfl) ?_
          refine lv_iload_n hx hb d_M_act_44 rfl (lv_at hl 1 rfl) ?_
          refine lv_iload_n hx hb d_M_act_45 rfl (lv_at hl 3 rfl) ?_
          refine bnd h (fun q9 k10 h => ?_)
          refine clI C hw (invV (As := [.int p1, .int p3]) C hw (c_M_leavesAct g c0 hc0 p1 p3 s2 q9 k10 l) rfl wc_M_376 nd_M_leavesAct ⟨by decide, by decide⟩ (rc_M C hw hc0) rfl hl.1 rfl (Nat.le_of_ble_eq_true rfl) d_M_act_46 ⟨Nat.le_refl _, Nat.le_refl _⟩) (fun H locs hw => ?_)
          refine lv_goto (tgt := 58) hx hb d_M_act_49 (by decide) ?_
          exact retI C hw rfl (Option.some.inj h) d_M_act_58
      · replace h := ifp b5 h
        refine lv_aload_n hx hb d_M_act_29 rfl (lv_at hl 0 rfl) ?_
        refine lv_iload_n hx hb d_M_act_30 rfl (lv_at hl 1 rfl) ?_
        refine lv_iload_n hx hb d_M_act_31 rfl (lv_at hl 3 rfl) ?_
        refine bnd h (fun q11 k12 h => ?_)
        refine clI C hw (invV (As := [.int p1, .int p3]) C hw (c_M_takesAct g c0 hc0 p1 p3 s2 q11 k12 l) rfl wc_M_367 nd_M_takesAct ⟨by decide, by decide⟩ (rc_M C hw hc0) rfl hl.1 rfl (Nat.le_of_ble_eq_true rfl) d_M_act_32 ⟨Nat.le_refl _, Nat.le_refl _⟩) (fun H locs hw => ?_)
        refine lv_goto (tgt := 58) hx hb d_M_act_35 (by decide) ?_
        exact retI C hw rfl (Option.some.inj h) d_M_act_58
    · replace h := ifp b4 h
      refine lv_iconst (v := 0) hx hb d_M_act_23 (by decide) ?_
      exact retI C hw rfl (Option.some.inj h) d_M_act_24
def f_M_trace (c0 : Nat) (p1 : Int32) (σ : St) : Option (Int32) := (if (f_M_in c0 p1 0 19) = false then some (-1) else (if (vI σ c0 62) ≤ p1 then some (-1) else (if ok p1 20 = true then some (vJ σ 36 (nx p1)) else none)))
set_option maxHeartbeats 400000 in
set_option maxRecDepth 20000 in
theorem c_M_trace (g : GX) (c0 : Nat) (hc0 : tg BM c0 20) (p1 : Int32) (σ : St) (q : Int32) (h : f_M_trace c0 p1 σ = some q) (l : Launch) : CT BM l y_M_trace (v_M_trace :: lwG) 2 [.ref (g.2.1 c0), .int p1] g σ (QI BM g (q, σ)) := by
  refine mkC (cc := b_M_trace) (maxL := 2) (ret := (some .int)) rfl (by decide) rfl (Nat.le_of_ble_eq_true rfl) ?_
  intro p e s m args below meth c A ls C hl hw
  obtain ⟨hx, hb, hr, hml, hown, hts, hK, hE, hA, hlk⟩ := id C
  replace hl : lv_has ls 2 [(0, .ref (g.2.1 c0)), (1, .int p1)] := hl
  obtain ⟨H, hH⟩ : ∃ z, z = s.heap := ⟨_, rfl⟩
  rw [← hH] at hw ⊢
  obtain ⟨locs, hlo⟩ : ∃ z : List Loc, z = [] := ⟨_, rfl⟩
  rw [← hlo] at hw ⊢
  unfold f_M_trace at h
  refine lv_aload_n hx hb d_M_trace_0 rfl (lv_at hl 0 rfl) ?_
  refine lv_iload_n hx hb d_M_trace_1 rfl (lv_at hl 1 rfl) ?_
  refine lv_iconst (v := 0) hx hb d_M_trace_2 (by decide) ?_
  refine lv_bipush (v := 19) hx hb d_M_trace_3 (by decide) ?_
  refine clZ0 (v := (f_M_in c0 p1 0 19)) C hw (invV (As := [.int p1, .int 0, .int 19]) C hw (c_M_in g c0 hc0 p1 0 19 σ l) rfl wc_M_218 nd_M_in ⟨by decide, by decide⟩ (rc_M C hw hc0) rfl hl.1 rfl (Nat.le_of_ble_eq_true rfl) d_M_trace_5 ⟨Nat.le_refl _, Nat.le_refl _⟩) (fun H locs hw => ?_)
  refine ifB (tgt := 28) C d_M_trace_8 (by decide) (fun b1 => ?_) (fun b1 => ?_)
  · replace h := ifp b1 h
    refine lv_iconst (v := (-1)) hx hb d_M_trace_28 (by decide) ?_
    exact retI C hw rfl (congrArg (fun z => (z, σ)) (Option.some.inj h)) d_M_trace_29
  · replace h := ifn b1 h
    refine lv_iload_n hx hb d_M_trace_11 rfl (lv_at hl 1 rfl) ?_
    refine lv_aload_n hx hb d_M_trace_12 rfl (lv_at hl 0 rfl) ?_
    refine fg_M_199 C hw hc0 d_M_trace_13 ?_
    refine lv_icmp_ge (tgt := 28) hx hb d_M_trace_16 (by decide) (fun b2 => ?_) (fun b2 => ?_)
    · replace h := ifp b2 h
      refine lv_iconst (v := (-1)) hx hb d_M_trace_28 (by decide) ?_
      exact retI C hw rfl (congrArg (fun z => (z, σ)) (Option.some.inj h)) d_M_trace_29
    · replace h := ifn b2 h
      refine lv_aload_n hx hb d_M_trace_19 rfl (lv_at hl 0 rfl) ?_
      refine fg_M_202 C hw hc0 d_M_trace_20 ?_
      refine lv_iload_n hx hb d_M_trace_23 rfl (lv_at hl 1 rfl) ?_
      refine gde h (fun g3 h => ?_)
      refine ldI (n := 20) C hw tM_36 (by decide) g3 d_M_trace_24 ?_
      refine lv_goto (tgt := 29) hx hb d_M_trace_25 (by decide) ?_
      exact retI C hw rfl (congrArg (fun z => (z, σ)) (Option.some.inj h)) d_M_trace_29
def f_M_taken (c0 : Nat) (p1 : Int32) (p2 : Int32) (σ : St) : Option (Int32) := (if (f_M_in c0 p2 0 6) = false then some (-2) else (if (f_M_isTaker c0 p1 σ) = false then some (-11) else (if ok p1 6 = true then (if p2 = 0 then some (vJ σ 1 (nx p1)) else (if (vJ σ 1 (nx p1)) = p2 then some (vJ σ 1 (nx p1)) else (if p2 = 1 then (if (vJ σ 1 (nx p1)) = 4 then some (vJ σ 1 (nx p1)) else (if p2 = 2 then (if (vJ σ 1 (nx p1)) = 5 then some (vJ σ 1 (nx p1)) else (if p2 = 3 then (if (vJ σ 1 (nx p1)) = 6 then some (vJ σ 1 (nx p1)) else some (-12)) else some (-12))) else (if p2 = 3 then (if (vJ σ 1 (nx p1)) = 6 then some (vJ σ 1 (nx p1)) else some (-12)) else some (-12)))) else (if p2 = 2 then (if (vJ σ 1 (nx p1)) = 5 then some (vJ σ 1 (nx p1)) else (if p2 = 3 then (if (vJ σ 1 (nx p1)) = 6 then some (vJ σ 1 (nx p1)) else some (-12)) else some (-12))) else (if p2 = 3 then (if (vJ σ 1 (nx p1)) = 6 then some (vJ σ 1 (nx p1)) else some (-12)) else some (-12)))))) else none)))
set_option maxHeartbeats 400000 in
set_option maxRecDepth 20000 in
theorem c_M_taken (g : GX) (c0 : Nat) (hc0 : tg BM c0 20) (p1 : Int32) (p2 : Int32) (σ : St) (q : Int32) (h : f_M_taken c0 p1 p2 σ = some q) (l : Launch) : CT BM l y_M_taken (v_M_taken :: lwG) 3 [.ref (g.2.1 c0), .int p1, .int p2] g σ (QI BM g (q, σ)) := by
  refine mkC (cc := b_M_taken) (maxL := 4) (ret := (some .int)) rfl (by decide) rfl (Nat.le_of_ble_eq_true rfl) ?_
  intro p e s m args below meth c A ls C hl hw
  obtain ⟨hx, hb, hr, hml, hown, hts, hK, hE, hA, hlk⟩ := id C
  replace hl : lv_has ls 4 [(0, .ref (g.2.1 c0)), (1, .int p1), (2, .int p2)] := hl
  obtain ⟨H, hH⟩ : ∃ z, z = s.heap := ⟨_, rfl⟩
  rw [← hH] at hw ⊢
  obtain ⟨locs, hlo⟩ : ∃ z : List Loc, z = [] := ⟨_, rfl⟩
  rw [← hlo] at hw ⊢
  unfold f_M_taken at h
  refine lv_aload_n hx hb d_M_taken_0 rfl (lv_at hl 0 rfl) ?_
  refine lv_iload_n hx hb d_M_taken_1 rfl (lv_at hl 2 rfl) ?_
  refine lv_iconst (v := 0) hx hb d_M_taken_2 (by decide) ?_
  refine lv_bipush (v := 6) hx hb d_M_taken_3 (by decide) ?_
  refine clZ0 (v := (f_M_in c0 p2 0 6)) C hw (invV (As := [.int p2, .int 0, .int 6]) C hw (c_M_in g c0 hc0 p2 0 6 σ l) rfl wc_M_218 nd_M_in ⟨by decide, by decide⟩ (rc_M C hw hc0) rfl hl.1 rfl (Nat.le_of_ble_eq_true rfl) d_M_taken_5 ⟨Nat.le_refl _, Nat.le_refl _⟩) (fun H locs hw => ?_)
  refine ifnB (tgt := 14) C d_M_taken_8 (by decide) (fun b1 => ?_) (fun b1 => ?_)
  · replace h := ifn b1 h
    refine lv_aload_n hx hb d_M_taken_14 rfl (lv_at hl 0 rfl) ?_
    refine lv_iload_n hx hb d_M_taken_15 rfl (lv_at hl 1 rfl) ?_
    refine clZ0 (v := (f_M_isTaker c0 p1 σ)) C hw (invV (As := [.int p1]) C hw (c_M_isTaker g c0 hc0 p1 σ l) rfl wc_M_222 nd_M_isTaker ⟨by decide, by decide⟩ (rc_M C hw hc0) rfl hl.1 rfl (Nat.le_of_ble_eq_true rfl) d_M_taken_16 ⟨Nat.le_refl _, Nat.le_refl _⟩) (fun H locs hw => ?_)
    refine ifnB (tgt := 25) C d_M_taken_19 (by decide) (fun b2 => ?_) (fun b2 => ?_)
    · replace h := ifn b2 h
      refine lv_aload_n hx hb d_M_taken_25 rfl (lv_at hl 0 rfl) ?_
      refine fg_M_19 C hw hc0 d_M_taken_26 ?_
      refine lv_iload_n hx hb d_M_taken_29 rfl (lv_at hl 1 rfl) ?_
      refine gde h (fun g3 h => ?_)
      refine ldI (n := 6) C hw tM_1 (by decide) g3 d_M_taken_30 ?_
      refine lv_istore_n (lv' := [(3, .int (vJ σ 1 (nx p1))), (0, .ref (g.2.1 c0)), (1, .int p1), (2, .int p2)]) hx hb d_M_taken_31 rfl hl (by decide) rfl (fun ls hl => ?_)
      refine lv_iload_n hx hb d_M_taken_32 rfl (lv_at hl 3 rfl) ?_
      refine lv_if_eq (tgt := 72) hx hb d_M_taken_33 (by decide) (fun b4 => ?_) (fun b4 => ?_)
      · replace h := ifp b4 h
        refine lv_iload_n hx hb d_M_taken_72 rfl (lv_at hl 0 rfl) ?_
        refine lv_goto (tgt := 78) hx hb d_M_taken_73 (by decide) ?_
        exact retI C hw rfl (congrArg (fun z => (z, σ)) (Option.some.inj h)) d_M_taken_78
      · replace h := ifn b4 h
        refine lv_iload_n hx hb d_M_taken_36 rfl (lv_at hl 0 rfl) ?_
        refine lv_iload_n hx hb d_M_taken_37 rfl (lv_at hl 3 rfl) ?_
        refine lv_icmp_eq (tgt := 72) hx hb d_M_taken_38 (by decide) (fun b5 => ?_) (fun b5 => ?_)
        · replace h := ifp b5 h
          refine lv_iload_n hx hb d_M_taken_72 rfl (lv_at hl 0 rfl) ?_
          refine lv_goto (tgt := 78) hx hb d_M_taken_73 (by decide) ?_
          exact retI C hw rfl (congrArg (fun z => (z, σ)) (Option.some.inj h)) d_M_taken_78
        · replace h := ifn b5 h
          refine lv_iload_n hx hb d_M_taken_41 rfl (lv_at hl 3 rfl) ?_
          refine lv_iconst (v := 1) hx hb d_M_taken_42 (by decide) ?_
          refine lv_icmp_ne (tgt := 51) hx hb d_M_taken_43 (by decide) (fun b6 => ?_) (fun b6 => ?_)
          · replace h := ifn b6 h
            refine lv_iload_n hx hb d_M_taken_51 rfl (lv_at hl 3 rfl) ?_
            refine lv_iconst (v := 2) hx hb d_M_taken_52 (by decide) ?_
            refine lv_icmp_ne (tgt := 61) hx hb d_M_taken_53 (by decide) (fun b7 => ?_) (fun b7 => ?_)
            · replace h := ifn b7 h
              refine lv_iload_n hx hb d_M_taken_61 rfl (lv_at hl 3 rfl) ?_
              refine lv_iconst (v := 3) hx hb d_M_taken_62 (by decide) ?_
              refine lv_icmp_ne (tgt := 76) hx hb d_M_taken_63 (by decide) (fun b8 => ?_) (fun b8 => ?_)
              · replace h := ifn b8 h
                refine lv_bipush (v := (-12)) hx hb d_M_taken_76 (by decide) ?_
                exact retI C hw rfl (congrArg (fun z => (z, σ)) (Option.some.inj h)) d_M_taken_78
              · replace h := ifp b8 h
                refine lv_iload_n hx hb d_M_taken_66 rfl (lv_at hl 0 rfl) ?_
                refine lv_bipush (v := 6) hx hb d_M_taken_67 (by decide) ?_
                refine lv_icmp_ne (tgt := 76) hx hb d_M_taken_69 (by decide) (fun b9 => ?_) (fun b9 => ?_)
                · replace h := ifn b9 h
                  refine lv_bipush (v := (-12)) hx hb d_M_taken_76 (by decide) ?_
                  exact retI C hw rfl (congrArg (fun z => (z, σ)) (Option.some.inj h)) d_M_taken_78
                · replace h := ifp b9 h
                  refine lv_iload_n hx hb d_M_taken_72 rfl (lv_at hl 0 rfl) ?_
                  refine lv_goto (tgt := 78) hx hb d_M_taken_73 (by decide) ?_
                  exact retI C hw rfl (congrArg (fun z => (z, σ)) (Option.some.inj h)) d_M_taken_78
            · replace h := ifp b7 h
              refine lv_iload_n hx hb d_M_taken_56 rfl (lv_at hl 0 rfl) ?_
              refine lv_iconst (v := 5) hx hb d_M_taken_57 (by decide) ?_
              refine lv_icmp_eq (tgt := 72) hx hb d_M_taken_58 (by decide) (fun b10 => ?_) (fun b10 => ?_)
              · replace h := ifp b10 h
                refine lv_iload_n hx hb d_M_taken_72 rfl (lv_at hl 0 rfl) ?_
                refine lv_goto (tgt := 78) hx hb d_M_taken_73 (by decide) ?_
                exact retI C hw rfl (congrArg (fun z => (z, σ)) (Option.some.inj h)) d_M_taken_78
              · replace h := ifn b10 h
                refine lv_iload_n hx hb d_M_taken_61 rfl (lv_at hl 3 rfl) ?_
                refine lv_iconst (v := 3) hx hb d_M_taken_62 (by decide) ?_
                refine lv_icmp_ne (tgt := 76) hx hb d_M_taken_63 (by decide) (fun b11 => ?_) (fun b11 => ?_)
                · replace h := ifn b11 h
                  refine lv_bipush (v := (-12)) hx hb d_M_taken_76 (by decide) ?_
                  exact retI C hw rfl (congrArg (fun z => (z, σ)) (Option.some.inj h)) d_M_taken_78
                · replace h := ifp b11 h
                  refine lv_iload_n hx hb d_M_taken_66 rfl (lv_at hl 0 rfl) ?_
                  refine lv_bipush (v := 6) hx hb d_M_taken_67 (by decide) ?_
                  refine lv_icmp_ne (tgt := 76) hx hb d_M_taken_69 (by decide) (fun b12 => ?_) (fun b12 => ?_)
                  · replace h := ifn b12 h
                    refine lv_bipush (v := (-12)) hx hb d_M_taken_76 (by decide) ?_
                    exact retI C hw rfl (congrArg (fun z => (z, σ)) (Option.some.inj h)) d_M_taken_78
                  · replace h := ifp b12 h
                    refine lv_iload_n hx hb d_M_taken_72 rfl (lv_at hl 0 rfl) ?_
                    refine lv_goto (tgt := 78) hx hb d_M_taken_73 (by decide) ?_
                    exact retI C hw rfl (congrArg (fun z => (z, σ)) (Option.some.inj h)) d_M_taken_78
          · replace h := ifp b6 h
            refine lv_iload_n hx hb d_M_taken_46 rfl (lv_at hl 0 rfl) ?_
            refine lv_iconst (v := 4) hx hb d_M_taken_47 (by decide) ?_
            refine lv_icmp_eq (tgt := 72) hx hb d_M_taken_48 (by decide) (fun b13 => ?_) (fun b13 => ?_)
            · replace h := ifp b13 h
              refine lv_iload_n hx hb d_M_taken_72 rfl (lv_at hl 0 rfl) ?_
              refine lv_goto (tgt := 78) hx hb d_M_taken_73 (by decide) ?_
              exact retI C hw rfl (congrArg (fun z => (z, σ)) (Option.some.inj h)) d_M_taken_78
            · replace h := ifn b13 h
              refine lv_iload_n hx hb d_M_taken_51 rfl (lv_at hl 3 rfl) ?_
              refine lv_iconst (v := 2) hx hb d_M_taken_52 (by decide) ?_
              refine lv_icmp_ne (tgt := 61) hx hb d_M_taken_53 (by decide) (fun b14 => ?_) (fun b14 => ?_)
              · replace h := ifn b14 h
                refine lv_iload_n hx hb d_M_taken_61 rfl (lv_at hl 3 rfl) ?_
                refine lv_iconst (v := 3) hx hb d_M_taken_62 (by decide) ?_
                refine lv_icmp_ne (tgt := 76) hx hb d_M_taken_63 (by decide) (fun b15 => ?_) (fun b15 => ?_)
                · replace h := ifn b15 h
                  refine lv_bipush (v := (-12)) hx hb d_M_taken_76 (by decide) ?_
                  exact retI C hw rfl (congrArg (fun z => (z, σ)) (Option.some.inj h)) d_M_taken_78
                · replace h := ifp b15 h
                  refine lv_iload_n hx hb d_M_taken_66 rfl (lv_at hl 0 rfl) ?_
                  refine lv_bipush (v := 6) hx hb d_M_taken_67 (by decide) ?_
                  refine lv_icmp_ne (tgt := 76) hx hb d_M_taken_69 (by decide) (fun b16 => ?_) (fun b16 => ?_)
                  · replace h := ifn b16 h
                    refine lv_bipush (v := (-12)) hx hb d_M_taken_76 (by decide) ?_
                    exact retI C hw rfl (congrArg (fun z => (z, σ)) (Option.some.inj h)) d_M_taken_78
                  · replace h := ifp b16 h
                    refine lv_iload_n hx hb d_M_taken_72 rfl (lv_at hl 0 rfl) ?_
                    refine lv_goto (tgt := 78) hx hb d_M_taken_73 (by decide) ?_
                    exact retI C hw rfl (congrArg (fun z => (z, σ)) (Option.some.inj h)) d_M_taken_78
              · replace h := ifp b14 h
                refine lv_iload_n hx hb d_M_taken_56 rfl (lv_at hl 0 rfl) ?_
                refine lv_iconst (v := 5) hx hb d_M_taken_57 (by decide) ?_
                refine lv_icmp_eq (tgt := 72) hx hb d_M_taken_58 (by decide) (fun b17 => ?_) (fun b17 => ?_)
                · replace h := ifp b17 h
                  refine lv_iload_n hx hb d_M_taken_72 rfl (lv_at hl 0 rfl) ?_
                  refine lv_goto (tgt := 78) hx hb d_M_taken_73 (by decide) ?_
                  exact retI C hw rfl (congrArg (fun z => (z, σ)) (Option.some.inj h)) d_M_taken_78
                · replace h := ifn b17 h
                  refine lv_iload_n hx hb d_M_taken_61 rfl (lv_at hl 3 rfl) ?_
                  refine lv_iconst (v := 3) hx hb d_M_taken_62 (by decide) ?_
                  refine lv_icmp_ne (tgt := 76) hx hb d_M_taken_63 (by decide) (fun b18 => ?_) (fun b18 => ?_)
                  · replace h := ifn b18 h
                    refine lv_bipush (v := (-12)) hx hb d_M_taken_76 (by decide) ?_
                    exact retI C hw rfl (congrArg (fun z => (z, σ)) (Option.some.inj h)) d_M_taken_78
                  · replace h := ifp b18 h
                    refine lv_iload_n hx hb d_M_taken_66 rfl (lv_at hl 0 rfl) ?_
                    refine lv_bipush (v := 6) hx hb d_M_taken_67 (by decide) ?_
                    refine lv_icmp_ne (tgt := 76) hx hb d_M_taken_69 (by decide) (fun b19 => ?_) (fun b19 => ?_)
                    · replace h := ifn b19 h
                      refine lv_bipush (v := (-12)) hx hb d_M_taken_76 (by decide) ?_
                      exact retI C hw rfl (congrArg (fun z => (z, σ)) (Option.some.inj h)) d_M_taken_78
                    · replace h := ifp b19 h
                      refine lv_iload_n hx hb d_M_taken_72 rfl (lv_at hl 0 rfl) ?_
                      refine lv_goto (tgt := 78) hx hb d_M_taken_73 (by decide) ?_
                      exact retI C hw rfl (congrArg (fun z => (z, σ)) (Option.some.inj h)) d_M_taken_78
    · replace h := ifp b2 h
      refine lv_bipush (v := (-11)) hx hb d_M_taken_22 (by decide) ?_
      exact retI C hw rfl (congrArg (fun z => (z, σ)) (Option.some.inj h)) d_M_taken_24
  · replace h := ifp b1 h
    refine lv_bipush (v := (-2)) hx hb d_M_taken_11 (by decide) ?_
    exact retI C hw rfl (congrArg (fun z => (z, σ)) (Option.some.inj h)) d_M_taken_13
def f_M_count (c0 : Nat) (p1 : Int32) (σ : St) : Int32 := (if p1 = 0 then (vI σ c0 0) else (if p1 = 1 then (vI σ c0 10) else (if p1 = 2 then (vI σ c0 40) else (if p1 = 3 then (vI σ c0 43) else (if p1 = 4 then (vI σ c0 12) else (if p1 = 5 then (vI σ c0 62) else (-2)))))))
set_option maxHeartbeats 400000 in
set_option maxRecDepth 20000 in
theorem c_M_count (g : GX) (c0 : Nat) (hc0 : tg BM c0 20) (p1 : Int32) (σ : St) (l : Launch) : CT BM l y_M_count (v_M_count :: lwG) 1 [.ref (g.2.1 c0), .int p1] g σ (QI BM g (f_M_count c0 p1 σ, σ)) := by
  generalize h : f_M_count c0 p1 σ = q
  refine mkC (cc := b_M_count) (maxL := 2) (ret := (some .int)) rfl (by decide) rfl (Nat.le_of_ble_eq_true rfl) ?_
  intro p e s m args below meth c A ls C hl hw
  obtain ⟨hx, hb, hr, hml, hown, hts, hK, hE, hA, hlk⟩ := id C
  replace hl : lv_has ls 2 [(0, .ref (g.2.1 c0)), (1, .int p1)] := hl
  obtain ⟨H, hH⟩ : ∃ z, z = s.heap := ⟨_, rfl⟩
  rw [← hH] at hw ⊢
  obtain ⟨locs, hlo⟩ : ∃ z : List Loc, z = [] := ⟨_, rfl⟩
  rw [← hlo] at hw ⊢
  unfold f_M_count at h
  refine lv_iload_n hx hb d_M_count_0 rfl (lv_at hl 1 rfl) ?_
  by_cases b1 : p1 = 0
  · replace h := ifp b1 h
    refine swIn (k := 0) (tgt := 40) C b1 d_M_count_1 (by decide) rfl (by decide) ?_
    refine lv_aload_n hx hb d_M_count_40 rfl (lv_at hl 0 rfl) ?_
    refine fg_M_7 C hw hc0 d_M_count_41 ?_
    exact retI C hw rfl (congrArg (fun z => (z, σ)) h) d_M_count_44
  · replace h := ifn b1 h
    by_cases b2 : p1 = 1
    · replace h := ifp b2 h
      refine swIn (k := 1) (tgt := 45) C b2 d_M_count_1 (by decide) rfl (by decide) ?_
      refine lv_aload_n hx hb d_M_count_45 rfl (lv_at hl 0 rfl) ?_
      refine fg_M_41 C hw hc0 d_M_count_46 ?_
      exact retI C hw rfl (congrArg (fun z => (z, σ)) h) d_M_count_49
    · replace h := ifn b2 h
      by_cases b3 : p1 = 2
      · replace h := ifp b3 h
        refine swIn (k := 2) (tgt := 50) C b3 d_M_count_1 (by decide) rfl (by decide) ?_
        refine lv_aload_n hx hb d_M_count_50 rfl (lv_at hl 0 rfl) ?_
        refine fg_M_132 C hw hc0 d_M_count_51 ?_
        exact retI C hw rfl (congrArg (fun z => (z, σ)) h) d_M_count_54
      · replace h := ifn b3 h
        by_cases b4 : p1 = 3
        · replace h := ifp b4 h
          refine swIn (k := 3) (tgt := 55) C b4 d_M_count_1 (by decide) rfl (by decide) ?_
          refine lv_aload_n hx hb d_M_count_55 rfl (lv_at hl 0 rfl) ?_
          refine fg_M_141 C hw hc0 d_M_count_56 ?_
          exact retI C hw rfl (congrArg (fun z => (z, σ)) h) d_M_count_59
        · replace h := ifn b4 h
          by_cases b5 : p1 = 4
          · replace h := ifp b5 h
            refine swIn (k := 4) (tgt := 60) C b5 d_M_count_1 (by decide) rfl (by decide) ?_
            refine lv_aload_n hx hb d_M_count_60 rfl (lv_at hl 0 rfl) ?_
            refine fg_M_47 C hw hc0 d_M_count_61 ?_
            exact retI C hw rfl (congrArg (fun z => (z, σ)) h) d_M_count_64
          · replace h := ifn b5 h
            by_cases b6 : p1 = 5
            · replace h := ifp b6 h
              refine swIn (k := 5) (tgt := 65) C b6 d_M_count_1 (by decide) rfl (by decide) ?_
              refine lv_aload_n hx hb d_M_count_65 rfl (lv_at hl 0 rfl) ?_
              refine fg_M_199 C hw hc0 d_M_count_66 ?_
              exact retI C hw rfl (congrArg (fun z => (z, σ)) h) d_M_count_69
            · replace h := ifn b6 h
              refine swOut (tgt := 70) C d_M_count_1 (fun z9 l9 h9 e9 => ?_) (by decide) ?_
              · have e10 : z9 = 0 ∨ z9 = 1 ∨ z9 = 2 ∨ z9 = 3 ∨ z9 = 4 ∨ z9 = 5 := by omega
                rcases e10 with e10 | e10 | e10 | e10 | e10 | e10
                · exact lv_neT b1 (by decide) (e9.trans e10)
                · exact lv_neT b2 (by decide) (e9.trans e10)
                · exact lv_neT b3 (by decide) (e9.trans e10)
                · exact lv_neT b4 (by decide) (e9.trans e10)
                · exact lv_neT b5 (by decide) (e9.trans e10)
                · exact lv_neT b6 (by decide) (e9.trans e10)
              · refine lv_bipush (v := (-2)) hx hb d_M_count_70 (by decide) ?_
                exact retI C hw rfl (congrArg (fun z => (z, σ)) h) d_M_count_72
def f_M_tape_l69 : Nat → Nat → Int32 → Int32 → St → Option (St)
  | 0, _, _, _, _ => none
  | n + 1, c0, x1, x4, σ => (if 60 ≤ x4 then some σ else (if ok ((60 * x1) + x4) 360 = true then (st (sL σ 39 (va_up (vL σ 39) (nx ((60 * x1) + x4)) 0)) fun s18 => (f_M_tape_l69 n c0 x1 (x4 + 1) s18)) else none))
def f_M_tape (c0 : Nat) (p1 : Int32) (p2 : Int32) (p3 : Int32) (σ : St) : Option (Int32 × St) := (if (f_M_isTape c0 p1) = false then some ((-1), σ) else (if (f_M_in c0 p2 (-1) 4) = false then some ((-2), σ) else (if p2 < 0 then (if p2 < 0 then (if ok p1 6 = true then (st (sJ σ 37 (upd (vJ σ 37) (nx p1) p2)) fun s6 => (((if 0 ≤ p2 then some p3 else some 0) : Option (Int32)).bind fun q7 => (if ok p1 6 = true then (st (sJ s6 38 (upd (vJ s6 38) (nx p1) q7)) fun s14 => ((f_M_tape_l69 FU c0 p1 0 s14).bind fun x_20 => some (1, x_20))) else none))) else none) else (if 0 ≤ p3 then (if ok p1 6 = true then (st (sJ σ 37 (upd (vJ σ 37) (nx p1) p2)) fun s29 => (((if 0 ≤ p2 then some p3 else some 0) : Option (Int32)).bind fun q30 => (if ok p1 6 = true then (st (sJ s29 38 (upd (vJ s29 38) (nx p1) q30)) fun s37 => ((f_M_tape_l69 FU c0 p1 0 s37).bind fun x_43 => some (1, x_43))) else none))) else none) else some ((-14), σ))) else (if p3 ≤ 60 then (if p2 < 0 then (if ok p1 6 = true then (st (sJ σ 37 (upd (vJ σ 37) (nx p1) p2)) fun s53 => (((if 0 ≤ p2 then some p3 else some 0) : Option (Int32)).bind fun q54 => (if ok p1 6 = true then (st (sJ s53 38 (upd (vJ s53 38) (nx p1) q54)) fun s61 => ((f_M_tape_l69 FU c0 p1 0 s61).bind fun x_67 => some (1, x_67))) else none))) else none) else (if 0 ≤ p3 then (if ok p1 6 = true then (st (sJ σ 37 (upd (vJ σ 37) (nx p1) p2)) fun s76 => (((if 0 ≤ p2 then some p3 else some 0) : Option (Int32)).bind fun q77 => (if ok p1 6 = true then (st (sJ s76 38 (upd (vJ s76 38) (nx p1) q77)) fun s84 => ((f_M_tape_l69 FU c0 p1 0 s84).bind fun x_90 => some (1, x_90))) else none))) else none) else some ((-14), σ))) else some ((-2), σ)))))
set_option maxHeartbeats 400000 in
set_option maxRecDepth 20000 in
theorem c_M_tape (g : GX) (c0 : Nat) (hc0 : tg BM c0 20) (p1 : Int32) (p2 : Int32) (p3 : Int32) (σ : St) (q : Int32 × St) (h : f_M_tape c0 p1 p2 p3 σ = some q) (l : Launch) : CT BM l y_M_tape (v_M_tape :: lwG) 3 [.ref (g.2.1 c0), .int p1, .int p2, .int p3] g σ (QI BM g q) := by
  refine mkC (cc := b_M_tape) (maxL := 5) (ret := (some .int)) rfl (by decide) rfl (Nat.le_of_ble_eq_true rfl) ?_
  intro p e s m args below meth c A ls C hl hw
  obtain ⟨hx, hb, hr, hml, hown, hts, hK, hE, hA, hlk⟩ := id C
  replace hl : lv_has ls 5 [(0, .ref (g.2.1 c0)), (1, .int p1), (2, .int p2), (3, .int p3)] := hl
  obtain ⟨H, hH⟩ : ∃ z, z = s.heap := ⟨_, rfl⟩
  rw [← hH] at hw ⊢
  obtain ⟨locs, hlo⟩ : ∃ z : List Loc, z = [] := ⟨_, rfl⟩
  rw [← hlo] at hw ⊢
  unfold f_M_tape at h
  refine lv_aload_n hx hb d_M_tape_0 rfl (lv_at hl 0 rfl) ?_
  refine lv_iload_n hx hb d_M_tape_1 rfl (lv_at hl 1 rfl) ?_
  refine clZ0 (v := (f_M_isTape c0 p1)) C hw (invV (As := [.int p1]) C hw (c_M_isTape g c0 hc0 p1 σ l) rfl wc_M_358 nd_M_isTape ⟨by decide, by decide⟩ (rc_M C hw hc0) rfl hl.1 rfl (Nat.le_of_ble_eq_true rfl) d_M_tape_2 ⟨Nat.le_refl _, Nat.le_refl _⟩) (fun H locs hw => ?_)
  refine ifnB (tgt := 10) C d_M_tape_5 (by decide) (fun b1 => ?_) (fun b1 => ?_)
  · replace h := ifn b1 h
    refine lv_aload_n hx hb d_M_tape_10 rfl (lv_at hl 0 rfl) ?_
    refine lv_iload_n hx hb d_M_tape_11 rfl (lv_at hl 2 rfl) ?_
    refine lv_iconst (v := (-1)) hx hb d_M_tape_12 (by decide) ?_
    refine lv_iconst (v := 4) hx hb d_M_tape_13 (by decide) ?_
    refine clZ0 (v := (f_M_in c0 p2 (-1) 4)) C hw (invV (As := [.int p2, .int (-1), .int 4]) C hw (c_M_in g c0 hc0 p2 (-1) 4 σ l) rfl wc_M_218 nd_M_in ⟨by decide, by decide⟩ (rc_M C hw hc0) rfl hl.1 rfl (Nat.le_of_ble_eq_true rfl) d_M_tape_14 ⟨Nat.le_refl _, Nat.le_refl _⟩) (fun H locs hw => ?_)
    refine ifB (tgt := 30) C d_M_tape_17 (by decide) (fun b2 => ?_) (fun b2 => ?_)
    · replace h := ifp b2 h
      refine lv_bipush (v := (-2)) hx hb d_M_tape_30 (by decide) ?_
      exact retI C hw rfl (Option.some.inj h) d_M_tape_32
    · replace h := ifn b2 h
      refine lv_iload_n hx hb d_M_tape_20 rfl (lv_at hl 2 rfl) ?_
      refine lv_if_lt (tgt := 33) hx hb d_M_tape_21 (by decide) (fun b3 => ?_) (fun b3 => ?_)
      · replace h := ifp b3 h
        refine lv_iload_n hx hb d_M_tape_33 rfl (lv_at hl 2 rfl) ?_
        refine lv_if_lt (tgt := 44) hx hb d_M_tape_34 (by decide) (fun b4 => ?_) (fun b4 => ?_)
        · replace h := ifp b4 h
          refine lv_aload_n hx hb d_M_tape_44 rfl (lv_at hl 0 rfl) ?_
          refine fg_M_205 C hw hc0 d_M_tape_45 ?_
          refine lv_iload_n hx hb d_M_tape_48 rfl (lv_at hl 1 rfl) ?_
          refine lv_iload_n hx hb d_M_tape_49 rfl (lv_at hl 2 rfl) ?_
          refine gde h (fun g5 h => ?_)
          refine ste h (fun s6 e26 h => ?_)
          refine stI (n := 6) C hw tM_37 (by decide) g5 d_M_tape_50 (fun H locs hw => ?_)
          replace hw := HWe hw e26
          refine lv_aload_n hx hb d_M_tape_51 rfl (lv_at hl 0 rfl) ?_
          refine fg_M_208 C hw hc0 d_M_tape_52 ?_
          refine lv_iload_n hx hb d_M_tape_55 rfl (lv_at hl 1 rfl) ?_
          refine lv_iload_n hx hb d_M_tape_56 rfl (lv_at hl 2 rfl) ?_
          refine bnd h (fun q7 h8 h => ?_)
          have J9 : ∀ (H : Heap) (locs : List Loc) (ls : Array Slot), HW BM g A s s6 H locs → lv_has ls 5 [(0, .ref (g.2.1 c0)), (1, .int p1)] → W p l e (rmL 3) s m args below meth c H locs 0 0 (MQ below (QI BM g q A) args s 0 0 A) (F0 m 65 ls [.int q7, .int p1, .ref (g.2.1 38)]) := by
            intro H locs ls hw hl
            refine gde h (fun g13 h => ?_)
            refine ste h (fun s14 e25 h => ?_)
            refine stI (n := 6) C hw tM_38 (by decide) g13 d_M_tape_65 (fun H locs hw => ?_)
            replace hw := HWe hw e25
            refine lv_iconst (v := 0) hx hb d_M_tape_66 (by decide) ?_
            refine lv_istore (lv' := [(4, .int 0), (0, .ref (g.2.1 c0)), (1, .int p1)]) hx hb d_M_tape_67 hl (by decide) rfl (fun ls hl => ?_)
            have L15 : ∀ (c0 : Nat) (hc0 : tg BM c0 20) (x1 : Int32) (n : Nat) (x4 : Int32) (σ : St) (H : Heap) (locs : List Loc) (ls : Array Slot), HW BM g A s σ H locs → lv_has ls 5 [(0, .ref (g.2.1 c0)), (1, .int x1), (4, .int x4)] → ∀ (ex : St), f_M_tape_l69 n c0 x1 x4 σ = some ex → (∀ (y : St), ex = y → ∀ (H : Heap) (locs : List Loc) (ls : Array Slot), HW BM g A s y H locs → lv_has ls 5 [] → W p l e (rmL 3) s m args below meth c H locs 0 0 (MQ below (QI BM g q A) args s 0 0 A) (F0 m 95 ls [])) → (True) → W p l e (rmL 3) s m args below meth c H locs 0 0 (MQ below (QI BM g q A) args s 0 0 A) (F0 m 69 ls []) := by
              intro c0 hc0 x1 n
              induction n with
              | zero =>
                intro x4 σ H locs ls hw hl ex h kx15 kr15
                cases h
              | succ n ih =>
                intro x4 σ H locs ls hw hl ex h kx15 kr15
                rw [f_M_tape_l69] at h
                refine lv_iload hx hb d_M_tape_69 (lv_at hl 2 rfl) ?_
                refine lv_bipush (v := 60) hx hb d_M_tape_71 (by decide) ?_
                refine lv_icmp_ge (tgt := 95) hx hb d_M_tape_73 (by decide) (fun b16 => ?_) (fun b16 => ?_)
                · replace h := ifp b16 h
                  exact kx15 _ (Option.some.inj h).symm H locs ls hw (lv_sub hl [] rfl)
                · replace h := ifn b16 h
                  refine lv_aload_n hx hb d_M_tape_76 rfl (lv_at hl 0 rfl) ?_
                  refine fg_M_211 C hw hc0 d_M_tape_77 ?_
                  refine lv_bipush (v := 60) hx hb d_M_tape_80 (by decide) ?_
                  refine lv_iload_n hx hb d_M_tape_82 rfl (lv_at hl 1 rfl) ?_
                  refine lv_imul hx hb d_M_tape_83 ?_
                  refine lv_iload hx hb d_M_tape_84 (lv_at hl 2 rfl) ?_
                  refine lv_iadd hx hb d_M_tape_86 ?_
                  refine lv_lconst (v := 0) hx hb d_M_tape_87 (by decide) ?_
                  refine gde h (fun g17 h => ?_)
                  refine ste h (fun s18 e19 h => ?_)
                  refine stL (n := 360) C hw tM_39 (by decide) g17 d_M_tape_88 (fun H locs hw => ?_)
                  replace hw := HWe hw e19
                  refine lv_iinc (v := (x4 + 1)) (lv' := [(4, .int (x4 + 1)), (0, .ref (g.2.1 c0)), (1, .int x1)]) hx hb d_M_tape_89 hl (k := 2) rfl rfl (by decide) rfl (fun ls hl => ?_)
                  refine lv_goto (tgt := 69) hx hb d_M_tape_92 (by decide) ?_
                  exact ih (x4 + 1) s18 H locs ls hw (lv_sub hl [1, 2, 0] rfl) ex h kx15 kr15
            refine bnd h (fun x_20 k21 h => ?_)
            refine L15 c0 hc0 p1 FU 0 s14 H locs ls hw (lv_sub hl [1, 2, 0] rfl) x_20 k21 (fun y23 e24 H locs ls hw hl => ?_) trivial
            subst e24
            refine lv_iconst (v := 1) hx hb d_M_tape_95 (by decide) ?_
            exact retI C hw rfl (Option.some.inj h) d_M_tape_96
          refine lv_if_ge (tgt := 64) hx hb d_M_tape_57 (by decide) (fun b10 => ?_) (fun b10 => ?_)
          · replace h8 := ifp b10 h8
            refine lv_iload_n hx hb d_M_tape_64 rfl (lv_at hl 3 rfl) ?_
            have e11 := Option.some.inj h8
            subst e11
            exact J9 H locs ls hw (lv_sub hl [0, 1] rfl)
          · replace h8 := ifn b10 h8
            refine lv_iconst (v := 0) hx hb d_M_tape_60 (by decide) ?_
            refine lv_goto (tgt := 65) hx hb d_M_tape_61 (by decide) ?_
            have e12 := Option.some.inj h8
            subst e12
            exact J9 H locs ls hw (lv_sub hl [0, 1] rfl)
        · replace h := ifn b4 h
          refine lv_iload_n hx hb d_M_tape_37 rfl (lv_at hl 3 rfl) ?_
          refine lv_if_ge (tgt := 44) hx hb d_M_tape_38 (by decide) (fun b27 => ?_) (fun b27 => ?_)
          · replace h := ifp b27 h
            refine lv_aload_n hx hb d_M_tape_44 rfl (lv_at hl 0 rfl) ?_
            refine fg_M_205 C hw hc0 d_M_tape_45 ?_
            refine lv_iload_n hx hb d_M_tape_48 rfl (lv_at hl 1 rfl) ?_
            refine lv_iload_n hx hb d_M_tape_49 rfl (lv_at hl 2 rfl) ?_
            refine gde h (fun g28 h => ?_)
            refine ste h (fun s29 e49 h => ?_)
            refine stI (n := 6) C hw tM_37 (by decide) g28 d_M_tape_50 (fun H locs hw => ?_)
            replace hw := HWe hw e49
            refine lv_aload_n hx hb d_M_tape_51 rfl (lv_at hl 0 rfl) ?_
            refine fg_M_208 C hw hc0 d_M_tape_52 ?_
            refine lv_iload_n hx hb d_M_tape_55 rfl (lv_at hl 1 rfl) ?_
            refine lv_iload_n hx hb d_M_tape_56 rfl (lv_at hl 2 rfl) ?_
            refine bnd h (fun q30 h31 h => ?_)
            have J32 : ∀ (H : Heap) (locs : List Loc) (ls : Array Slot), HW BM g A s s29 H locs → lv_has ls 5 [(0, .ref (g.2.1 c0)), (1, .int p1)] → W p l e (rmL 3) s m args below meth c H locs 0 0 (MQ below (QI BM g q A) args s 0 0 A) (F0 m 65 ls [.int q30, .int p1, .ref (g.2.1 38)]) := by
              intro H locs ls hw hl
              refine gde h (fun g36 h => ?_)
              refine ste h (fun s37 e48 h => ?_)
              refine stI (n := 6) C hw tM_38 (by decide) g36 d_M_tape_65 (fun H locs hw => ?_)
              replace hw := HWe hw e48
              refine lv_iconst (v := 0) hx hb d_M_tape_66 (by decide) ?_
              refine lv_istore (lv' := [(4, .int 0), (0, .ref (g.2.1 c0)), (1, .int p1)]) hx hb d_M_tape_67 hl (by decide) rfl (fun ls hl => ?_)
              have L38 : ∀ (c0 : Nat) (hc0 : tg BM c0 20) (x1 : Int32) (n : Nat) (x4 : Int32) (σ : St) (H : Heap) (locs : List Loc) (ls : Array Slot), HW BM g A s σ H locs → lv_has ls 5 [(0, .ref (g.2.1 c0)), (1, .int x1), (4, .int x4)] → ∀ (ex : St), f_M_tape_l69 n c0 x1 x4 σ = some ex → (∀ (y : St), ex = y → ∀ (H : Heap) (locs : List Loc) (ls : Array Slot), HW BM g A s y H locs → lv_has ls 5 [] → W p l e (rmL 3) s m args below meth c H locs 0 0 (MQ below (QI BM g q A) args s 0 0 A) (F0 m 95 ls [])) → (True) → W p l e (rmL 3) s m args below meth c H locs 0 0 (MQ below (QI BM g q A) args s 0 0 A) (F0 m 69 ls []) := by
                intro c0 hc0 x1 n
                induction n with
                | zero =>
                  intro x4 σ H locs ls hw hl ex h kx38 kr38
                  cases h
                | succ n ih =>
                  intro x4 σ H locs ls hw hl ex h kx38 kr38
                  rw [f_M_tape_l69] at h
                  refine lv_iload hx hb d_M_tape_69 (lv_at hl 2 rfl) ?_
                  refine lv_bipush (v := 60) hx hb d_M_tape_71 (by decide) ?_
                  refine lv_icmp_ge (tgt := 95) hx hb d_M_tape_73 (by decide) (fun b39 => ?_) (fun b39 => ?_)
                  · replace h := ifp b39 h
                    exact kx38 _ (Option.some.inj h).symm H locs ls hw (lv_sub hl [] rfl)
                  · replace h := ifn b39 h
                    refine lv_aload_n hx hb d_M_tape_76 rfl (lv_at hl 0 rfl) ?_
                    refine fg_M_211 C hw hc0 d_M_tape_77 ?_
                    refine lv_bipush (v := 60) hx hb d_M_tape_80 (by decide) ?_
                    refine lv_iload_n hx hb d_M_tape_82 rfl (lv_at hl 1 rfl) ?_
                    refine lv_imul hx hb d_M_tape_83 ?_
                    refine lv_iload hx hb d_M_tape_84 (lv_at hl 2 rfl) ?_
                    refine lv_iadd hx hb d_M_tape_86 ?_
                    refine lv_lconst (v := 0) hx hb d_M_tape_87 (by decide) ?_
                    refine gde h (fun g40 h => ?_)
                    refine ste h (fun s41 e42 h => ?_)
                    refine stL (n := 360) C hw tM_39 (by decide) g40 d_M_tape_88 (fun H locs hw => ?_)
                    replace hw := HWe hw e42
                    refine lv_iinc (v := (x4 + 1)) (lv' := [(4, .int (x4 + 1)), (0, .ref (g.2.1 c0)), (1, .int x1)]) hx hb d_M_tape_89 hl (k := 2) rfl rfl (by decide) rfl (fun ls hl => ?_)
                    refine lv_goto (tgt := 69) hx hb d_M_tape_92 (by decide) ?_
                    exact ih (x4 + 1) s41 H locs ls hw (lv_sub hl [1, 2, 0] rfl) ex h kx38 kr38
              refine bnd h (fun x_43 k44 h => ?_)
              refine L38 c0 hc0 p1 FU 0 s37 H locs ls hw (lv_sub hl [1, 2, 0] rfl) x_43 k44 (fun y46 e47 H locs ls hw hl => ?_) trivial
              subst e47
              refine lv_iconst (v := 1) hx hb d_M_tape_95 (by decide) ?_
              exact retI C hw rfl (Option.some.inj h) d_M_tape_96
            refine lv_if_ge (tgt := 64) hx hb d_M_tape_57 (by decide) (fun b33 => ?_) (fun b33 => ?_)
            · replace h31 := ifp b33 h31
              refine lv_iload_n hx hb d_M_tape_64 rfl (lv_at hl 3 rfl) ?_
              have e34 := Option.some.inj h31
              subst e34
              exact J32 H locs ls hw (lv_sub hl [0, 1] rfl)
            · replace h31 := ifn b33 h31
              refine lv_iconst (v := 0) hx hb d_M_tape_60 (by decide) ?_
              refine lv_goto (tgt := 65) hx hb d_M_tape_61 (by decide) ?_
              have e35 := Option.some.inj h31
              subst e35
              exact J32 H locs ls hw (lv_sub hl [0, 1] rfl)
          · replace h := ifn b27 h
            refine lv_bipush (v := (-14)) hx hb d_M_tape_41 (by decide) ?_
            exact retI C hw rfl (Option.some.inj h) d_M_tape_43
      · replace h := ifn b3 h
        refine lv_iload_n hx hb d_M_tape_24 rfl (lv_at hl 3 rfl) ?_
        refine lv_bipush (v := 60) hx hb d_M_tape_25 (by decide) ?_
        refine lv_icmp_le (tgt := 33) hx hb d_M_tape_27 (by decide) (fun b50 => ?_) (fun b50 => ?_)
        · replace h := ifp b50 h
          refine lv_iload_n hx hb d_M_tape_33 rfl (lv_at hl 2 rfl) ?_
          refine lv_if_lt (tgt := 44) hx hb d_M_tape_34 (by decide) (fun b51 => ?_) (fun b51 => ?_)
          · replace h := ifp b51 h
            refine lv_aload_n hx hb d_M_tape_44 rfl (lv_at hl 0 rfl) ?_
            refine fg_M_205 C hw hc0 d_M_tape_45 ?_
            refine lv_iload_n hx hb d_M_tape_48 rfl (lv_at hl 1 rfl) ?_
            refine lv_iload_n hx hb d_M_tape_49 rfl (lv_at hl 2 rfl) ?_
            refine gde h (fun g52 h => ?_)
            refine ste h (fun s53 e73 h => ?_)
            refine stI (n := 6) C hw tM_37 (by decide) g52 d_M_tape_50 (fun H locs hw => ?_)
            replace hw := HWe hw e73
            refine lv_aload_n hx hb d_M_tape_51 rfl (lv_at hl 0 rfl) ?_
            refine fg_M_208 C hw hc0 d_M_tape_52 ?_
            refine lv_iload_n hx hb d_M_tape_55 rfl (lv_at hl 1 rfl) ?_
            refine lv_iload_n hx hb d_M_tape_56 rfl (lv_at hl 2 rfl) ?_
            refine bnd h (fun q54 h55 h => ?_)
            have J56 : ∀ (H : Heap) (locs : List Loc) (ls : Array Slot), HW BM g A s s53 H locs → lv_has ls 5 [(0, .ref (g.2.1 c0)), (1, .int p1)] → W p l e (rmL 3) s m args below meth c H locs 0 0 (MQ below (QI BM g q A) args s 0 0 A) (F0 m 65 ls [.int q54, .int p1, .ref (g.2.1 38)]) := by
              intro H locs ls hw hl
              refine gde h (fun g60 h => ?_)
              refine ste h (fun s61 e72 h => ?_)
              refine stI (n := 6) C hw tM_38 (by decide) g60 d_M_tape_65 (fun H locs hw => ?_)
              replace hw := HWe hw e72
              refine lv_iconst (v := 0) hx hb d_M_tape_66 (by decide) ?_
              refine lv_istore (lv' := [(4, .int 0), (0, .ref (g.2.1 c0)), (1, .int p1)]) hx hb d_M_tape_67 hl (by decide) rfl (fun ls hl => ?_)
              have L62 : ∀ (c0 : Nat) (hc0 : tg BM c0 20) (x1 : Int32) (n : Nat) (x4 : Int32) (σ : St) (H : Heap) (locs : List Loc) (ls : Array Slot), HW BM g A s σ H locs → lv_has ls 5 [(0, .ref (g.2.1 c0)), (1, .int x1), (4, .int x4)] → ∀ (ex : St), f_M_tape_l69 n c0 x1 x4 σ = some ex → (∀ (y : St), ex = y → ∀ (H : Heap) (locs : List Loc) (ls : Array Slot), HW BM g A s y H locs → lv_has ls 5 [] → W p l e (rmL 3) s m args below meth c H locs 0 0 (MQ below (QI BM g q A) args s 0 0 A) (F0 m 95 ls [])) → (True) → W p l e (rmL 3) s m args below meth c H locs 0 0 (MQ below (QI BM g q A) args s 0 0 A) (F0 m 69 ls []) := by
                intro c0 hc0 x1 n
                induction n with
                | zero =>
                  intro x4 σ H locs ls hw hl ex h kx62 kr62
                  cases h
                | succ n ih =>
                  intro x4 σ H locs ls hw hl ex h kx62 kr62
                  rw [f_M_tape_l69] at h
                  refine lv_iload hx hb d_M_tape_69 (lv_at hl 2 rfl) ?_
                  refine lv_bipush (v := 60) hx hb d_M_tape_71 (by decide) ?_
                  refine lv_icmp_ge (tgt := 95) hx hb d_M_tape_73 (by decide) (fun b63 => ?_) (fun b63 => ?_)
                  · replace h := ifp b63 h
                    exact kx62 _ (Option.some.inj h).symm H locs ls hw (lv_sub hl [] rfl)
                  · replace h := ifn b63 h
                    refine lv_aload_n hx hb d_M_tape_76 rfl (lv_at hl 0 rfl) ?_
                    refine fg_M_211 C hw hc0 d_M_tape_77 ?_
                    refine lv_bipush (v := 60) hx hb d_M_tape_80 (by decide) ?_
                    refine lv_iload_n hx hb d_M_tape_82 rfl (lv_at hl 1 rfl) ?_
                    refine lv_imul hx hb d_M_tape_83 ?_
                    refine lv_iload hx hb d_M_tape_84 (lv_at hl 2 rfl) ?_
                    refine lv_iadd hx hb d_M_tape_86 ?_
                    refine lv_lconst (v := 0) hx hb d_M_tape_87 (by decide) ?_
                    refine gde h (fun g64 h => ?_)
                    refine ste h (fun s65 e66 h => ?_)
                    refine stL (n := 360) C hw tM_39 (by decide) g64 d_M_tape_88 (fun H locs hw => ?_)
                    replace hw := HWe hw e66
                    refine lv_iinc (v := (x4 + 1)) (lv' := [(4, .int (x4 + 1)), (0, .ref (g.2.1 c0)), (1, .int x1)]) hx hb d_M_tape_89 hl (k := 2) rfl rfl (by decide) rfl (fun ls hl => ?_)
                    refine lv_goto (tgt := 69) hx hb d_M_tape_92 (by decide) ?_
                    exact ih (x4 + 1) s65 H locs ls hw (lv_sub hl [1, 2, 0] rfl) ex h kx62 kr62
              refine bnd h (fun x_67 k68 h => ?_)
              refine L62 c0 hc0 p1 FU 0 s61 H locs ls hw (lv_sub hl [1, 2, 0] rfl) x_67 k68 (fun y70 e71 H locs ls hw hl => ?_) trivial
              subst e71
              refine lv_iconst (v := 1) hx hb d_M_tape_95 (by decide) ?_
              exact retI C hw rfl (Option.some.inj h) d_M_tape_96
            refine lv_if_ge (tgt := 64) hx hb d_M_tape_57 (by decide) (fun b57 => ?_) (fun b57 => ?_)
            · replace h55 := ifp b57 h55
              refine lv_iload_n hx hb d_M_tape_64 rfl (lv_at hl 3 rfl) ?_
              have e58 := Option.some.inj h55
              subst e58
              exact J56 H locs ls hw (lv_sub hl [0, 1] rfl)
            · replace h55 := ifn b57 h55
              refine lv_iconst (v := 0) hx hb d_M_tape_60 (by decide) ?_
              refine lv_goto (tgt := 65) hx hb d_M_tape_61 (by decide) ?_
              have e59 := Option.some.inj h55
              subst e59
              exact J56 H locs ls hw (lv_sub hl [0, 1] rfl)
          · replace h := ifn b51 h
            refine lv_iload_n hx hb d_M_tape_37 rfl (lv_at hl 3 rfl) ?_
            refine lv_if_ge (tgt := 44) hx hb d_M_tape_38 (by decide) (fun b74 => ?_) (fun b74 => ?_)
            · replace h := ifp b74 h
              refine lv_aload_n hx hb d_M_tape_44 rfl (lv_at hl 0 rfl) ?_
              refine fg_M_205 C hw hc0 d_M_tape_45 ?_
              refine lv_iload_n hx hb d_M_tape_48 rfl (lv_at hl 1 rfl) ?_
              refine lv_iload_n hx hb d_M_tape_49 rfl (lv_at hl 2 rfl) ?_
              refine gde h (fun g75 h => ?_)
              refine ste h (fun s76 e96 h => ?_)
              refine stI (n := 6) C hw tM_37 (by decide) g75 d_M_tape_50 (fun H locs hw => ?_)
              replace hw := HWe hw e96
              refine lv_aload_n hx hb d_M_tape_51 rfl (lv_at hl 0 rfl) ?_
              refine fg_M_208 C hw hc0 d_M_tape_52 ?_
              refine lv_iload_n hx hb d_M_tape_55 rfl (lv_at hl 1 rfl) ?_
              refine lv_iload_n hx hb d_M_tape_56 rfl (lv_at hl 2 rfl) ?_
              refine bnd h (fun q77 h78 h => ?_)
              have J79 : ∀ (H : Heap) (locs : List Loc) (ls : Array Slot), HW BM g A s s76 H locs → lv_has ls 5 [(0, .ref (g.2.1 c0)), (1, .int p1)] → W p l e (rmL 3) s m args below meth c H locs 0 0 (MQ below (QI BM g q A) args s 0 0 A) (F0 m 65 ls [.int q77, .int p1, .ref (g.2.1 38)]) := by
                intro H locs ls hw hl
                refine gde h (fun g83 h => ?_)
                refine ste h (fun s84 e95 h => ?_)
                refine stI (n := 6) C hw tM_38 (by decide) g83 d_M_tape_65 (fun H locs hw => ?_)
                replace hw := HWe hw e95
                refine lv_iconst (v := 0) hx hb d_M_tape_66 (by decide) ?_
                refine lv_istore (lv' := [(4, .int 0), (0, .ref (g.2.1 c0)), (1, .int p1)]) hx hb d_M_tape_67 hl (by decide) rfl (fun ls hl => ?_)
                have L85 : ∀ (c0 : Nat) (hc0 : tg BM c0 20) (x1 : Int32) (n : Nat) (x4 : Int32) (σ : St) (H : Heap) (locs : List Loc) (ls : Array Slot), HW BM g A s σ H locs → lv_has ls 5 [(0, .ref (g.2.1 c0)), (1, .int x1), (4, .int x4)] → ∀ (ex : St), f_M_tape_l69 n c0 x1 x4 σ = some ex → (∀ (y : St), ex = y → ∀ (H : Heap) (locs : List Loc) (ls : Array Slot), HW BM g A s y H locs → lv_has ls 5 [] → W p l e (rmL 3) s m args below meth c H locs 0 0 (MQ below (QI BM g q A) args s 0 0 A) (F0 m 95 ls [])) → (True) → W p l e (rmL 3) s m args below meth c H locs 0 0 (MQ below (QI BM g q A) args s 0 0 A) (F0 m 69 ls []) := by
                  intro c0 hc0 x1 n
                  induction n with
                  | zero =>
                    intro x4 σ H locs ls hw hl ex h kx85 kr85
                    cases h
                  | succ n ih =>
                    intro x4 σ H locs ls hw hl ex h kx85 kr85
                    rw [f_M_tape_l69] at h
                    refine lv_iload hx hb d_M_tape_69 (lv_at hl 2 rfl) ?_
                    refine lv_bipush (v := 60) hx hb d_M_tape_71 (by decide) ?_
                    refine lv_icmp_ge (tgt := 95) hx hb d_M_tape_73 (by decide) (fun b86 => ?_) (fun b86 => ?_)
                    · replace h := ifp b86 h
                      exact kx85 _ (Option.some.inj h).symm H locs ls hw (lv_sub hl [] rfl)
                    · replace h := ifn b86 h
                      refine lv_aload_n hx hb d_M_tape_76 rfl (lv_at hl 0 rfl) ?_
                      refine fg_M_211 C hw hc0 d_M_tape_77 ?_
                      refine lv_bipush (v := 60) hx hb d_M_tape_80 (by decide) ?_
                      refine lv_iload_n hx hb d_M_tape_82 rfl (lv_at hl 1 rfl) ?_
                      refine lv_imul hx hb d_M_tape_83 ?_
                      refine lv_iload hx hb d_M_tape_84 (lv_at hl 2 rfl) ?_
                      refine lv_iadd hx hb d_M_tape_86 ?_
                      refine lv_lconst (v := 0) hx hb d_M_tape_87 (by decide) ?_
                      refine gde h (fun g87 h => ?_)
                      refine ste h (fun s88 e89 h => ?_)
                      refine stL (n := 360) C hw tM_39 (by decide) g87 d_M_tape_88 (fun H locs hw => ?_)
                      replace hw := HWe hw e89
                      refine lv_iinc (v := (x4 + 1)) (lv' := [(4, .int (x4 + 1)), (0, .ref (g.2.1 c0)), (1, .int x1)]) hx hb d_M_tape_89 hl (k := 2) rfl rfl (by decide) rfl (fun ls hl => ?_)
                      refine lv_goto (tgt := 69) hx hb d_M_tape_92 (by decide) ?_
                      exact ih (x4 + 1) s88 H locs ls hw (lv_sub hl [1, 2, 0] rfl) ex h kx85 kr85
                refine bnd h (fun x_90 k91 h => ?_)
                refine L85 c0 hc0 p1 FU 0 s84 H locs ls hw (lv_sub hl [1, 2, 0] rfl) x_90 k91 (fun y93 e94 H locs ls hw hl => ?_) trivial
                subst e94
                refine lv_iconst (v := 1) hx hb d_M_tape_95 (by decide) ?_
                exact retI C hw rfl (Option.some.inj h) d_M_tape_96
              refine lv_if_ge (tgt := 64) hx hb d_M_tape_57 (by decide) (fun b80 => ?_) (fun b80 => ?_)
              · replace h78 := ifp b80 h78
                refine lv_iload_n hx hb d_M_tape_64 rfl (lv_at hl 3 rfl) ?_
                have e81 := Option.some.inj h78
                subst e81
                exact J79 H locs ls hw (lv_sub hl [0, 1] rfl)
              · replace h78 := ifn b80 h78
                refine lv_iconst (v := 0) hx hb d_M_tape_60 (by decide) ?_
                refine lv_goto (tgt := 65) hx hb d_M_tape_61 (by decide) ?_
                have e82 := Option.some.inj h78
                subst e82
                exact J79 H locs ls hw (lv_sub hl [0, 1] rfl)
            · replace h := ifn b74 h
              refine lv_bipush (v := (-14)) hx hb d_M_tape_41 (by decide) ?_
              exact retI C hw rfl (Option.some.inj h) d_M_tape_43
        · replace h := ifn b50 h
          refine lv_bipush (v := (-2)) hx hb d_M_tape_30 (by decide) ?_
          exact retI C hw rfl (Option.some.inj h) d_M_tape_32
  · replace h := ifp b1 h
    refine lv_iconst (v := (-1)) hx hb d_M_tape_8 (by decide) ?_
    exact retI C hw rfl (Option.some.inj h) d_M_tape_9
def f_M_narrow (c0 : Nat) (p1 : Int32) (p2 : Int64) : Int64 := (if p1 = 0 then (((p2).toInt32).toInt8.toInt32).toInt64 else (if p1 = 1 then (((p2).toInt32).toInt16.toInt32).toInt64 else (if p1 = 2 then ((p2).toInt32).toInt64 else (if p1 = 4 then (if (lg_cmp p2 0) = 0 then 0 else 1) else p2))))
set_option maxHeartbeats 400000 in
set_option maxRecDepth 20000 in
theorem c_M_narrow (g : GX) (c0 : Nat) (hc0 : tg BM c0 20) (p1 : Int32) (p2 : Int64) (σ : St) (l : Launch) : CT BM l y_M_narrow (v_M_narrow :: lwG) 1 [.ref (g.2.1 c0), .int p1, .long p2] g σ (QL BM g (f_M_narrow c0 p1 p2, σ)) := by
  generalize h : f_M_narrow c0 p1 p2 = q
  refine mkC (cc := b_M_narrow) (maxL := 4) (ret := (some .long)) rfl (by decide) rfl (Nat.le_of_ble_eq_true rfl) ?_
  intro p e s m args below meth c A ls C hl hw
  obtain ⟨hx, hb, hr, hml, hown, hts, hK, hE, hA, hlk⟩ := id C
  replace hl : lv_has ls 4 [(0, .ref (g.2.1 c0)), (1, .int p1), (2, .long p2)] := hl
  obtain ⟨H, hH⟩ : ∃ z, z = s.heap := ⟨_, rfl⟩
  rw [← hH] at hw ⊢
  obtain ⟨locs, hlo⟩ : ∃ z : List Loc, z = [] := ⟨_, rfl⟩
  rw [← hlo] at hw ⊢
  unfold f_M_narrow at h
  refine lv_iload_n hx hb d_M_narrow_0 rfl (lv_at hl 1 rfl) ?_
  refine lv_if_ne (tgt := 11) hx hb d_M_narrow_1 (by decide) (fun b1 => ?_) (fun b1 => ?_)
  · replace h := ifn b1 h
    refine lv_iload_n hx hb d_M_narrow_11 rfl (lv_at hl 1 rfl) ?_
    refine lv_iconst (v := 1) hx hb d_M_narrow_12 (by decide) ?_
    refine lv_icmp_ne (tgt := 23) hx hb d_M_narrow_13 (by decide) (fun b2 => ?_) (fun b2 => ?_)
    · replace h := ifn b2 h
      refine lv_iload_n hx hb d_M_narrow_23 rfl (lv_at hl 1 rfl) ?_
      refine lv_iconst (v := 2) hx hb d_M_narrow_24 (by decide) ?_
      refine lv_icmp_ne (tgt := 34) hx hb d_M_narrow_25 (by decide) (fun b3 => ?_) (fun b3 => ?_)
      · replace h := ifn b3 h
        refine lv_iload_n hx hb d_M_narrow_34 rfl (lv_at hl 1 rfl) ?_
        refine lv_iconst (v := 4) hx hb d_M_narrow_35 (by decide) ?_
        refine lv_icmp_ne (tgt := 53) hx hb d_M_narrow_36 (by decide) (fun b4 => ?_) (fun b4 => ?_)
        · replace h := ifn b4 h
          refine lv_lload_n hx hb d_M_narrow_53 rfl (lv_at hl 2 rfl) ?_
          exact retL C hw rfl (congrArg (fun z => (z, σ)) h) d_M_narrow_54
        · replace h := ifp b4 h
          refine lv_lload_n hx hb d_M_narrow_39 rfl (lv_at hl 2 rfl) ?_
          refine lv_lconst (v := 0) hx hb d_M_narrow_40 (by decide) ?_
          refine W.lcmp hx hb d_M_narrow_41 ?_
          refine lv_if_eq (tgt := 49) hx hb d_M_narrow_42 (by decide) (fun b5 => ?_) (fun b5 => ?_)
          · replace h := ifp b5 h
            refine lv_lconst (v := 0) hx hb d_M_narrow_49 (by decide) ?_
            refine lv_goto (tgt := 54) hx hb d_M_narrow_50 (by decide) ?_
            exact retL C hw rfl (congrArg (fun z => (z, σ)) h) d_M_narrow_54
          · replace h := ifn b5 h
            refine lv_lconst (v := 1) hx hb d_M_narrow_45 (by decide) ?_
            refine lv_goto (tgt := 54) hx hb d_M_narrow_46 (by decide) ?_
            exact retL C hw rfl (congrArg (fun z => (z, σ)) h) d_M_narrow_54
      · replace h := ifp b3 h
        refine lv_lload_n hx hb d_M_narrow_28 rfl (lv_at hl 2 rfl) ?_
        refine lv_l2i hx hb d_M_narrow_29 rfl ?_
        refine lv_i2l hx hb d_M_narrow_30 rfl ?_
        refine lv_goto (tgt := 54) hx hb d_M_narrow_31 (by decide) ?_
        exact retL C hw rfl (congrArg (fun z => (z, σ)) h) d_M_narrow_54
    · replace h := ifp b2 h
      refine lv_lload_n hx hb d_M_narrow_16 rfl (lv_at hl 2 rfl) ?_
      refine lv_l2i hx hb d_M_narrow_17 rfl ?_
      refine lv_i2s hx hb d_M_narrow_18 rfl ?_
      refine lv_i2l hx hb d_M_narrow_19 rfl ?_
      refine lv_goto (tgt := 54) hx hb d_M_narrow_20 (by decide) ?_
      exact retL C hw rfl (congrArg (fun z => (z, σ)) h) d_M_narrow_54
  · replace h := ifp b1 h
    refine lv_lload_n hx hb d_M_narrow_4 rfl (lv_at hl 2 rfl) ?_
    refine lv_l2i hx hb d_M_narrow_5 rfl ?_
    refine lv_i2b hx hb d_M_narrow_6 rfl ?_
    refine lv_i2l hx hb d_M_narrow_7 rfl ?_
    refine lv_goto (tgt := 54) hx hb d_M_narrow_8 (by decide) ?_
    exact retL C hw rfl (congrArg (fun z => (z, σ)) h) d_M_narrow_54
def f_M_item (c0 : Nat) (p1 : Int32) (p2 : Int32) (p3 : Int64) (σ : St) : Option (Int32 × St) := (if (f_M_isTape c0 p1) = false then some ((-1), σ) else (if ok p1 6 = true then (if 0 ≤ (vJ σ 37 (nx p1)) then (if ok p1 6 = true then (if (f_M_in c0 p2 0 ((vJ σ 38 (nx p1)) - 1)) = false then some ((-13), σ) else (if ok p1 6 = true then (if ok ((60 * p1) + p2) 360 = true then (st (sL σ 39 (va_up (vL σ 39) (nx ((60 * p1) + p2)) (f_M_narrow c0 (vJ σ 37 (nx p1)) p3))) fun s8 => some (1, s8)) else none) else none)) else none) else some ((-11), σ)) else none))
set_option maxHeartbeats 400000 in
set_option maxRecDepth 20000 in
theorem c_M_item (g : GX) (c0 : Nat) (hc0 : tg BM c0 20) (p1 : Int32) (p2 : Int32) (p3 : Int64) (σ : St) (q : Int32 × St) (h : f_M_item c0 p1 p2 p3 σ = some q) (l : Launch) : CT BM l y_M_item (v_M_item :: lwG) 3 [.ref (g.2.1 c0), .int p1, .int p2, .long p3] g σ (QI BM g q) := by
  refine mkC (cc := b_M_item) (maxL := 5) (ret := (some .int)) rfl (by decide) rfl (Nat.le_of_ble_eq_true rfl) ?_
  intro p e s m args below meth c A ls C hl hw
  obtain ⟨hx, hb, hr, hml, hown, hts, hK, hE, hA, hlk⟩ := id C
  replace hl : lv_has ls 5 [(0, .ref (g.2.1 c0)), (1, .int p1), (2, .int p2), (3, .long p3)] := hl
  obtain ⟨H, hH⟩ : ∃ z, z = s.heap := ⟨_, rfl⟩
  rw [← hH] at hw ⊢
  obtain ⟨locs, hlo⟩ : ∃ z : List Loc, z = [] := ⟨_, rfl⟩
  rw [← hlo] at hw ⊢
  unfold f_M_item at h
  refine lv_aload_n hx hb d_M_item_0 rfl (lv_at hl 0 rfl) ?_
  refine lv_iload_n hx hb d_M_item_1 rfl (lv_at hl 1 rfl) ?_
  refine clZ0 (v := (f_M_isTape c0 p1)) C hw (invV (As := [.int p1]) C hw (c_M_isTape g c0 hc0 p1 σ l) rfl wc_M_358 nd_M_isTape ⟨by decide, by decide⟩ (rc_M C hw hc0) rfl hl.1 rfl (Nat.le_of_ble_eq_true rfl) d_M_item_2 ⟨Nat.le_refl _, Nat.le_refl _⟩) (fun H locs hw => ?_)
  refine ifnB (tgt := 10) C d_M_item_5 (by decide) (fun b1 => ?_) (fun b1 => ?_)
  · replace h := ifn b1 h
    refine lv_aload_n hx hb d_M_item_10 rfl (lv_at hl 0 rfl) ?_
    refine fg_M_205 C hw hc0 d_M_item_11 ?_
    refine lv_iload_n hx hb d_M_item_14 rfl (lv_at hl 1 rfl) ?_
    refine gde h (fun g2 h => ?_)
    refine ldI (n := 6) C hw tM_37 (by decide) g2 d_M_item_15 ?_
    refine lv_if_ge (tgt := 22) hx hb d_M_item_16 (by decide) (fun b3 => ?_) (fun b3 => ?_)
    · replace h := ifp b3 h
      refine lv_aload_n hx hb d_M_item_22 rfl (lv_at hl 0 rfl) ?_
      refine lv_iload_n hx hb d_M_item_23 rfl (lv_at hl 2 rfl) ?_
      refine lv_iconst (v := 0) hx hb d_M_item_24 (by decide) ?_
      refine lv_aload_n hx hb d_M_item_25 rfl (lv_at hl 0 rfl) ?_
      refine fg_M_208 C hw hc0 d_M_item_26 ?_
      refine lv_iload_n hx hb d_M_item_29 rfl (lv_at hl 1 rfl) ?_
      refine gde h (fun g4 h => ?_)
      refine ldI (n := 6) C hw tM_38 (by decide) g4 d_M_item_30 ?_
      refine lv_iconst (v := 1) hx hb d_M_item_31 (by decide) ?_
      refine lv_isub hx hb d_M_item_32 ?_
      refine clZ0 (v := (f_M_in c0 p2 0 ((vJ σ 38 (nx p1)) - 1))) C hw (invV (As := [.int p2, .int 0, .int ((vJ σ 38 (nx p1)) - 1)]) C hw (c_M_in g c0 hc0 p2 0 ((vJ σ 38 (nx p1)) - 1) σ l) rfl wc_M_218 nd_M_in ⟨by decide, by decide⟩ (rc_M C hw hc0) rfl hl.1 rfl (Nat.le_of_ble_eq_true rfl) d_M_item_33 ⟨Nat.le_refl _, Nat.le_refl _⟩) (fun H locs hw => ?_)
      refine ifnB (tgt := 42) C d_M_item_36 (by decide) (fun b5 => ?_) (fun b5 => ?_)
      · replace h := ifn b5 h
        refine lv_aload_n hx hb d_M_item_42 rfl (lv_at hl 0 rfl) ?_
        refine fg_M_211 C hw hc0 d_M_item_43 ?_
        refine lv_bipush (v := 60) hx hb d_M_item_46 (by decide) ?_
        refine lv_iload_n hx hb d_M_item_48 rfl (lv_at hl 1 rfl) ?_
        refine lv_imul hx hb d_M_item_49 ?_
        refine lv_iload_n hx hb d_M_item_50 rfl (lv_at hl 2 rfl) ?_
        refine lv_iadd hx hb d_M_item_51 ?_
        refine lv_aload_n hx hb d_M_item_52 rfl (lv_at hl 0 rfl) ?_
        refine lv_aload_n hx hb d_M_item_53 rfl (lv_at hl 0 rfl) ?_
        refine fg_M_205 C hw hc0 d_M_item_54 ?_
        refine lv_iload_n hx hb d_M_item_57 rfl (lv_at hl 1 rfl) ?_
        refine gde h (fun g6 h => ?_)
        refine ldI (n := 6) C hw tM_37 (by decide) g6 d_M_item_58 ?_
        refine lv_lload_n hx hb d_M_item_59 rfl (lv_at hl 3 rfl) ?_
        refine clL0 (v := (f_M_narrow c0 (vJ σ 37 (nx p1)) p3)) C hw (invV (As := [.int (vJ σ 37 (nx p1)), .long p3]) C hw (c_M_narrow g c0 hc0 (vJ σ 37 (nx p1)) p3 σ l) rfl wc_M_385 nd_M_narrow ⟨by decide, by decide⟩ (rc_M C hw hc0) rfl hl.1 rfl (Nat.le_of_ble_eq_true rfl) d_M_item_60 ⟨Nat.le_refl _, Nat.le_refl _⟩) (fun H locs hw => ?_)
        refine gde h (fun g7 h => ?_)
        refine ste h (fun s8 e9 h => ?_)
        refine stL (n := 360) C hw tM_39 (by decide) g7 d_M_item_63 (fun H locs hw => ?_)
        replace hw := HWe hw e9
        refine lv_iconst (v := 1) hx hb d_M_item_64 (by decide) ?_
        exact retI C hw rfl (Option.some.inj h) d_M_item_65
      · replace h := ifp b5 h
        refine lv_bipush (v := (-13)) hx hb d_M_item_39 (by decide) ?_
        exact retI C hw rfl (Option.some.inj h) d_M_item_41
    · replace h := ifn b3 h
      refine lv_bipush (v := (-11)) hx hb d_M_item_19 (by decide) ?_
      exact retI C hw rfl (Option.some.inj h) d_M_item_21
  · replace h := ifp b1 h
    refine lv_iconst (v := (-1)) hx hb d_M_item_8 (by decide) ?_
    exact retI C hw rfl (Option.some.inj h) d_M_item_9
def f_M_read (c0 : Nat) (p1 : Int32) (p2 : Int32) (σ : St) : Option (Int64) := (if (f_M_isTape c0 p1) = false then some (-9223372036854775808) else (if ok p1 6 = true then (if (vJ σ 37 (nx p1)) < 0 then some (-9223372036854775808) else (if ok p1 6 = true then (if (f_M_in c0 p2 0 ((vJ σ 38 (nx p1)) - 1)) = false then some (-9223372036854775808) else (if ok ((60 * p1) + p2) 360 = true then some (vL σ 39 (nx ((60 * p1) + p2))) else none)) else none)) else none))
set_option maxHeartbeats 400000 in
set_option maxRecDepth 20000 in
theorem c_M_read (g : GX) (c0 : Nat) (hc0 : tg BM c0 20) (p1 : Int32) (p2 : Int32) (σ : St) (q : Int64) (h : f_M_read c0 p1 p2 σ = some q) (l : Launch) : CT BM l y_M_read (v_M_read :: lwG) 3 [.ref (g.2.1 c0), .int p1, .int p2] g σ (QL BM g (q, σ)) := by
  refine mkC (cc := b_M_read) (maxL := 3) (ret := (some .long)) rfl (by decide) rfl (Nat.le_of_ble_eq_true rfl) ?_
  intro p e s m args below meth c A ls C hl hw
  obtain ⟨hx, hb, hr, hml, hown, hts, hK, hE, hA, hlk⟩ := id C
  replace hl : lv_has ls 3 [(0, .ref (g.2.1 c0)), (1, .int p1), (2, .int p2)] := hl
  obtain ⟨H, hH⟩ : ∃ z, z = s.heap := ⟨_, rfl⟩
  rw [← hH] at hw ⊢
  obtain ⟨locs, hlo⟩ : ∃ z : List Loc, z = [] := ⟨_, rfl⟩
  rw [← hlo] at hw ⊢
  unfold f_M_read at h
  refine lv_aload_n hx hb d_M_read_0 rfl (lv_at hl 0 rfl) ?_
  refine lv_iload_n hx hb d_M_read_1 rfl (lv_at hl 1 rfl) ?_
  refine clZ0 (v := (f_M_isTape c0 p1)) C hw (invV (As := [.int p1]) C hw (c_M_isTape g c0 hc0 p1 σ l) rfl wc_M_358 nd_M_isTape ⟨by decide, by decide⟩ (rc_M C hw hc0) rfl hl.1 rfl (Nat.le_of_ble_eq_true rfl) d_M_read_2 ⟨Nat.le_refl _, Nat.le_refl _⟩) (fun H locs hw => ?_)
  refine ifB (tgt := 34) C d_M_read_5 (by decide) (fun b1 => ?_) (fun b1 => ?_)
  · replace h := ifp b1 h
    refine lv_ldc2 (v := (-9223372036854775808)) hx hb hown (hts _ (inG 1211 (by decide +kernel) (by decide +kernel))) d_M_read_34 ?_
    refine lv_goto (tgt := 51) hx hb d_M_read_37 (by decide) ?_
    exact retL C hw rfl (congrArg (fun z => (z, σ)) (Option.some.inj h)) d_M_read_51
  · replace h := ifn b1 h
    refine lv_aload_n hx hb d_M_read_8 rfl (lv_at hl 0 rfl) ?_
    refine fg_M_205 C hw hc0 d_M_read_9 ?_
    refine lv_iload_n hx hb d_M_read_12 rfl (lv_at hl 1 rfl) ?_
    refine gde h (fun g2 h => ?_)
    refine ldI (n := 6) C hw tM_37 (by decide) g2 d_M_read_13 ?_
    refine lv_if_lt (tgt := 34) hx hb d_M_read_14 (by decide) (fun b3 => ?_) (fun b3 => ?_)
    · replace h := ifp b3 h
      refine lv_ldc2 (v := (-9223372036854775808)) hx hb hown (hts _ (inG 1211 (by decide +kernel) (by decide +kernel))) d_M_read_34 ?_
      refine lv_goto (tgt := 51) hx hb d_M_read_37 (by decide) ?_
      exact retL C hw rfl (congrArg (fun z => (z, σ)) (Option.some.inj h)) d_M_read_51
    · replace h := ifn b3 h
      refine lv_aload_n hx hb d_M_read_17 rfl (lv_at hl 0 rfl) ?_
      refine lv_iload_n hx hb d_M_read_18 rfl (lv_at hl 2 rfl) ?_
      refine lv_iconst (v := 0) hx hb d_M_read_19 (by decide) ?_
      refine lv_aload_n hx hb d_M_read_20 rfl (lv_at hl 0 rfl) ?_
      refine fg_M_208 C hw hc0 d_M_read_21 ?_
      refine lv_iload_n hx hb d_M_read_24 rfl (lv_at hl 1 rfl) ?_
      refine gde h (fun g4 h => ?_)
      refine ldI (n := 6) C hw tM_38 (by decide) g4 d_M_read_25 ?_
      refine lv_iconst (v := 1) hx hb d_M_read_26 (by decide) ?_
      refine lv_isub hx hb d_M_read_27 ?_
      refine clZ0 (v := (f_M_in c0 p2 0 ((vJ σ 38 (nx p1)) - 1))) C hw (invV (As := [.int p2, .int 0, .int ((vJ σ 38 (nx p1)) - 1)]) C hw (c_M_in g c0 hc0 p2 0 ((vJ σ 38 (nx p1)) - 1) σ l) rfl wc_M_218 nd_M_in ⟨by decide, by decide⟩ (rc_M C hw hc0) rfl hl.1 rfl (Nat.le_of_ble_eq_true rfl) d_M_read_28 ⟨Nat.le_refl _, Nat.le_refl _⟩) (fun H locs hw => ?_)
      refine ifnB (tgt := 40) C d_M_read_31 (by decide) (fun b5 => ?_) (fun b5 => ?_)
      · replace h := ifn b5 h
        refine lv_aload_n hx hb d_M_read_40 rfl (lv_at hl 0 rfl) ?_
        refine fg_M_211 C hw hc0 d_M_read_41 ?_
        refine lv_bipush (v := 60) hx hb d_M_read_44 (by decide) ?_
        refine lv_iload_n hx hb d_M_read_46 rfl (lv_at hl 1 rfl) ?_
        refine lv_imul hx hb d_M_read_47 ?_
        refine lv_iload_n hx hb d_M_read_48 rfl (lv_at hl 2 rfl) ?_
        refine lv_iadd hx hb d_M_read_49 ?_
        refine gde h (fun g6 h => ?_)
        refine ldL (n := 360) C hw tM_39 (by decide) g6 d_M_read_50 ?_
        exact retL C hw rfl (congrArg (fun z => (z, σ)) (Option.some.inj h)) d_M_read_51
      · replace h := ifp b5 h
        refine lv_ldc2 (v := (-9223372036854775808)) hx hb hown (hts _ (inG 1211 (by decide +kernel) (by decide +kernel))) d_M_read_34 ?_
        refine lv_goto (tgt := 51) hx hb d_M_read_37 (by decide) ?_
        exact retL C hw rfl (congrArg (fun z => (z, σ)) (Option.some.inj h)) d_M_read_51
def f_M_shift_l104 : Nat → Nat → Int32 → Int32 → Int32 → Int32 → Int32 → Int32 → St → Option (St)
  | 0, _, _, _, _, _, _, _, _ => none
  | n + 1, c0, x1, x2, x3, x4, x5, x6, σ => (if x5 ≤ x6 then some σ else (if ok (((60 * x1) + x2) + x6) 360 = true then (if ok x6 60 = true then (st (sL σ 40 (va_up (vL σ 40) (nx x6) (vL σ 39 (nx (((60 * x1) + x2) + x6))))) fun s21 => (f_M_shift_l104 n c0 x1 x2 x3 x4 x5 (x6 + 1) s21)) else none) else none))
def f_M_shift_l141 : Nat → Nat → Int32 → Int32 → Int32 → Int32 → St → Option (St)
  | 0, _, _, _, _, _, _ => none
  | n + 1, c0, x3, x4, x5, x6, σ => (if x5 ≤ x6 then some σ else (if ok x6 60 = true then (if ok (((60 * x3) + x4) + x6) 360 = true then (st (sL σ 39 (va_up (vL σ 39) (nx (((60 * x3) + x4) + x6)) (vL σ 40 (nx x6)))) fun s30 => (f_M_shift_l141 n c0 x3 x4 x5 (x6 + 1) s30)) else none) else none))
def f_M_shift (c0 : Nat) (p1 : Int32) (p2 : Int32) (p3 : Int32) (p4 : Int32) (p5 : Int32) (σ : St) : Option (Int32 × St) := (if (f_M_isTape c0 p1) = false then some ((-1), σ) else (if (f_M_isTape c0 p3) = false then some ((-1), σ) else (if ok p1 6 = true then (if (vJ σ 37 (nx p1)) < 0 then some ((-11), σ) else (if ok p3 6 = true then (if 0 ≤ (vJ σ 37 (nx p3)) then (if ok p1 6 = true then (if ok p3 6 = true then (if (vJ σ 37 (nx p1)) = (vJ σ 37 (nx p3)) then (if p5 < 0 then some ((-13), σ) else (if p2 < 0 then some ((-13), σ) else (if p4 < 0 then some ((-13), σ) else (if ok p1 6 = true then (if ((vJ σ 38 (nx p1)) - p5) < p2 then some ((-13), σ) else (if ok p3 6 = true then (if p4 ≤ ((vJ σ 38 (nx p3)) - p5) then ((f_M_shift_l104 FU c0 p1 p2 p3 p4 p5 0 σ).bind fun x_23 => ((f_M_shift_l141 FU c0 p3 p4 p5 0 x_23).bind fun x_32 => some (p5, x_32))) else some ((-13), σ)) else none)) else none)))) else some ((-12), σ)) else none) else none) else some ((-11), σ)) else none)) else none)))
set_option maxHeartbeats 400000 in
set_option maxRecDepth 20000 in
theorem c_M_shift (g : GX) (c0 : Nat) (hc0 : tg BM c0 20) (p1 : Int32) (p2 : Int32) (p3 : Int32) (p4 : Int32) (p5 : Int32) (σ : St) (q : Int32 × St) (h : f_M_shift c0 p1 p2 p3 p4 p5 σ = some q) (l : Launch) : CT BM l y_M_shift (v_M_shift :: lwG) 3 [.ref (g.2.1 c0), .int p1, .int p2, .int p3, .int p4, .int p5] g σ (QI BM g q) := by
  refine mkC (cc := b_M_shift) (maxL := 7) (ret := (some .int)) rfl (by decide) rfl (Nat.le_of_ble_eq_true rfl) ?_
  intro p e s m args below meth c A ls C hl hw
  obtain ⟨hx, hb, hr, hml, hown, hts, hK, hE, hA, hlk⟩ := id C
  replace hl : lv_has ls 7 [(0, .ref (g.2.1 c0)), (1, .int p1), (2, .int p2), (3, .int p3), (4, .int p4), (5, .int p5)] := hl
  obtain ⟨H, hH⟩ : ∃ z, z = s.heap := ⟨_, rfl⟩
  rw [← hH] at hw ⊢
  obtain ⟨locs, hlo⟩ : ∃ z : List Loc, z = [] := ⟨_, rfl⟩
  rw [← hlo] at hw ⊢
  unfold f_M_shift at h
  refine lv_aload_n hx hb d_M_shift_0 rfl (lv_at hl 0 rfl) ?_
  refine lv_iload_n hx hb d_M_shift_1 rfl (lv_at hl 1 rfl) ?_
  refine clZ0 (v := (f_M_isTape c0 p1)) C hw (invV (As := [.int p1]) C hw (c_M_isTape g c0 hc0 p1 σ l) rfl wc_M_358 nd_M_isTape ⟨by decide, by decide⟩ (rc_M C hw hc0) rfl hl.1 rfl (Nat.le_of_ble_eq_true rfl) d_M_shift_2 ⟨Nat.le_refl _, Nat.le_refl _⟩) (fun H locs hw => ?_)
  refine ifB (tgt := 16) C d_M_shift_5 (by decide) (fun b1 => ?_) (fun b1 => ?_)
  · replace h := ifp b1 h
    refine lv_iconst (v := (-1)) hx hb d_M_shift_16 (by decide) ?_
    exact retI C hw rfl (Option.some.inj h) d_M_shift_17
  · replace h := ifn b1 h
    refine lv_aload_n hx hb d_M_shift_8 rfl (lv_at hl 0 rfl) ?_
    refine lv_iload_n hx hb d_M_shift_9 rfl (lv_at hl 3 rfl) ?_
    refine clZ0 (v := (f_M_isTape c0 p3)) C hw (invV (As := [.int p3]) C hw (c_M_isTape g c0 hc0 p3 σ l) rfl wc_M_358 nd_M_isTape ⟨by decide, by decide⟩ (rc_M C hw hc0) rfl hl.1 rfl (Nat.le_of_ble_eq_true rfl) d_M_shift_10 ⟨Nat.le_refl _, Nat.le_refl _⟩) (fun H locs hw => ?_)
    refine ifnB (tgt := 18) C d_M_shift_13 (by decide) (fun b2 => ?_) (fun b2 => ?_)
    · replace h := ifn b2 h
      refine lv_aload_n hx hb d_M_shift_18 rfl (lv_at hl 0 rfl) ?_
      refine fg_M_205 C hw hc0 d_M_shift_19 ?_
      refine lv_iload_n hx hb d_M_shift_22 rfl (lv_at hl 1 rfl) ?_
      refine gde h (fun g3 h => ?_)
      refine ldI (n := 6) C hw tM_37 (by decide) g3 d_M_shift_23 ?_
      refine lv_if_lt (tgt := 36) hx hb d_M_shift_24 (by decide) (fun b4 => ?_) (fun b4 => ?_)
      · replace h := ifp b4 h
        refine lv_bipush (v := (-11)) hx hb d_M_shift_36 (by decide) ?_
        exact retI C hw rfl (Option.some.inj h) d_M_shift_38
      · replace h := ifn b4 h
        refine lv_aload_n hx hb d_M_shift_27 rfl (lv_at hl 0 rfl) ?_
        refine fg_M_205 C hw hc0 d_M_shift_28 ?_
        refine lv_iload_n hx hb d_M_shift_31 rfl (lv_at hl 3 rfl) ?_
        refine gde h (fun g5 h => ?_)
        refine ldI (n := 6) C hw tM_37 (by decide) g5 d_M_shift_32 ?_
        refine lv_if_ge (tgt := 39) hx hb d_M_shift_33 (by decide) (fun b6 => ?_) (fun b6 => ?_)
        · replace h := ifp b6 h
          refine lv_aload_n hx hb d_M_shift_39 rfl (lv_at hl 0 rfl) ?_
          refine fg_M_205 C hw hc0 d_M_shift_40 ?_
          refine lv_iload_n hx hb d_M_shift_43 rfl (lv_at hl 1 rfl) ?_
          refine gde h (fun g7 h => ?_)
          refine ldI (n := 6) C hw tM_37 (by decide) g7 d_M_shift_44 ?_
          refine lv_aload_n hx hb d_M_shift_45 rfl (lv_at hl 0 rfl) ?_
          refine fg_M_205 C hw hc0 d_M_shift_46 ?_
          refine lv_iload_n hx hb d_M_shift_49 rfl (lv_at hl 3 rfl) ?_
          refine gde h (fun g8 h => ?_)
          refine ldI (n := 6) C hw tM_37 (by decide) g8 d_M_shift_50 ?_
          refine lv_icmp_eq (tgt := 57) hx hb d_M_shift_51 (by decide) (fun b9 => ?_) (fun b9 => ?_)
          · replace h := ifp b9 h
            refine lv_iload hx hb d_M_shift_57 (lv_at hl 5 rfl) ?_
            refine lv_if_lt (tgt := 98) hx hb d_M_shift_59 (by decide) (fun b10 => ?_) (fun b10 => ?_)
            · replace h := ifp b10 h
              refine lv_bipush (v := (-13)) hx hb d_M_shift_98 (by decide) ?_
              exact retI C hw rfl (Option.some.inj h) d_M_shift_100
            · replace h := ifn b10 h
              refine lv_iload_n hx hb d_M_shift_62 rfl (lv_at hl 2 rfl) ?_
              refine lv_if_lt (tgt := 98) hx hb d_M_shift_63 (by decide) (fun b11 => ?_) (fun b11 => ?_)
              · replace h := ifp b11 h
                refine lv_bipush (v := (-13)) hx hb d_M_shift_98 (by decide) ?_
                exact retI C hw rfl (Option.some.inj h) d_M_shift_100
              · replace h := ifn b11 h
                refine lv_iload hx hb d_M_shift_66 (lv_at hl 4 rfl) ?_
                refine lv_if_lt (tgt := 98) hx hb d_M_shift_68 (by decide) (fun b12 => ?_) (fun b12 => ?_)
                · replace h := ifp b12 h
                  refine lv_bipush (v := (-13)) hx hb d_M_shift_98 (by decide) ?_
                  exact retI C hw rfl (Option.some.inj h) d_M_shift_100
                · replace h := ifn b12 h
                  refine lv_iload_n hx hb d_M_shift_71 rfl (lv_at hl 2 rfl) ?_
                  refine lv_aload_n hx hb d_M_shift_72 rfl (lv_at hl 0 rfl) ?_
                  refine fg_M_208 C hw hc0 d_M_shift_73 ?_
                  refine lv_iload_n hx hb d_M_shift_76 rfl (lv_at hl 1 rfl) ?_
                  refine gde h (fun g13 h => ?_)
                  refine ldI (n := 6) C hw tM_38 (by decide) g13 d_M_shift_77 ?_
                  refine lv_iload hx hb d_M_shift_78 (lv_at hl 5 rfl) ?_
                  refine lv_isub hx hb d_M_shift_80 ?_
                  refine lv_icmp_gt (tgt := 98) hx hb d_M_shift_81 (by decide) (fun b14 => ?_) (fun b14 => ?_)
                  · replace h := ifp b14 h
                    refine lv_bipush (v := (-13)) hx hb d_M_shift_98 (by decide) ?_
                    exact retI C hw rfl (Option.some.inj h) d_M_shift_100
                  · replace h := ifn b14 h
                    refine lv_iload hx hb d_M_shift_84 (lv_at hl 4 rfl) ?_
                    refine lv_aload_n hx hb d_M_shift_86 rfl (lv_at hl 0 rfl) ?_
                    refine fg_M_208 C hw hc0 d_M_shift_87 ?_
                    refine lv_iload_n hx hb d_M_shift_90 rfl (lv_at hl 3 rfl) ?_
                    refine gde h (fun g15 h => ?_)
                    refine ldI (n := 6) C hw tM_38 (by decide) g15 d_M_shift_91 ?_
                    refine lv_iload hx hb d_M_shift_92 (lv_at hl 5 rfl) ?_
                    refine lv_isub hx hb d_M_shift_94 ?_
                    refine lv_icmp_le (tgt := 101) hx hb d_M_shift_95 (by decide) (fun b16 => ?_) (fun b16 => ?_)
                    · replace h := ifp b16 h
                      refine lv_iconst (v := 0) hx hb d_M_shift_101 (by decide) ?_
                      refine lv_istore (lv' := [(6, .int 0), (0, .ref (g.2.1 c0)), (1, .int p1), (2, .int p2), (3, .int p3), (4, .int p4), (5, .int p5)]) hx hb d_M_shift_102 hl (by decide) rfl (fun ls hl => ?_)
                      have L17 : ∀ (c0 : Nat) (hc0 : tg BM c0 20) (x1 : Int32) (x2 : Int32) (x3 : Int32) (x4 : Int32) (x5 : Int32) (n : Nat) (x6 : Int32) (σ : St) (H : Heap) (locs : List Loc) (ls : Array Slot), HW BM g A s σ H locs → lv_has ls 7 [(0, .ref (g.2.1 c0)), (1, .int x1), (2, .int x2), (3, .int x3), (4, .int x4), (5, .int x5), (6, .int x6)] → ∀ (ex : St), f_M_shift_l104 n c0 x1 x2 x3 x4 x5 x6 σ = some ex → (∀ (y : St), ex = y → ∀ (H : Heap) (locs : List Loc) (ls : Array Slot), HW BM g A s y H locs → lv_has ls 7 [(0, .ref (g.2.1 c0)), (3, .int x3), (4, .int x4), (5, .int x5)] → W p l e (rmL 3) s m args below meth c H locs 0 0 (MQ below (QI BM g q A) args s 0 0 A) (F0 m 138 ls [])) → (True) → W p l e (rmL 3) s m args below meth c H locs 0 0 (MQ below (QI BM g q A) args s 0 0 A) (F0 m 104 ls []) := by
                        intro c0 hc0 x1 x2 x3 x4 x5 n
                        induction n with
                        | zero =>
                          intro x6 σ H locs ls hw hl ex h kx17 kr17
                          cases h
                        | succ n ih =>
                          intro x6 σ H locs ls hw hl ex h kx17 kr17
                          rw [f_M_shift_l104] at h
                          refine lv_iload hx hb d_M_shift_104 (lv_at hl 6 rfl) ?_
                          refine lv_iload hx hb d_M_shift_106 (lv_at hl 5 rfl) ?_
                          refine lv_icmp_ge (tgt := 138) hx hb d_M_shift_108 (by decide) (fun b18 => ?_) (fun b18 => ?_)
                          · replace h := ifp b18 h
                            exact kx17 _ (Option.some.inj h).symm H locs ls hw (lv_sub hl [0, 3, 4, 5] rfl)
                          · replace h := ifn b18 h
                            refine lv_aload_n hx hb d_M_shift_111 rfl (lv_at hl 0 rfl) ?_
                            refine fg_M_215 C hw hc0 d_M_shift_112 ?_
                            refine lv_iload hx hb d_M_shift_115 (lv_at hl 6 rfl) ?_
                            refine lv_aload_n hx hb d_M_shift_117 rfl (lv_at hl 0 rfl) ?_
                            refine fg_M_211 C hw hc0 d_M_shift_118 ?_
                            refine lv_bipush (v := 60) hx hb d_M_shift_121 (by decide) ?_
                            refine lv_iload_n hx hb d_M_shift_123 rfl (lv_at hl 1 rfl) ?_
                            refine lv_imul hx hb d_M_shift_124 ?_
                            refine lv_iload_n hx hb d_M_shift_125 rfl (lv_at hl 2 rfl) ?_
                            refine lv_iadd hx hb d_M_shift_126 ?_
                            refine lv_iload hx hb d_M_shift_127 (lv_at hl 6 rfl) ?_
                            refine lv_iadd hx hb d_M_shift_129 ?_
                            refine gde h (fun g19 h => ?_)
                            refine ldL (n := 360) C hw tM_39 (by decide) g19 d_M_shift_130 ?_
                            refine gde h (fun g20 h => ?_)
                            refine ste h (fun s21 e22 h => ?_)
                            refine stL (n := 60) C hw tM_40 (by decide) g20 d_M_shift_131 (fun H locs hw => ?_)
                            replace hw := HWe hw e22
                            refine lv_iinc (v := (x6 + 1)) (lv' := [(6, .int (x6 + 1)), (0, .ref (g.2.1 c0)), (1, .int x1), (2, .int x2), (3, .int x3), (4, .int x4), (5, .int x5)]) hx hb d_M_shift_132 hl (k := 6) rfl rfl (by decide) rfl (fun ls hl => ?_)
                            refine lv_goto (tgt := 104) hx hb d_M_shift_135 (by decide) ?_
                            exact ih (x6 + 1) s21 H locs ls hw (lv_sub hl [1, 2, 3, 4, 5, 6, 0] rfl) ex h kx17 kr17
                      refine bnd h (fun x_23 k24 h => ?_)
                      refine L17 c0 hc0 p1 p2 p3 p4 p5 FU 0 σ H locs ls hw (lv_sub hl [1, 2, 3, 4, 5, 6, 0] rfl) x_23 k24 (fun y37 e38 H locs ls hw hl => ?_) trivial
                      subst e38
                      refine lv_iconst (v := 0) hx hb d_M_shift_138 (by decide) ?_
                      refine lv_istore (lv' := [(6, .int 0), (0, .ref (g.2.1 c0)), (3, .int p3), (4, .int p4), (5, .int p5)]) hx hb d_M_shift_139 hl (by decide) rfl (fun ls hl => ?_)
                      have L26 : ∀ (c0 : Nat) (hc0 : tg BM c0 20) (x3 : Int32) (x4 : Int32) (x5 : Int32) (n : Nat) (x6 : Int32) (σ : St) (H : Heap) (locs : List Loc) (ls : Array Slot), HW BM g A s σ H locs → lv_has ls 7 [(0, .ref (g.2.1 c0)), (3, .int x3), (4, .int x4), (5, .int x5), (6, .int x6)] → ∀ (ex : St), f_M_shift_l141 n c0 x3 x4 x5 x6 σ = some ex → (∀ (y : St), ex = y → ∀ (H : Heap) (locs : List Loc) (ls : Array Slot), HW BM g A s y H locs → lv_has ls 7 [(5, .int x5)] → W p l e (rmL 3) s m args below meth c H locs 0 0 (MQ below (QI BM g q A) args s 0 0 A) (F0 m 176 ls [])) → (True) → W p l e (rmL 3) s m args below meth c H locs 0 0 (MQ below (QI BM g q A) args s 0 0 A) (F0 m 141 ls []) := by
                        intro c0 hc0 x3 x4 x5 n
                        induction n with
                        | zero =>
                          intro x6 σ H locs ls hw hl ex h kx26 kr26
                          cases h
                        | succ n ih =>
                          intro x6 σ H locs ls hw hl ex h kx26 kr26
                          rw [f_M_shift_l141] at h
                          refine lv_iload hx hb d_M_shift_141 (lv_at hl 4 rfl) ?_
                          refine lv_iload hx hb d_M_shift_143 (lv_at hl 3 rfl) ?_
                          refine lv_icmp_ge (tgt := 176) hx hb d_M_shift_145 (by decide) (fun b27 => ?_) (fun b27 => ?_)
                          · replace h := ifp b27 h
                            exact kx26 _ (Option.some.inj h).symm H locs ls hw (lv_sub hl [3] rfl)
                          · replace h := ifn b27 h
                            refine lv_aload_n hx hb d_M_shift_148 rfl (lv_at hl 0 rfl) ?_
                            refine fg_M_211 C hw hc0 d_M_shift_149 ?_
                            refine lv_bipush (v := 60) hx hb d_M_shift_152 (by decide) ?_
                            refine lv_iload_n hx hb d_M_shift_154 rfl (lv_at hl 1 rfl) ?_
                            refine lv_imul hx hb d_M_shift_155 ?_
                            refine lv_iload hx hb d_M_shift_156 (lv_at hl 2 rfl) ?_
                            refine lv_iadd hx hb d_M_shift_158 ?_
                            refine lv_iload hx hb d_M_shift_159 (lv_at hl 4 rfl) ?_
                            refine lv_iadd hx hb d_M_shift_161 ?_
                            refine lv_aload_n hx hb d_M_shift_162 rfl (lv_at hl 0 rfl) ?_
                            refine fg_M_215 C hw hc0 d_M_shift_163 ?_
                            refine lv_iload hx hb d_M_shift_166 (lv_at hl 4 rfl) ?_
                            refine gde h (fun g28 h => ?_)
                            refine ldL (n := 60) C hw tM_40 (by decide) g28 d_M_shift_168 ?_
                            refine gde h (fun g29 h => ?_)
                            refine ste h (fun s30 e31 h => ?_)
                            refine stL (n := 360) C hw tM_39 (by decide) g29 d_M_shift_169 (fun H locs hw => ?_)
                            replace hw := HWe hw e31
                            refine lv_iinc (v := (x6 + 1)) (lv' := [(6, .int (x6 + 1)), (0, .ref (g.2.1 c0)), (3, .int x3), (4, .int x4), (5, .int x5)]) hx hb d_M_shift_170 hl (k := 4) rfl rfl (by decide) rfl (fun ls hl => ?_)
                            refine lv_goto (tgt := 141) hx hb d_M_shift_173 (by decide) ?_
                            exact ih (x6 + 1) s30 H locs ls hw (lv_sub hl [1, 2, 3, 4, 0] rfl) ex h kx26 kr26
                      refine bnd h (fun x_32 k33 h => ?_)
                      refine L26 c0 hc0 p3 p4 p5 FU 0 x_23 H locs ls hw (lv_sub hl [1, 2, 3, 4, 0] rfl) x_32 k33 (fun y35 e36 H locs ls hw hl => ?_) trivial
                      subst e36
                      refine lv_iload hx hb d_M_shift_176 (lv_at hl 0 rfl) ?_
                      exact retI C hw rfl (Option.some.inj h) d_M_shift_178
                    · replace h := ifn b16 h
                      refine lv_bipush (v := (-13)) hx hb d_M_shift_98 (by decide) ?_
                      exact retI C hw rfl (Option.some.inj h) d_M_shift_100
          · replace h := ifn b9 h
            refine lv_bipush (v := (-12)) hx hb d_M_shift_54 (by decide) ?_
            exact retI C hw rfl (Option.some.inj h) d_M_shift_56
        · replace h := ifn b6 h
          refine lv_bipush (v := (-11)) hx hb d_M_shift_36 (by decide) ?_
          exact retI C hw rfl (Option.some.inj h) d_M_shift_38
    · replace h := ifp b2 h
      refine lv_iconst (v := (-1)) hx hb d_M_shift_16 (by decide) ?_
      exact retI C hw rfl (Option.some.inj h) d_M_shift_17
