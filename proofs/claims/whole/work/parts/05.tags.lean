/-! ===== cells beside cells ===== -/
def tgb (B : WT) (c t : Nat) : Bool := decide (c < B.2.1) && decide (B.1 c = t)
theorem tgb_t {B : WT} {c t : Nat} (h : tgb B c t = true) : tg B c t := by simpa [tgb, tg] using h
theorem tgb_of {B : WT} {c t : Nat} (h : tg B c t) : tgb B c t = true := by simpa [tgb, tg] using h
/-- an int as a place -/
abbrev nx (i : Int32) : Nat := i.toNatClampNeg
/-- a number that is a boolean -/
def bz (v : Int32) : Bool := decide (v = 0) || decide (v = 1)
theorem bz_e {v : Int32} (h : bz v = true) : v = b2i (decide (v = 1)) := by
  simp only [bz, Bool.or_eq_true, decide_eq_true_eq] at h
  rcases h with rfl | rfl <;> rfl
/-- a number that is a char -/
def nrC (v : Int32) : Bool := decide ((v.toUInt32 % 65536).toInt32 = v)
theorem nrC_e {v : Int32} (h : nrC v = true) : narrow .char (.int v) = .int v := by
  have h2 : (v.toUInt32 % 65536).toInt32 = v := of_decide_eq_true h
  have h3 := pk_nc v
  rw [h2] at h3
  exact h3
def slen (i : Nat) : Nat := lenS.getD i 0
def sbyt (i j : Nat) : Int32 := (bytS.getD i []).getD j 0
theorem wj_9 : Cond.fieldLink R_jS 9 "java/lang/String" "value" "[B" ∈ lwG := inG 1317 (by decide +kernel) (by decide +kernel)
theorem wj_15 : Cond.fieldLink R_jS 15 "java/lang/String" "coder" "B" ∈ lwG := inG 1318 (by decide +kernel) (by decide +kernel)
theorem wj_38 : Cond.fieldLink R_jS 38 "java/lang/String" "COMPACT_STRINGS" "Z" ∈ lwG := inG 77 (by decide +kernel) (by decide +kernel)
theorem wj_1053 : Cond.fieldLink R_jS 1053 "jdk/internal/util/Preconditions" "SIOOBE_FORMATTER" "Ljava/util/function/BiFunction;" ∈ lwG := inG 377 (by decide +kernel) (by decide +kernel)
theorem wj_k268 : Cond.fieldLink R_X 268 "LittleLeft" "KIND_ABOVE" "[I" ∈ lwG := inG 714 (by decide +kernel) (by decide +kernel)
theorem rf_0 {g : GX} {A : Nat → Prop} {U : State} {H : Heap} (h : E0 g A U H) : vk_R R_K 48 "pkvgdf" (g.2.1 (1000 + 0)) U := h.2.1 ("LittleLeft$Kitchen", 48, "pkvgdf", 0) (List.mem_of_getElem? (i := 0) rfl)
theorem rf_1 {g : GX} {A : Nat → Prop} {U : State} {H : Heap} (h : E0 g A U H) : vk_R R_E 97 "pkvgdf" (g.2.1 (1000 + 0)) U := h.2.1 ("LittleLeft$Reader", 97, "pkvgdf", 0) (List.mem_of_getElem? (i := 1) rfl)
theorem rf_2 {g : GX} {A : Nat → Prop} {U : State} {H : Heap} (h : E0 g A U H) : vk_R R_E 44 "want " (g.2.1 (1000 + 1)) U := h.2.1 ("LittleLeft$Reader", 44, "want ", 1) (List.mem_of_getElem? (i := 2) rfl)
theorem rf_3 {g : GX} {A : Nat → Prop} {U : State} {H : Heap} (h : E0 g A U H) : vk_R R_E 59 "least " (g.2.1 (1000 + 2)) U := h.2.1 ("LittleLeft$Reader", 59, "least ", 2) (List.mem_of_getElem? (i := 3) rfl)
theorem rf_4 {g : GX} {A : Nat → Prop} {U : State} {H : Heap} (h : E0 g A U H) : vk_R R_E 61 "full " (g.2.1 (1000 + 3)) U := h.2.1 ("LittleLeft$Reader", 61, "full ", 3) (List.mem_of_getElem? (i := 4) rfl)
theorem rf_5 {g : GX} {A : Nat → Prop} {U : State} {H : Heap} (h : E0 g A U H) : vk_R R_E 63 "pay " (g.2.1 (1000 + 4)) U := h.2.1 ("LittleLeft$Reader", 63, "pay ", 4) (List.mem_of_getElem? (i := 5) rfl)
theorem nst_0 {g : GX} {A : Nat → Prop} {U : State} {H : Heap} (h : E0 g A U H) : va_Nw (.methodLinkNest R_X 11 y_R_init "LittleLeft") U := h.1 _ (List.mem_of_getElem? (i := 0) rfl)
theorem nst_1 {g : GX} {A : Nat → Prop} {U : State} {H : Heap} (h : E0 g A U H) : va_Nw (.methodLinkNest R_X 35 y_N_init "LittleLeft") U := h.1 _ (List.mem_of_getElem? (i := 1) rfl)
theorem nst_2 {g : GX} {A : Nat → Prop} {U : State} {H : Heap} (h : E0 g A U H) : va_Nw (.methodLinkNest R_X 49 y_E_init "LittleLeft") U := h.1 _ (List.mem_of_getElem? (i := 2) rfl)
theorem nst_3 {g : GX} {A : Nat → Prop} {U : State} {H : Heap} (h : E0 g A U H) : va_Nw (.methodLinkNest R_E 24 y_R_init "LittleLeft") U := h.1 _ (List.mem_of_getElem? (i := 3) rfl)
theorem nst_4 {g : GX} {A : Nat → Prop} {U : State} {H : Heap} (h : E0 g A U H) : va_Nw (.methodLinkNest R_X 71 y_A_init "LittleLeft") U := h.1 _ (List.mem_of_getElem? (i := 4) rfl)
theorem nst_5 {g : GX} {A : Nat → Prop} {U : State} {H : Heap} (h : E0 g A U H) : va_Nw (.methodLinkNest R_X 82 y_T_init "LittleLeft") U := h.1 _ (List.mem_of_getElem? (i := 5) rfl)
theorem nst_6 {g : GX} {A : Nat → Prop} {U : State} {H : Heap} (h : E0 g A U H) : va_Nw (.methodLinkNest R_K 115 y_X_sum "LittleLeft") U := h.1 _ (List.mem_of_getElem? (i := 6) rfl)
theorem tA_1 {c : Nat} (h : tg BX c 13) : tg BX (c + 1) 120 := by
  have h0 : ∀ c, c < 104 → tagsX.getD c 50 = 13 → c + 1 < 104 ∧ tagsX.getD (c + 1) 50 = 120 := by decide +kernel
  exact h0 c h.1 h.2
theorem tK_1 {c : Nat} (h : tg BX c 4) : tg BX (c + 1) 106 := by
  have h0 : ∀ c, c < 104 → tagsX.getD c 50 = 4 → c + 1 < 104 ∧ tagsX.getD (c + 1) 50 = 106 := by decide +kernel
  exact h0 c h.1 h.2
theorem tK_2 {c : Nat} (h : tg BX c 4) : tg BX (c + 2) 106 := by
  have h0 : ∀ c, c < 104 → tagsX.getD c 50 = 4 → c + 2 < 104 ∧ tagsX.getD (c + 2) 50 = 106 := by decide +kernel
  exact h0 c h.1 h.2
theorem tK_3 {c : Nat} (h : tg BX c 4) : tg BX (c + 3) 106 := by
  have h0 : ∀ c, c < 104 → tagsX.getD c 50 = 4 → c + 3 < 104 ∧ tagsX.getD (c + 3) 50 = 106 := by decide +kernel
  exact h0 c h.1 h.2
theorem tK_4 {c : Nat} (h : tg BX c 4) : tg BX (c + 4) 106 := by
  have h0 : ∀ c, c < 104 → tagsX.getD c 50 = 4 → c + 4 < 104 ∧ tagsX.getD (c + 4) 50 = 106 := by decide +kernel
  exact h0 c h.1 h.2
theorem tK_5 {c : Nat} (h : tg BX c 4) : tg BX (c + 5) 106 := by
  have h0 : ∀ c, c < 104 → tagsX.getD c 50 = 4 → c + 5 < 104 ∧ tagsX.getD (c + 5) 50 = 106 := by decide +kernel
  exact h0 c h.1 h.2
theorem tK_6 {c : Nat} (h : tg BX c 4) : tg BX (c + 6) 106 := by
  have h0 : ∀ c, c < 104 → tagsX.getD c 50 = 4 → c + 6 < 104 ∧ tagsX.getD (c + 6) 50 = 106 := by decide +kernel
  exact h0 c h.1 h.2
theorem tK_7 {c : Nat} (h : tg BX c 4) : tg BX (c + 7) 124 := by
  have h0 : ∀ c, c < 104 → tagsX.getD c 50 = 4 → c + 7 < 104 ∧ tagsX.getD (c + 7) 50 = 124 := by decide +kernel
  exact h0 c h.1 h.2
theorem tK_8 {c : Nat} (h : tg BX c 4) : tg BX (c + 8) 106 := by
  have h0 : ∀ c, c < 104 → tagsX.getD c 50 = 4 → c + 8 < 104 ∧ tagsX.getD (c + 8) 50 = 106 := by decide +kernel
  exact h0 c h.1 h.2
theorem tN_1 {c : Nat} (h : tg BX c 7) : tg BX (c + 1) 106 := by
  have h0 : ∀ c, c < 104 → tagsX.getD c 50 = 7 → c + 1 < 104 ∧ tagsX.getD (c + 1) 50 = 106 := by decide +kernel
  exact h0 c h.1 h.2
theorem tN_2 {c : Nat} (h : tg BX c 7) : tg BX (c + 2) 106 := by
  have h0 : ∀ c, c < 104 → tagsX.getD c 50 = 7 → c + 2 < 104 ∧ tagsX.getD (c + 2) 50 = 106 := by decide +kernel
  exact h0 c h.1 h.2
theorem tN_3 {c : Nat} (h : tg BX c 7) : tg BX (c + 3) 112 := by
  have h0 : ∀ c, c < 104 → tagsX.getD c 50 = 7 → c + 3 < 104 ∧ tagsX.getD (c + 3) 50 = 112 := by decide +kernel
  exact h0 c h.1 h.2
theorem tE_1 {c : Nat} (h : tg BX c 9) : tg BX (c + 1) 1100 := by
  have h0 : ∀ c, c < 104 → tagsX.getD c 50 = 9 → c + 1 < 104 ∧ tagsX.getD (c + 1) 50 = 1100 := by decide +kernel
  exact h0 c h.1 h.2
theorem tR_1 {c : Nat} (h : tg BX c 1) : tg BX (c + 1) 110 := by
  have h0 : ∀ c, c < 104 → tagsX.getD c 50 = 1 → c + 1 < 104 ∧ tagsX.getD (c + 1) 50 = 110 := by decide +kernel
  exact h0 c h.1 h.2
theorem tR_2 {c : Nat} (h : tg BX c 1) : tg BX (c + 2) 110 := by
  have h0 : ∀ c, c < 104 → tagsX.getD c 50 = 1 → c + 2 < 104 ∧ tagsX.getD (c + 2) 50 = 110 := by decide +kernel
  exact h0 c h.1 h.2
theorem tR_3 {c : Nat} (h : tg BX c 1) : tg BX (c + 3) 110 := by
  have h0 : ∀ c, c < 104 → tagsX.getD c 50 = 1 → c + 3 < 104 ∧ tagsX.getD (c + 3) 50 = 110 := by decide +kernel
  exact h0 c h.1 h.2
theorem tR_4 {c : Nat} (h : tg BX c 1) : tg BX (c + 4) 110 := by
  have h0 : ∀ c, c < 104 → tagsX.getD c 50 = 1 → c + 4 < 104 ∧ tagsX.getD (c + 4) 50 = 110 := by decide +kernel
  exact h0 c h.1 h.2
theorem tR_5 {c : Nat} (h : tg BX c 1) : tg BX (c + 5) 200 := by
  have h0 : ∀ c, c < 104 → tagsX.getD c 50 = 1 → c + 5 < 104 ∧ tagsX.getD (c + 5) 50 = 200 := by decide +kernel
  exact h0 c h.1 h.2
theorem tT_1 {c : Nat} (h : tg BX c 16) : tg BX (c + 1) 2060 := by
  have h0 : ∀ c, c < 104 → tagsX.getD c 50 = 16 → c + 1 < 104 ∧ tagsX.getD (c + 1) 50 = 2060 := by decide +kernel
  exact h0 c h.1 h.2
theorem tX_0 : tg BX 0 0 := ⟨by decide, rfl⟩
theorem tX_1 : tg BX 1 1 := ⟨by decide, rfl⟩
theorem tX_2 : tg BX 2 110 := ⟨by decide, rfl⟩
theorem tX_3 : tg BX 3 110 := ⟨by decide, rfl⟩
theorem tX_4 : tg BX 4 110 := ⟨by decide, rfl⟩
theorem tX_5 : tg BX 5 110 := ⟨by decide, rfl⟩
theorem tX_6 : tg BX 6 200 := ⟨by decide, rfl⟩
theorem tX_7 : tg BX 7 1 := ⟨by decide, rfl⟩
theorem tX_8 : tg BX 8 110 := ⟨by decide, rfl⟩
theorem tX_9 : tg BX 9 110 := ⟨by decide, rfl⟩
theorem tX_10 : tg BX 10 110 := ⟨by decide, rfl⟩
theorem tX_11 : tg BX 11 110 := ⟨by decide, rfl⟩
theorem tX_12 : tg BX 12 200 := ⟨by decide, rfl⟩
theorem tX_13 : tg BX 13 1 := ⟨by decide, rfl⟩
theorem tX_14 : tg BX 14 110 := ⟨by decide, rfl⟩
theorem tX_15 : tg BX 15 110 := ⟨by decide, rfl⟩
theorem tX_16 : tg BX 16 110 := ⟨by decide, rfl⟩
theorem tX_17 : tg BX 17 110 := ⟨by decide, rfl⟩
theorem tX_18 : tg BX 18 200 := ⟨by decide, rfl⟩
theorem tX_19 : tg BX 19 1 := ⟨by decide, rfl⟩
theorem tX_20 : tg BX 20 110 := ⟨by decide, rfl⟩
theorem tX_21 : tg BX 21 110 := ⟨by decide, rfl⟩
theorem tX_22 : tg BX 22 110 := ⟨by decide, rfl⟩
theorem tX_23 : tg BX 23 110 := ⟨by decide, rfl⟩
theorem tX_24 : tg BX 24 200 := ⟨by decide, rfl⟩
theorem tX_25 : tg BX 25 1 := ⟨by decide, rfl⟩
theorem tX_26 : tg BX 26 110 := ⟨by decide, rfl⟩
theorem tX_27 : tg BX 27 110 := ⟨by decide, rfl⟩
theorem tX_28 : tg BX 28 110 := ⟨by decide, rfl⟩
theorem tX_29 : tg BX 29 110 := ⟨by decide, rfl⟩
theorem tX_30 : tg BX 30 200 := ⟨by decide, rfl⟩
theorem tX_31 : tg BX 31 1 := ⟨by decide, rfl⟩
theorem tX_32 : tg BX 32 110 := ⟨by decide, rfl⟩
theorem tX_33 : tg BX 33 110 := ⟨by decide, rfl⟩
theorem tX_34 : tg BX 34 110 := ⟨by decide, rfl⟩
theorem tX_35 : tg BX 35 110 := ⟨by decide, rfl⟩
theorem tX_36 : tg BX 36 200 := ⟨by decide, rfl⟩
theorem tX_37 : tg BX 37 1 := ⟨by decide, rfl⟩
theorem tX_38 : tg BX 38 110 := ⟨by decide, rfl⟩
theorem tX_39 : tg BX 39 110 := ⟨by decide, rfl⟩
theorem tX_40 : tg BX 40 110 := ⟨by decide, rfl⟩
theorem tX_41 : tg BX 41 110 := ⟨by decide, rfl⟩
theorem tX_42 : tg BX 42 200 := ⟨by decide, rfl⟩
theorem tX_43 : tg BX 43 1 := ⟨by decide, rfl⟩
theorem tX_44 : tg BX 44 110 := ⟨by decide, rfl⟩
theorem tX_45 : tg BX 45 110 := ⟨by decide, rfl⟩
theorem tX_46 : tg BX 46 110 := ⟨by decide, rfl⟩
theorem tX_47 : tg BX 47 110 := ⟨by decide, rfl⟩
theorem tX_48 : tg BX 48 200 := ⟨by decide, rfl⟩
theorem tX_49 : tg BX 49 4 := ⟨by decide, rfl⟩
theorem tX_50 : tg BX 50 106 := ⟨by decide, rfl⟩
theorem tX_51 : tg BX 51 106 := ⟨by decide, rfl⟩
theorem tX_52 : tg BX 52 106 := ⟨by decide, rfl⟩
theorem tX_53 : tg BX 53 106 := ⟨by decide, rfl⟩
theorem tX_54 : tg BX 54 106 := ⟨by decide, rfl⟩
theorem tX_55 : tg BX 55 106 := ⟨by decide, rfl⟩
theorem tX_56 : tg BX 56 124 := ⟨by decide, rfl⟩
theorem tX_57 : tg BX 57 106 := ⟨by decide, rfl⟩
theorem tX_58 : tg BX 58 4 := ⟨by decide, rfl⟩
theorem tX_59 : tg BX 59 106 := ⟨by decide, rfl⟩
theorem tX_60 : tg BX 60 106 := ⟨by decide, rfl⟩
theorem tX_61 : tg BX 61 106 := ⟨by decide, rfl⟩
theorem tX_62 : tg BX 62 106 := ⟨by decide, rfl⟩
theorem tX_63 : tg BX 63 106 := ⟨by decide, rfl⟩
theorem tX_64 : tg BX 64 106 := ⟨by decide, rfl⟩
theorem tX_65 : tg BX 65 124 := ⟨by decide, rfl⟩
theorem tX_66 : tg BX 66 106 := ⟨by decide, rfl⟩
theorem tX_67 : tg BX 67 4 := ⟨by decide, rfl⟩
theorem tX_68 : tg BX 68 106 := ⟨by decide, rfl⟩
theorem tX_69 : tg BX 69 106 := ⟨by decide, rfl⟩
theorem tX_70 : tg BX 70 106 := ⟨by decide, rfl⟩
theorem tX_71 : tg BX 71 106 := ⟨by decide, rfl⟩
theorem tX_72 : tg BX 72 106 := ⟨by decide, rfl⟩
theorem tX_73 : tg BX 73 106 := ⟨by decide, rfl⟩
theorem tX_74 : tg BX 74 124 := ⟨by decide, rfl⟩
theorem tX_75 : tg BX 75 106 := ⟨by decide, rfl⟩
theorem tX_76 : tg BX 76 7 := ⟨by decide, rfl⟩
theorem tX_77 : tg BX 77 106 := ⟨by decide, rfl⟩
theorem tX_78 : tg BX 78 106 := ⟨by decide, rfl⟩
theorem tX_79 : tg BX 79 112 := ⟨by decide, rfl⟩
theorem tX_80 : tg BX 80 7 := ⟨by decide, rfl⟩
theorem tX_81 : tg BX 81 106 := ⟨by decide, rfl⟩
theorem tX_82 : tg BX 82 106 := ⟨by decide, rfl⟩
theorem tX_83 : tg BX 83 112 := ⟨by decide, rfl⟩
theorem tX_84 : tg BX 84 9 := ⟨by decide, rfl⟩
theorem tX_85 : tg BX 85 1100 := ⟨by decide, rfl⟩
theorem tX_86 : tg BX 86 4000 := ⟨by decide, rfl⟩
theorem tX_87 : tg BX 87 105 := ⟨by decide, rfl⟩
theorem tX_88 : tg BX 88 105 := ⟨by decide, rfl⟩
theorem tX_89 : tg BX 89 13 := ⟨by decide, rfl⟩
theorem tX_90 : tg BX 90 120 := ⟨by decide, rfl⟩
theorem tX_91 : tg BX 91 4001 := ⟨by decide, rfl⟩
theorem tX_92 : tg BX 92 16 := ⟨by decide, rfl⟩
theorem tX_93 : tg BX 93 2060 := ⟨by decide, rfl⟩
theorem tX_94 : tg BX 94 16 := ⟨by decide, rfl⟩
theorem tX_95 : tg BX 95 2060 := ⟨by decide, rfl⟩
theorem tX_96 : tg BX 96 16 := ⟨by decide, rfl⟩
theorem tX_97 : tg BX 97 2060 := ⟨by decide, rfl⟩
theorem tX_98 : tg BX 98 16 := ⟨by decide, rfl⟩
theorem tX_99 : tg BX 99 2060 := ⟨by decide, rfl⟩
theorem tX_100 : tg BX 100 16 := ⟨by decide, rfl⟩
theorem tX_101 : tg BX 101 2060 := ⟨by decide, rfl⟩
theorem tX_102 : tg BX 102 16 := ⟨by decide, rfl⟩
theorem tX_103 : tg BX 103 2060 := ⟨by decide, rfl⟩
theorem tM_0 : tg BM 0 20 := ⟨by decide, rfl⟩
theorem tM_1 : tg BM 1 106 := ⟨by decide, rfl⟩
theorem tM_2 : tg BM 2 106 := ⟨by decide, rfl⟩
theorem tM_3 : tg BM 3 106 := ⟨by decide, rfl⟩
theorem tM_4 : tg BM 4 106 := ⟨by decide, rfl⟩
theorem tM_5 : tg BM 5 106 := ⟨by decide, rfl⟩
theorem tM_6 : tg BM 6 106 := ⟨by decide, rfl⟩
theorem tM_7 : tg BM 7 124 := ⟨by decide, rfl⟩
theorem tM_8 : tg BM 8 200 := ⟨by decide, rfl⟩
theorem tM_9 : tg BM 9 106 := ⟨by decide, rfl⟩
theorem tM_10 : tg BM 10 160 := ⟨by decide, rfl⟩
theorem tM_11 : tg BM 11 160 := ⟨by decide, rfl⟩
theorem tM_12 : tg BM 12 160 := ⟨by decide, rfl⟩
theorem tM_13 : tg BM 13 160 := ⟨by decide, rfl⟩
theorem tM_14 : tg BM 14 700 := ⟨by decide, rfl⟩
theorem tM_15 : tg BM 15 201 := ⟨by decide, rfl⟩
theorem tM_16 : tg BM 16 116 := ⟨by decide, rfl⟩
theorem tM_17 : tg BM 17 3100 := ⟨by decide, rfl⟩
theorem tM_18 : tg BM 18 106 := ⟨by decide, rfl⟩
theorem tM_19 : tg BM 19 106 := ⟨by decide, rfl⟩
theorem tM_20 : tg BM 20 106 := ⟨by decide, rfl⟩
theorem tM_21 : tg BM 21 105 := ⟨by decide, rfl⟩
theorem tM_22 : tg BM 22 105 := ⟨by decide, rfl⟩
theorem tM_23 : tg BM 23 106 := ⟨by decide, rfl⟩
theorem tM_24 : tg BM 24 106 := ⟨by decide, rfl⟩
theorem tM_25 : tg BM 25 112 := ⟨by decide, rfl⟩
theorem tM_26 : tg BM 26 106 := ⟨by decide, rfl⟩
theorem tM_27 : tg BM 27 106 := ⟨by decide, rfl⟩
theorem tM_28 : tg BM 28 106 := ⟨by decide, rfl⟩
theorem tM_29 : tg BM 29 106 := ⟨by decide, rfl⟩
theorem tM_30 : tg BM 30 106 := ⟨by decide, rfl⟩
theorem tM_31 : tg BM 31 106 := ⟨by decide, rfl⟩
theorem tM_32 : tg BM 32 124 := ⟨by decide, rfl⟩
theorem tM_33 : tg BM 33 106 := ⟨by decide, rfl⟩
theorem tM_34 : tg BM 34 106 := ⟨by decide, rfl⟩
theorem tM_35 : tg BM 35 112 := ⟨by decide, rfl⟩
theorem tM_36 : tg BM 36 120 := ⟨by decide, rfl⟩
theorem tM_37 : tg BM 37 106 := ⟨by decide, rfl⟩
theorem tM_38 : tg BM 38 106 := ⟨by decide, rfl⟩
theorem tM_39 : tg BM 39 2360 := ⟨by decide, rfl⟩
theorem tM_40 : tg BM 40 2060 := ⟨by decide, rfl⟩
theorem ok_nat {i : Int32} {n : Nat} (h : ok i n = true) : nx i < n := by
  obtain ⟨h1, h2⟩ := ok_iff.mp h
  show i.toInt.toNat < n
  omega
theorem tRi {i : Int32} (h : ok i 6 = true) : tg BX (7 + 6 * nx i) 1 := by
  have h0 : ∀ k, k < 6 → 7 + 6 * k < 104 ∧ tagsX.getD (7 + 6 * k) 50 = 1 := by decide
  exact h0 _ (ok_nat h)
theorem tTi {i : Int32} (h : ok i 6 = true) : tg BX (92 + 2 * nx i) 16 := by
  have h0 : ∀ k, k < 6 → 92 + 2 * k < 104 ∧ tagsX.getD (92 + 2 * k) 50 = 16 := by decide
  exact h0 _ (ok_nat h)
section CL0
variable {B : WT} {g : GX} {A : Nat → Prop} {own : String} {cc : ByteArray} {ret : Option FieldType} {nL : Nat} {p : Program} {l : Launch} {e : Env} {R : Room} {s : State} {m : MethodId} {args : Array Value} {below : List Frame} {meth : Method} {c : Code} {H : Heap} {locs : List Loc} {cells slots : Nat} {Q : State → Prop} {pc : Nat} {ls : Array Slot} {rest : List Value} {σ : St}
theorem clI0 {v : Int32} {st0 : List Value} {a : Array Value} (C : CX B g A own cc ret nL p s m args meth c) (hw : HW B g A s σ H locs) (hr : va_Run p l e R s m args below meth c H locs cells slots 0 0 (F0 m pc ls st0) rest (QI B g (v, σ) (va_A (wW B g σ) H.size) a) (va_A (wW B g σ) H.size))
    (kk : ∀ (H1 : Heap) (locs1 : List Loc), HW B g A s σ H1 locs1 → W p l e R s m args below meth c H1 locs1 cells slots Q (F0 m (pc + 3) ls (.int v :: rest))) : W p l e R s m args below meth c H locs cells slots Q (F0 m pc ls st0) := clI C hw hr kk
theorem clZ0 {v : Bool} {st0 : List Value} {a : Array Value} (C : CX B g A own cc ret nL p s m args meth c) (hw : HW B g A s σ H locs) (hr : va_Run p l e R s m args below meth c H locs cells slots 0 0 (F0 m pc ls st0) rest (QZ B g (v, σ) (va_A (wW B g σ) H.size) a) (va_A (wW B g σ) H.size))
    (kk : ∀ (H1 : Heap) (locs1 : List Loc), HW B g A s σ H1 locs1 → W p l e R s m args below meth c H1 locs1 cells slots Q (F0 m (pc + 3) ls (.int (b2i v) :: rest))) : W p l e R s m args below meth c H locs cells slots Q (F0 m pc ls st0) := clZ C hw hr kk
theorem clL0 {v : Int64} {st0 : List Value} {a : Array Value} (C : CX B g A own cc ret nL p s m args meth c) (hw : HW B g A s σ H locs) (hr : va_Run p l e R s m args below meth c H locs cells slots 0 0 (F0 m pc ls st0) rest (QL B g (v, σ) (va_A (wW B g σ) H.size) a) (va_A (wW B g σ) H.size))
    (kk : ∀ (H1 : Heap) (locs1 : List Loc), HW B g A s σ H1 locs1 → W p l e R s m args below meth c H1 locs1 cells slots Q (F0 m (pc + 3) ls (.long v :: rest))) : W p l e R s m args below meth c H locs cells slots Q (F0 m pc ls st0) := clL C hw hr kk
theorem clV0 {st0 : List Value} {a : Array Value} (C : CX B g A own cc ret nL p s m args meth c) (hw : HW B g A s σ H locs) (hr : va_Run p l e R s m args below meth c H locs cells slots 0 0 (F0 m pc ls st0) rest (QV B g σ (va_A (wW B g σ) H.size) a) (va_A (wW B g σ) H.size))
    (kk : ∀ (H1 : Heap) (locs1 : List Loc), HW B g A s σ H1 locs1 → W p l e R s m args below meth c H1 locs1 cells slots Q (F0 m (pc + 3) ls rest)) : W p l e R s m args below meth c H locs cells slots Q (F0 m pc ls st0) := clV C hw hr kk
theorem retN {v : Int32} {ty : FieldType} {q : Int32 × St} (C : CX B g A own cc ret nL p s m args meth c) (hw : HW B g A s σ H locs) (hr : ret = some ty) (hn : narrow ty (.int v) = .int v) (hq : (v, σ) = q) (hdg : decode cc pc = .ok (.ireturn, 1)) : W p l e R s m args below meth c H locs 0 0 (MQ below (QI B g q A) args s 0 0 A) (F0 m pc ls [.int v]) := by
  obtain ⟨hx, hb, hrt, -, -, -, hK, -, -, hlk⟩ := C
  obtain ⟨hP, hD, hS⟩ := hw
  subst hq
  exact W.zret hx hb (by rw [hrt, hr]) hn (fun t ht hW => ⟨⟨v, σ, rfl, ⟨rfl, rfl⟩, by rw [ht]; exact hP, va_K.moved hW.alike hK, hD⟩, hS.F ht⟩) hS.2.2 hdg hlk
end CL0
