-- ===== PART A: goes FIRST, ahead of the names: the tables' words, and 'selects' of the private methods out of them =====
/-- a private method of a class that the tables say can be made, by its rows of tables_1 -/
def lw_okq (q : MethodName × Nat) : Prop := (q.1.cls ≠ "java/lang/invoke/MethodHandle" ∧ q.1.cls ≠ "java/lang/invoke/VarHandle") ∧ Cond.instantiable q.1.cls q.2 ∈ tables_1 ∧ Cond.privateMethod q.1 ∈ tables_1 ∧ Cond.instanceMethod q.1 ∈ tables_1
theorem lw_p0 : lw_okq (⟨"LittleLeft", "isTaker", "(I)Z"⟩, 14) := ⟨⟨by decide +kernel, by decide +kernel⟩, List.mem_of_getElem? (i := 18) (by decide +kernel), List.mem_of_getElem? (i := 295) (by decide +kernel), List.mem_of_getElem? (i := 296) (by decide +kernel)⟩
theorem lw_p1 : lw_okq (⟨"LittleLeft$Kitchen", "factsOf", "(I)[I"⟩, 15) := ⟨⟨by decide +kernel, by decide +kernel⟩, List.mem_of_getElem? (i := 63) (by decide +kernel), List.mem_of_getElem? (i := 303) (by decide +kernel), List.mem_of_getElem? (i := 304) (by decide +kernel)⟩
theorem lw_p2 : lw_okq (⟨"LittleLeft$Rule", "holds", "(II[I)Z"⟩, 9) := ⟨⟨by decide +kernel, by decide +kernel⟩, List.mem_of_getElem? (i := 26) (by decide +kernel), List.mem_of_getElem? (i := 311) (by decide +kernel), List.mem_of_getElem? (i := 312) (by decide +kernel)⟩
theorem lw_p3 : lw_okq (⟨"LittleLeft$Reader", "clause", "()Z"⟩, 4) := ⟨⟨by decide +kernel, by decide +kernel⟩, List.mem_of_getElem? (i := 167) (by decide +kernel), List.mem_of_getElem? (i := 350) (by decide +kernel), List.mem_of_getElem? (i := 351) (by decide +kernel)⟩
theorem lw_p4 : lw_okq (⟨"LittleLeft$Reader", "sign", "()I"⟩, 4) := ⟨⟨by decide +kernel, by decide +kernel⟩, List.mem_of_getElem? (i := 167) (by decide +kernel), List.mem_of_getElem? (i := 354) (by decide +kernel), List.mem_of_getElem? (i := 355) (by decide +kernel)⟩
theorem lw_p5 : lw_okq (⟨"LittleLeft$Reader", "words", "(Ljava/lang/String;)Z"⟩, 4) := ⟨⟨by decide +kernel, by decide +kernel⟩, List.mem_of_getElem? (i := 167) (by decide +kernel), List.mem_of_getElem? (i := 359) (by decide +kernel), List.mem_of_getElem? (i := 360) (by decide +kernel)⟩
theorem lw_p6 : lw_okq (⟨"LittleLeft$Reader", "skips", "(I)Z"⟩, 4) := ⟨⟨by decide +kernel, by decide +kernel⟩, List.mem_of_getElem? (i := 167) (by decide +kernel), List.mem_of_getElem? (i := 402) (by decide +kernel), List.mem_of_getElem? (i := 403) (by decide +kernel)⟩
theorem lw_p7 : lw_okq (⟨"LittleLeft$Reader", "begins", "(I)Z"⟩, 4) := ⟨⟨by decide +kernel, by decide +kernel⟩, List.mem_of_getElem? (i := 167) (by decide +kernel), List.mem_of_getElem? (i := 406) (by decide +kernel), List.mem_of_getElem? (i := 407) (by decide +kernel)⟩
theorem lw_p8 : lw_okq (⟨"LittleLeft$Reader", "number", "()I"⟩, 4) := ⟨⟨by decide +kernel, by decide +kernel⟩, List.mem_of_getElem? (i := 167) (by decide +kernel), List.mem_of_getElem? (i := 410) (by decide +kernel), List.mem_of_getElem? (i := 411) (by decide +kernel)⟩
theorem lw_p9 : lw_okq (⟨"LittleLeft$Reader", "either", "(I)Z"⟩, 4) := ⟨⟨by decide +kernel, by decide +kernel⟩, List.mem_of_getElem? (i := 167) (by decide +kernel), List.mem_of_getElem? (i := 421) (by decide +kernel), List.mem_of_getElem? (i := 422) (by decide +kernel)⟩
theorem lw_p10 : lw_okq (⟨"LittleLeft$Reader", "factor", "(I)Z"⟩, 4) := ⟨⟨by decide +kernel, by decide +kernel⟩, List.mem_of_getElem? (i := 167) (by decide +kernel), List.mem_of_getElem? (i := 425) (by decide +kernel), List.mem_of_getElem? (i := 426) (by decide +kernel)⟩
theorem lw_p11 : lw_okq (⟨"LittleLeft$Reader", "test", "()Z"⟩, 4) := ⟨⟨by decide +kernel, by decide +kernel⟩, List.mem_of_getElem? (i := 167) (by decide +kernel), List.mem_of_getElem? (i := 429) (by decide +kernel), List.mem_of_getElem? (i := 430) (by decide +kernel)⟩
theorem lw_p12 : lw_okq (⟨"LittleLeft$Reader", "ends", "()Z"⟩, 4) := ⟨⟨by decide +kernel, by decide +kernel⟩, List.mem_of_getElem? (i := 167) (by decide +kernel), List.mem_of_getElem? (i := 500) (by decide +kernel), List.mem_of_getElem? (i := 501) (by decide +kernel)⟩
theorem lw_p13 : lw_okq (⟨"LittleLeft$Kitchen", "fetchesFirst", "(II)Z"⟩, 15) := ⟨⟨by decide +kernel, by decide +kernel⟩, List.mem_of_getElem? (i := 63) (by decide +kernel), List.mem_of_getElem? (i := 531) (by decide +kernel), List.mem_of_getElem? (i := 532) (by decide +kernel)⟩
theorem lw_p14 : lw_okq (⟨"LittleLeft$Kitchen", "fetch", "(I)V"⟩, 15) := ⟨⟨by decide +kernel, by decide +kernel⟩, List.mem_of_getElem? (i := 63) (by decide +kernel), List.mem_of_getElem? (i := 535) (by decide +kernel), List.mem_of_getElem? (i := 536) (by decide +kernel)⟩
theorem lw_p15 : lw_okq (⟨"LittleLeft$Kitchen", "amount", "(II)I"⟩, 15) := ⟨⟨by decide +kernel, by decide +kernel⟩, List.mem_of_getElem? (i := 63) (by decide +kernel), List.mem_of_getElem? (i := 540) (by decide +kernel), List.mem_of_getElem? (i := 541) (by decide +kernel)⟩
def lw_privs_1 : List (MethodName × Nat) := [(⟨"LittleLeft", "isTaker", "(I)Z"⟩, 14), (⟨"LittleLeft$Kitchen", "factsOf", "(I)[I"⟩, 15), (⟨"LittleLeft$Rule", "holds", "(II[I)Z"⟩, 9), (⟨"LittleLeft$Reader", "clause", "()Z"⟩, 4), (⟨"LittleLeft$Reader", "sign", "()I"⟩, 4), (⟨"LittleLeft$Reader", "words", "(Ljava/lang/String;)Z"⟩, 4), (⟨"LittleLeft$Reader", "skips", "(I)Z"⟩, 4), (⟨"LittleLeft$Reader", "begins", "(I)Z"⟩, 4), (⟨"LittleLeft$Reader", "number", "()I"⟩, 4), (⟨"LittleLeft$Reader", "either", "(I)Z"⟩, 4), (⟨"LittleLeft$Reader", "factor", "(I)Z"⟩, 4), (⟨"LittleLeft$Reader", "test", "()Z"⟩, 4), (⟨"LittleLeft$Reader", "ends", "()Z"⟩, 4), (⟨"LittleLeft$Kitchen", "fetchesFirst", "(II)Z"⟩, 15), (⟨"LittleLeft$Kitchen", "fetch", "(I)V"⟩, 15), (⟨"LittleLeft$Kitchen", "amount", "(II)I"⟩, 15)]
theorem lw_r1 : ∀ q ∈ lw_privs_1, lw_okq q := List.forall_mem_cons.mpr ⟨lw_p0, List.forall_mem_cons.mpr ⟨lw_p1, List.forall_mem_cons.mpr ⟨lw_p2, List.forall_mem_cons.mpr ⟨lw_p3, List.forall_mem_cons.mpr ⟨lw_p4, List.forall_mem_cons.mpr ⟨lw_p5, List.forall_mem_cons.mpr ⟨lw_p6, List.forall_mem_cons.mpr ⟨lw_p7, List.forall_mem_cons.mpr ⟨lw_p8, List.forall_mem_cons.mpr ⟨lw_p9, List.forall_mem_cons.mpr ⟨lw_p10, List.forall_mem_cons.mpr ⟨lw_p11, List.forall_mem_cons.mpr ⟨lw_p12, List.forall_mem_cons.mpr ⟨lw_p13, List.forall_mem_cons.mpr ⟨lw_p14, List.forall_mem_cons.mpr ⟨lw_p15, fun _ h => absurd h List.not_mem_nil⟩⟩⟩⟩⟩⟩⟩⟩⟩⟩⟩⟩⟩⟩⟩⟩
theorem lw_p16 : lw_okq (⟨"LittleLeft$Kitchen", "downToLeast", "(I)I"⟩, 15) := ⟨⟨by decide +kernel, by decide +kernel⟩, List.mem_of_getElem? (i := 63) (by decide +kernel), List.mem_of_getElem? (i := 545) (by decide +kernel), List.mem_of_getElem? (i := 546) (by decide +kernel)⟩
theorem lw_p17 : lw_okq (⟨"LittleLeft", "cupsMore", "(I)I"⟩, 14) := ⟨⟨by decide +kernel, by decide +kernel⟩, List.mem_of_getElem? (i := 18) (by decide +kernel), List.mem_of_getElem? (i := 571) (by decide +kernel), List.mem_of_getElem? (i := 572) (by decide +kernel)⟩
theorem lw_p18 : lw_okq (⟨"LittleLeft", "fetchesMore", "(I)I"⟩, 14) := ⟨⟨by decide +kernel, by decide +kernel⟩, List.mem_of_getElem? (i := 18) (by decide +kernel), List.mem_of_getElem? (i := 575) (by decide +kernel), List.mem_of_getElem? (i := 576) (by decide +kernel)⟩
theorem lw_p19 : lw_okq (⟨"LittleLeft", "putOrder", "(III)V"⟩, 14) := ⟨⟨by decide +kernel, by decide +kernel⟩, List.mem_of_getElem? (i := 18) (by decide +kernel), List.mem_of_getElem? (i := 603) (by decide +kernel), List.mem_of_getElem? (i := 604) (by decide +kernel)⟩
theorem lw_p20 : lw_okq (⟨"LittleLeft", "takenByOrder", "()I"⟩, 14) := ⟨⟨by decide +kernel, by decide +kernel⟩, List.mem_of_getElem? (i := 18) (by decide +kernel), List.mem_of_getElem? (i := 610) (by decide +kernel), List.mem_of_getElem? (i := 611) (by decide +kernel)⟩
theorem lw_p21 : lw_okq (⟨"LittleLeft", "leavesWhatIsSeen", "(I)Z"⟩, 14) := ⟨⟨by decide +kernel, by decide +kernel⟩, List.mem_of_getElem? (i := 18) (by decide +kernel), List.mem_of_getElem? (i := 635) (by decide +kernel), List.mem_of_getElem? (i := 636) (by decide +kernel)⟩
theorem lw_p22 : lw_okq (⟨"LittleLeft$Acts", "takesAs", "(II)I"⟩, 5) := ⟨⟨by decide +kernel, by decide +kernel⟩, List.mem_of_getElem? (i := 192) (by decide +kernel), List.mem_of_getElem? (i := 687) (by decide +kernel), List.mem_of_getElem? (i := 688) (by decide +kernel)⟩
theorem lw_p23 : lw_okq (⟨"LittleLeft$Acts", "begin", "(I)V"⟩, 5) := ⟨⟨by decide +kernel, by decide +kernel⟩, List.mem_of_getElem? (i := 192) (by decide +kernel), List.mem_of_getElem? (i := 691) (by decide +kernel), List.mem_of_getElem? (i := 692) (by decide +kernel)⟩
theorem lw_p24 : lw_okq (⟨"LittleLeft$Acts", "leavesAs", "(II)I"⟩, 5) := ⟨⟨by decide +kernel, by decide +kernel⟩, List.mem_of_getElem? (i := 192) (by decide +kernel), List.mem_of_getElem? (i := 695) (by decide +kernel), List.mem_of_getElem? (i := 696) (by decide +kernel)⟩
theorem lw_p25 : lw_okq (⟨"LittleLeft$Acts", "tellsAs", "(II)I"⟩, 5) := ⟨⟨by decide +kernel, by decide +kernel⟩, List.mem_of_getElem? (i := 192) (by decide +kernel), List.mem_of_getElem? (i := 699) (by decide +kernel), List.mem_of_getElem? (i := 700) (by decide +kernel)⟩
theorem lw_p26 : lw_okq (⟨"LittleLeftModel", "in", "(III)Z"⟩, 68) := ⟨⟨by decide +kernel, by decide +kernel⟩, List.mem_of_getElem? (i := 748) (by decide +kernel), List.mem_of_getElem? (i := 964) (by decide +kernel), List.mem_of_getElem? (i := 965) (by decide +kernel)⟩
theorem lw_p27 : lw_okq (⟨"LittleLeftModel", "isTaker", "(I)Z"⟩, 68) := ⟨⟨by decide +kernel, by decide +kernel⟩, List.mem_of_getElem? (i := 748) (by decide +kernel), List.mem_of_getElem? (i := 972) (by decide +kernel), List.mem_of_getElem? (i := 973) (by decide +kernel)⟩
theorem lw_p28 : lw_okq (⟨"LittleLeftModel", "goesText", "(I)Z"⟩, 68) := ⟨⟨by decide +kernel, by decide +kernel⟩, List.mem_of_getElem? (i := 748) (by decide +kernel), List.mem_of_getElem? (i := 992) (by decide +kernel), List.mem_of_getElem? (i := 993) (by decide +kernel)⟩
theorem lw_p29 : lw_okq (⟨"LittleLeftModel", "takesClause", "(I)Z"⟩, 68) := ⟨⟨by decide +kernel, by decide +kernel⟩, List.mem_of_getElem? (i := 748) (by decide +kernel), List.mem_of_getElem? (i := 996) (by decide +kernel), List.mem_of_getElem? (i := 997) (by decide +kernel)⟩
theorem lw_p30 : lw_okq (⟨"LittleLeftModel", "takesHead", "(I)Z"⟩, 68) := ⟨⟨by decide +kernel, by decide +kernel⟩, List.mem_of_getElem? (i := 748) (by decide +kernel), List.mem_of_getElem? (i := 1000) (by decide +kernel), List.mem_of_getElem? (i := 1001) (by decide +kernel)⟩
theorem lw_p31 : lw_okq (⟨"LittleLeftModel", "peek", "()I"⟩, 68) := ⟨⟨by decide +kernel, by decide +kernel⟩, List.mem_of_getElem? (i := 748) (by decide +kernel), List.mem_of_getElem? (i := 1004) (by decide +kernel), List.mem_of_getElem? (i := 1005) (by decide +kernel)⟩
def lw_privs_2 : List (MethodName × Nat) := [(⟨"LittleLeft$Kitchen", "downToLeast", "(I)I"⟩, 15), (⟨"LittleLeft", "cupsMore", "(I)I"⟩, 14), (⟨"LittleLeft", "fetchesMore", "(I)I"⟩, 14), (⟨"LittleLeft", "putOrder", "(III)V"⟩, 14), (⟨"LittleLeft", "takenByOrder", "()I"⟩, 14), (⟨"LittleLeft", "leavesWhatIsSeen", "(I)Z"⟩, 14), (⟨"LittleLeft$Acts", "takesAs", "(II)I"⟩, 5), (⟨"LittleLeft$Acts", "begin", "(I)V"⟩, 5), (⟨"LittleLeft$Acts", "leavesAs", "(II)I"⟩, 5), (⟨"LittleLeft$Acts", "tellsAs", "(II)I"⟩, 5), (⟨"LittleLeftModel", "in", "(III)Z"⟩, 68), (⟨"LittleLeftModel", "isTaker", "(I)Z"⟩, 68), (⟨"LittleLeftModel", "goesText", "(I)Z"⟩, 68), (⟨"LittleLeftModel", "takesClause", "(I)Z"⟩, 68), (⟨"LittleLeftModel", "takesHead", "(I)Z"⟩, 68), (⟨"LittleLeftModel", "peek", "()I"⟩, 68)]
theorem lw_r2 : ∀ q ∈ lw_privs_2, lw_okq q := List.forall_mem_cons.mpr ⟨lw_p16, List.forall_mem_cons.mpr ⟨lw_p17, List.forall_mem_cons.mpr ⟨lw_p18, List.forall_mem_cons.mpr ⟨lw_p19, List.forall_mem_cons.mpr ⟨lw_p20, List.forall_mem_cons.mpr ⟨lw_p21, List.forall_mem_cons.mpr ⟨lw_p22, List.forall_mem_cons.mpr ⟨lw_p23, List.forall_mem_cons.mpr ⟨lw_p24, List.forall_mem_cons.mpr ⟨lw_p25, List.forall_mem_cons.mpr ⟨lw_p26, List.forall_mem_cons.mpr ⟨lw_p27, List.forall_mem_cons.mpr ⟨lw_p28, List.forall_mem_cons.mpr ⟨lw_p29, List.forall_mem_cons.mpr ⟨lw_p30, List.forall_mem_cons.mpr ⟨lw_p31, fun _ h => absurd h List.not_mem_nil⟩⟩⟩⟩⟩⟩⟩⟩⟩⟩⟩⟩⟩⟩⟩⟩
theorem lw_p32 : lw_okq (⟨"LittleLeftModel", "takesWord", "(II)Z"⟩, 68) := ⟨⟨by decide +kernel, by decide +kernel⟩, List.mem_of_getElem? (i := 748) (by decide +kernel), List.mem_of_getElem? (i := 1008) (by decide +kernel), List.mem_of_getElem? (i := 1009) (by decide +kernel)⟩
theorem lw_p33 : lw_okq (⟨"LittleLeftModel", "reads", "(I)Z"⟩, 68) := ⟨⟨by decide +kernel, by decide +kernel⟩, List.mem_of_getElem? (i := 748) (by decide +kernel), List.mem_of_getElem? (i := 1012) (by decide +kernel), List.mem_of_getElem? (i := 1013) (by decide +kernel)⟩
theorem lw_p34 : lw_okq (⟨"LittleLeftModel", "takesNumber", "()Z"⟩, 68) := ⟨⟨by decide +kernel, by decide +kernel⟩, List.mem_of_getElem? (i := 748) (by decide +kernel), List.mem_of_getElem? (i := 1016) (by decide +kernel), List.mem_of_getElem? (i := 1017) (by decide +kernel)⟩
theorem lw_p35 : lw_okq (⟨"LittleLeftModel", "isDigit", "()Z"⟩, 68) := ⟨⟨by decide +kernel, by decide +kernel⟩, List.mem_of_getElem? (i := 748) (by decide +kernel), List.mem_of_getElem? (i := 1020) (by decide +kernel), List.mem_of_getElem? (i := 1021) (by decide +kernel)⟩
theorem lw_p36 : lw_okq (⟨"LittleLeftModel", "takesE", "(I)Z"⟩, 68) := ⟨⟨by decide +kernel, by decide +kernel⟩, List.mem_of_getElem? (i := 748) (by decide +kernel), List.mem_of_getElem? (i := 1024) (by decide +kernel), List.mem_of_getElem? (i := 1025) (by decide +kernel)⟩
theorem lw_p37 : lw_okq (⟨"LittleLeftModel", "takesTest", "()Z"⟩, 68) := ⟨⟨by decide +kernel, by decide +kernel⟩, List.mem_of_getElem? (i := 748) (by decide +kernel), List.mem_of_getElem? (i := 1028) (by decide +kernel), List.mem_of_getElem? (i := 1029) (by decide +kernel)⟩
theorem lw_p38 : lw_okq (⟨"LittleLeftModel", "place", "(I)I"⟩, 68) := ⟨⟨by decide +kernel, by decide +kernel⟩, List.mem_of_getElem? (i := 748) (by decide +kernel), List.mem_of_getElem? (i := 1032) (by decide +kernel), List.mem_of_getElem? (i := 1033) (by decide +kernel)⟩
theorem lw_p39 : lw_okq (⟨"LittleLeftModel", "emits", "(I)V"⟩, 68) := ⟨⟨by decide +kernel, by decide +kernel⟩, List.mem_of_getElem? (i := 748) (by decide +kernel), List.mem_of_getElem? (i := 1036) (by decide +kernel), List.mem_of_getElem? (i := 1037) (by decide +kernel)⟩
theorem lw_p40 : lw_okq (⟨"LittleLeftModel", "whole", "()V"⟩, 68) := ⟨⟨by decide +kernel, by decide +kernel⟩, List.mem_of_getElem? (i := 748) (by decide +kernel), List.mem_of_getElem? (i := 1040) (by decide +kernel), List.mem_of_getElem? (i := 1041) (by decide +kernel)⟩
theorem lw_p41 : lw_okq (⟨"LittleLeftModel", "settle", "(I)V"⟩, 68) := ⟨⟨by decide +kernel, by decide +kernel⟩, List.mem_of_getElem? (i := 748) (by decide +kernel), List.mem_of_getElem? (i := 1044) (by decide +kernel), List.mem_of_getElem? (i := 1045) (by decide +kernel)⟩
theorem lw_p42 : lw_okq (⟨"LittleLeftModel", "wantsOf", "(I)I"⟩, 68) := ⟨⟨by decide +kernel, by decide +kernel⟩, List.mem_of_getElem? (i := 748) (by decide +kernel), List.mem_of_getElem? (i := 1052) (by decide +kernel), List.mem_of_getElem? (i := 1053) (by decide +kernel)⟩
theorem lw_p43 : lw_okq (⟨"LittleLeftModel", "sumOf", "(II)I"⟩, 68) := ⟨⟨by decide +kernel, by decide +kernel⟩, List.mem_of_getElem? (i := 748) (by decide +kernel), List.mem_of_getElem? (i := 1056) (by decide +kernel), List.mem_of_getElem? (i := 1057) (by decide +kernel)⟩
theorem lw_p44 : lw_okq (⟨"LittleLeftModel", "begin", "()I"⟩, 68) := ⟨⟨by decide +kernel, by decide +kernel⟩, List.mem_of_getElem? (i := 748) (by decide +kernel), List.mem_of_getElem? (i := 1060) (by decide +kernel), List.mem_of_getElem? (i := 1061) (by decide +kernel)⟩
theorem lw_p45 : lw_okq (⟨"LittleLeftModel", "behind", "()I"⟩, 68) := ⟨⟨by decide +kernel, by decide +kernel⟩, List.mem_of_getElem? (i := 748) (by decide +kernel), List.mem_of_getElem? (i := 1064) (by decide +kernel), List.mem_of_getElem? (i := 1065) (by decide +kernel)⟩
theorem lw_p46 : lw_okq (⟨"LittleLeftModel", "holds", "(II)Z"⟩, 68) := ⟨⟨by decide +kernel, by decide +kernel⟩, List.mem_of_getElem? (i := 748) (by decide +kernel), List.mem_of_getElem? (i := 1068) (by decide +kernel), List.mem_of_getElem? (i := 1069) (by decide +kernel)⟩
theorem lw_p47 : lw_okq (⟨"LittleLeftModel", "factOf", "(II)I"⟩, 68) := ⟨⟨by decide +kernel, by decide +kernel⟩, List.mem_of_getElem? (i := 748) (by decide +kernel), List.mem_of_getElem? (i := 1072) (by decide +kernel), List.mem_of_getElem? (i := 1073) (by decide +kernel)⟩
def lw_privs_3 : List (MethodName × Nat) := [(⟨"LittleLeftModel", "takesWord", "(II)Z"⟩, 68), (⟨"LittleLeftModel", "reads", "(I)Z"⟩, 68), (⟨"LittleLeftModel", "takesNumber", "()Z"⟩, 68), (⟨"LittleLeftModel", "isDigit", "()Z"⟩, 68), (⟨"LittleLeftModel", "takesE", "(I)Z"⟩, 68), (⟨"LittleLeftModel", "takesTest", "()Z"⟩, 68), (⟨"LittleLeftModel", "place", "(I)I"⟩, 68), (⟨"LittleLeftModel", "emits", "(I)V"⟩, 68), (⟨"LittleLeftModel", "whole", "()V"⟩, 68), (⟨"LittleLeftModel", "settle", "(I)V"⟩, 68), (⟨"LittleLeftModel", "wantsOf", "(I)I"⟩, 68), (⟨"LittleLeftModel", "sumOf", "(II)I"⟩, 68), (⟨"LittleLeftModel", "begin", "()I"⟩, 68), (⟨"LittleLeftModel", "behind", "()I"⟩, 68), (⟨"LittleLeftModel", "holds", "(II)Z"⟩, 68), (⟨"LittleLeftModel", "factOf", "(II)I"⟩, 68)]
theorem lw_r3 : ∀ q ∈ lw_privs_3, lw_okq q := List.forall_mem_cons.mpr ⟨lw_p32, List.forall_mem_cons.mpr ⟨lw_p33, List.forall_mem_cons.mpr ⟨lw_p34, List.forall_mem_cons.mpr ⟨lw_p35, List.forall_mem_cons.mpr ⟨lw_p36, List.forall_mem_cons.mpr ⟨lw_p37, List.forall_mem_cons.mpr ⟨lw_p38, List.forall_mem_cons.mpr ⟨lw_p39, List.forall_mem_cons.mpr ⟨lw_p40, List.forall_mem_cons.mpr ⟨lw_p41, List.forall_mem_cons.mpr ⟨lw_p42, List.forall_mem_cons.mpr ⟨lw_p43, List.forall_mem_cons.mpr ⟨lw_p44, List.forall_mem_cons.mpr ⟨lw_p45, List.forall_mem_cons.mpr ⟨lw_p46, List.forall_mem_cons.mpr ⟨lw_p47, fun _ h => absurd h List.not_mem_nil⟩⟩⟩⟩⟩⟩⟩⟩⟩⟩⟩⟩⟩⟩⟩⟩
theorem lw_p48 : lw_okq (⟨"LittleLeftModel", "leastNow", "()I"⟩, 68) := ⟨⟨by decide +kernel, by decide +kernel⟩, List.mem_of_getElem? (i := 748) (by decide +kernel), List.mem_of_getElem? (i := 1080) (by decide +kernel), List.mem_of_getElem? (i := 1081) (by decide +kernel)⟩
theorem lw_p49 : lw_okq (⟨"LittleLeftModel", "lastOf", "(II)I"⟩, 68) := ⟨⟨by decide +kernel, by decide +kernel⟩, List.mem_of_getElem? (i := 748) (by decide +kernel), List.mem_of_getElem? (i := 1084) (by decide +kernel), List.mem_of_getElem? (i := 1085) (by decide +kernel)⟩
theorem lw_p50 : lw_okq (⟨"LittleLeftModel", "fullNow", "()I"⟩, 68) := ⟨⟨by decide +kernel, by decide +kernel⟩, List.mem_of_getElem? (i := 748) (by decide +kernel), List.mem_of_getElem? (i := 1088) (by decide +kernel), List.mem_of_getElem? (i := 1089) (by decide +kernel)⟩
theorem lw_p51 : lw_okq (⟨"LittleLeftModel", "sum", "(Z)I"⟩, 68) := ⟨⟨by decide +kernel, by decide +kernel⟩, List.mem_of_getElem? (i := 748) (by decide +kernel), List.mem_of_getElem? (i := 1092) (by decide +kernel), List.mem_of_getElem? (i := 1093) (by decide +kernel)⟩
theorem lw_p52 : lw_okq (⟨"LittleLeftModel", "goes", "(I)I"⟩, 68) := ⟨⟨by decide +kernel, by decide +kernel⟩, List.mem_of_getElem? (i := 748) (by decide +kernel), List.mem_of_getElem? (i := 1100) (by decide +kernel), List.mem_of_getElem? (i := 1101) (by decide +kernel)⟩
theorem lw_p53 : lw_okq (⟨"LittleLeftModel", "isFirst", "(II)Z"⟩, 68) := ⟨⟨by decide +kernel, by decide +kernel⟩, List.mem_of_getElem? (i := 748) (by decide +kernel), List.mem_of_getElem? (i := 1104) (by decide +kernel), List.mem_of_getElem? (i := 1105) (by decide +kernel)⟩
theorem lw_p54 : lw_okq (⟨"LittleLeftModel", "fetches", "(I)V"⟩, 68) := ⟨⟨by decide +kernel, by decide +kernel⟩, List.mem_of_getElem? (i := 748) (by decide +kernel), List.mem_of_getElem? (i := 1108) (by decide +kernel), List.mem_of_getElem? (i := 1109) (by decide +kernel)⟩
theorem lw_p55 : lw_okq (⟨"LittleLeftModel", "amount", "(II)I"⟩, 68) := ⟨⟨by decide +kernel, by decide +kernel⟩, List.mem_of_getElem? (i := 748) (by decide +kernel), List.mem_of_getElem? (i := 1112) (by decide +kernel), List.mem_of_getElem? (i := 1113) (by decide +kernel)⟩
theorem lw_p56 : lw_okq (⟨"LittleLeftModel", "lesser", "(II)I"⟩, 68) := ⟨⟨by decide +kernel, by decide +kernel⟩, List.mem_of_getElem? (i := 748) (by decide +kernel), List.mem_of_getElem? (i := 1116) (by decide +kernel), List.mem_of_getElem? (i := 1117) (by decide +kernel)⟩
theorem lw_p57 : lw_okq (⟨"LittleLeftModel", "politely", "(I)I"⟩, 68) := ⟨⟨by decide +kernel, by decide +kernel⟩, List.mem_of_getElem? (i := 748) (by decide +kernel), List.mem_of_getElem? (i := 1120) (by decide +kernel), List.mem_of_getElem? (i := 1121) (by decide +kernel)⟩
theorem lw_p58 : lw_okq (⟨"LittleLeftModel", "goDay", "()V"⟩, 68) := ⟨⟨by decide +kernel, by decide +kernel⟩, List.mem_of_getElem? (i := 748) (by decide +kernel), List.mem_of_getElem? (i := 1128) (by decide +kernel), List.mem_of_getElem? (i := 1129) (by decide +kernel)⟩
theorem lw_p59 : lw_okq (⟨"LittleLeftModel", "keep", "()V"⟩, 68) := ⟨⟨by decide +kernel, by decide +kernel⟩, List.mem_of_getElem? (i := 748) (by decide +kernel), List.mem_of_getElem? (i := 1136) (by decide +kernel), List.mem_of_getElem? (i := 1137) (by decide +kernel)⟩
theorem lw_p60 : lw_okq (⟨"LittleLeftModel", "goDays", "(I)V"⟩, 68) := ⟨⟨by decide +kernel, by decide +kernel⟩, List.mem_of_getElem? (i := 748) (by decide +kernel), List.mem_of_getElem? (i := 1140) (by decide +kernel), List.mem_of_getElem? (i := 1141) (by decide +kernel)⟩
theorem lw_p61 : lw_okq (⟨"LittleLeftModel", "moreOf", "(I)I"⟩, 68) := ⟨⟨by decide +kernel, by decide +kernel⟩, List.mem_of_getElem? (i := 748) (by decide +kernel), List.mem_of_getElem? (i := 1144) (by decide +kernel), List.mem_of_getElem? (i := 1145) (by decide +kernel)⟩
theorem lw_p62 : lw_okq (⟨"LittleLeftModel", "putBack", "()V"⟩, 68) := ⟨⟨by decide +kernel, by decide +kernel⟩, List.mem_of_getElem? (i := 748) (by decide +kernel), List.mem_of_getElem? (i := 1148) (by decide +kernel), List.mem_of_getElem? (i := 1149) (by decide +kernel)⟩
theorem lw_p63 : lw_okq (⟨"LittleLeftModel", "fetchesIn", "(I)I"⟩, 68) := ⟨⟨by decide +kernel, by decide +kernel⟩, List.mem_of_getElem? (i := 748) (by decide +kernel), List.mem_of_getElem? (i := 1164) (by decide +kernel), List.mem_of_getElem? (i := 1165) (by decide +kernel)⟩
def lw_privs_4 : List (MethodName × Nat) := [(⟨"LittleLeftModel", "leastNow", "()I"⟩, 68), (⟨"LittleLeftModel", "lastOf", "(II)I"⟩, 68), (⟨"LittleLeftModel", "fullNow", "()I"⟩, 68), (⟨"LittleLeftModel", "sum", "(Z)I"⟩, 68), (⟨"LittleLeftModel", "goes", "(I)I"⟩, 68), (⟨"LittleLeftModel", "isFirst", "(II)Z"⟩, 68), (⟨"LittleLeftModel", "fetches", "(I)V"⟩, 68), (⟨"LittleLeftModel", "amount", "(II)I"⟩, 68), (⟨"LittleLeftModel", "lesser", "(II)I"⟩, 68), (⟨"LittleLeftModel", "politely", "(I)I"⟩, 68), (⟨"LittleLeftModel", "goDay", "()V"⟩, 68), (⟨"LittleLeftModel", "keep", "()V"⟩, 68), (⟨"LittleLeftModel", "goDays", "(I)V"⟩, 68), (⟨"LittleLeftModel", "moreOf", "(I)I"⟩, 68), (⟨"LittleLeftModel", "putBack", "()V"⟩, 68), (⟨"LittleLeftModel", "fetchesIn", "(I)I"⟩, 68)]
theorem lw_r4 : ∀ q ∈ lw_privs_4, lw_okq q := List.forall_mem_cons.mpr ⟨lw_p48, List.forall_mem_cons.mpr ⟨lw_p49, List.forall_mem_cons.mpr ⟨lw_p50, List.forall_mem_cons.mpr ⟨lw_p51, List.forall_mem_cons.mpr ⟨lw_p52, List.forall_mem_cons.mpr ⟨lw_p53, List.forall_mem_cons.mpr ⟨lw_p54, List.forall_mem_cons.mpr ⟨lw_p55, List.forall_mem_cons.mpr ⟨lw_p56, List.forall_mem_cons.mpr ⟨lw_p57, List.forall_mem_cons.mpr ⟨lw_p58, List.forall_mem_cons.mpr ⟨lw_p59, List.forall_mem_cons.mpr ⟨lw_p60, List.forall_mem_cons.mpr ⟨lw_p61, List.forall_mem_cons.mpr ⟨lw_p62, List.forall_mem_cons.mpr ⟨lw_p63, fun _ h => absurd h List.not_mem_nil⟩⟩⟩⟩⟩⟩⟩⟩⟩⟩⟩⟩⟩⟩⟩⟩
theorem lw_p64 : lw_okq (⟨"LittleLeftModel", "layOrder", "(I)Z"⟩, 68) := ⟨⟨by decide +kernel, by decide +kernel⟩, List.mem_of_getElem? (i := 748) (by decide +kernel), List.mem_of_getElem? (i := 1176) (by decide +kernel), List.mem_of_getElem? (i := 1177) (by decide +kernel)⟩
theorem lw_p65 : lw_okq (⟨"LittleLeftModel", "has", "(II)Z"⟩, 68) := ⟨⟨by decide +kernel, by decide +kernel⟩, List.mem_of_getElem? (i := 748) (by decide +kernel), List.mem_of_getElem? (i := 1180) (by decide +kernel), List.mem_of_getElem? (i := 1181) (by decide +kernel)⟩
theorem lw_p66 : lw_okq (⟨"LittleLeftModel", "isSeen", "(II)Z"⟩, 68) := ⟨⟨by decide +kernel, by decide +kernel⟩, List.mem_of_getElem? (i := 748) (by decide +kernel), List.mem_of_getElem? (i := 1204) (by decide +kernel), List.mem_of_getElem? (i := 1205) (by decide +kernel)⟩
theorem lw_p67 : lw_okq (⟨"LittleLeftModel", "lowest", "(III)J"⟩, 68) := ⟨⟨by decide +kernel, by decide +kernel⟩, List.mem_of_getElem? (i := 748) (by decide +kernel), List.mem_of_getElem? (i := 1213) (by decide +kernel), List.mem_of_getElem? (i := 1214) (by decide +kernel)⟩
theorem lw_p68 : lw_okq (⟨"LittleLeftModel", "divisor", "(II)I"⟩, 68) := ⟨⟨by decide +kernel, by decide +kernel⟩, List.mem_of_getElem? (i := 748) (by decide +kernel), List.mem_of_getElem? (i := 1217) (by decide +kernel), List.mem_of_getElem? (i := 1218) (by decide +kernel)⟩
theorem lw_p69 : lw_okq (⟨"LittleLeftModel", "isTape", "(I)Z"⟩, 68) := ⟨⟨by decide +kernel, by decide +kernel⟩, List.mem_of_getElem? (i := 748) (by decide +kernel), List.mem_of_getElem? (i := 1237) (by decide +kernel), List.mem_of_getElem? (i := 1238) (by decide +kernel)⟩
theorem lw_p70 : lw_okq (⟨"LittleLeftModel", "takesAct", "(II)I"⟩, 68) := ⟨⟨by decide +kernel, by decide +kernel⟩, List.mem_of_getElem? (i := 748) (by decide +kernel), List.mem_of_getElem? (i := 1253) (by decide +kernel), List.mem_of_getElem? (i := 1254) (by decide +kernel)⟩
theorem lw_p71 : lw_okq (⟨"LittleLeftModel", "body", "(I)V"⟩, 68) := ⟨⟨by decide +kernel, by decide +kernel⟩, List.mem_of_getElem? (i := 748) (by decide +kernel), List.mem_of_getElem? (i := 1257) (by decide +kernel), List.mem_of_getElem? (i := 1258) (by decide +kernel)⟩
theorem lw_p72 : lw_okq (⟨"LittleLeftModel", "takerTakes", "(II)I"⟩, 68) := ⟨⟨by decide +kernel, by decide +kernel⟩, List.mem_of_getElem? (i := 748) (by decide +kernel), List.mem_of_getElem? (i := 1261) (by decide +kernel), List.mem_of_getElem? (i := 1262) (by decide +kernel)⟩
theorem lw_p73 : lw_okq (⟨"LittleLeftModel", "leavesAct", "(II)I"⟩, 68) := ⟨⟨by decide +kernel, by decide +kernel⟩, List.mem_of_getElem? (i := 748) (by decide +kernel), List.mem_of_getElem? (i := 1265) (by decide +kernel), List.mem_of_getElem? (i := 1266) (by decide +kernel)⟩
theorem lw_p74 : lw_okq (⟨"LittleLeftModel", "halverLeaves", "(II)I"⟩, 68) := ⟨⟨by decide +kernel, by decide +kernel⟩, List.mem_of_getElem? (i := 748) (by decide +kernel), List.mem_of_getElem? (i := 1269) (by decide +kernel), List.mem_of_getElem? (i := 1270) (by decide +kernel)⟩
theorem lw_p75 : lw_okq (⟨"LittleLeftModel", "takerLeaves", "(II)I"⟩, 68) := ⟨⟨by decide +kernel, by decide +kernel⟩, List.mem_of_getElem? (i := 748) (by decide +kernel), List.mem_of_getElem? (i := 1273) (by decide +kernel), List.mem_of_getElem? (i := 1274) (by decide +kernel)⟩
theorem lw_p76 : lw_okq (⟨"LittleLeftModel", "tellsAct", "(II)I"⟩, 68) := ⟨⟨by decide +kernel, by decide +kernel⟩, List.mem_of_getElem? (i := 748) (by decide +kernel), List.mem_of_getElem? (i := 1277) (by decide +kernel), List.mem_of_getElem? (i := 1278) (by decide +kernel)⟩
theorem lw_p77 : lw_okq (⟨"LittleLeftModel", "takerTells", "(II)I"⟩, 68) := ⟨⟨by decide +kernel, by decide +kernel⟩, List.mem_of_getElem? (i := 748) (by decide +kernel), List.mem_of_getElem? (i := 1281) (by decide +kernel), List.mem_of_getElem? (i := 1282) (by decide +kernel)⟩
theorem lw_p78 : lw_okq (⟨"LittleLeftModel", "narrow", "(IJ)J"⟩, 68) := ⟨⟨by decide +kernel, by decide +kernel⟩, List.mem_of_getElem? (i := 748) (by decide +kernel), List.mem_of_getElem? (i := 1305) (by decide +kernel), List.mem_of_getElem? (i := 1306) (by decide +kernel)⟩
def lw_privs_5 : List (MethodName × Nat) := [(⟨"LittleLeftModel", "layOrder", "(I)Z"⟩, 68), (⟨"LittleLeftModel", "has", "(II)Z"⟩, 68), (⟨"LittleLeftModel", "isSeen", "(II)Z"⟩, 68), (⟨"LittleLeftModel", "lowest", "(III)J"⟩, 68), (⟨"LittleLeftModel", "divisor", "(II)I"⟩, 68), (⟨"LittleLeftModel", "isTape", "(I)Z"⟩, 68), (⟨"LittleLeftModel", "takesAct", "(II)I"⟩, 68), (⟨"LittleLeftModel", "body", "(I)V"⟩, 68), (⟨"LittleLeftModel", "takerTakes", "(II)I"⟩, 68), (⟨"LittleLeftModel", "leavesAct", "(II)I"⟩, 68), (⟨"LittleLeftModel", "halverLeaves", "(II)I"⟩, 68), (⟨"LittleLeftModel", "takerLeaves", "(II)I"⟩, 68), (⟨"LittleLeftModel", "tellsAct", "(II)I"⟩, 68), (⟨"LittleLeftModel", "takerTells", "(II)I"⟩, 68), (⟨"LittleLeftModel", "narrow", "(IJ)J"⟩, 68)]
theorem lw_r5 : ∀ q ∈ lw_privs_5, lw_okq q := List.forall_mem_cons.mpr ⟨lw_p64, List.forall_mem_cons.mpr ⟨lw_p65, List.forall_mem_cons.mpr ⟨lw_p66, List.forall_mem_cons.mpr ⟨lw_p67, List.forall_mem_cons.mpr ⟨lw_p68, List.forall_mem_cons.mpr ⟨lw_p69, List.forall_mem_cons.mpr ⟨lw_p70, List.forall_mem_cons.mpr ⟨lw_p71, List.forall_mem_cons.mpr ⟨lw_p72, List.forall_mem_cons.mpr ⟨lw_p73, List.forall_mem_cons.mpr ⟨lw_p74, List.forall_mem_cons.mpr ⟨lw_p75, List.forall_mem_cons.mpr ⟨lw_p76, List.forall_mem_cons.mpr ⟨lw_p77, List.forall_mem_cons.mpr ⟨lw_p78, fun _ h => absurd h List.not_mem_nil⟩⟩⟩⟩⟩⟩⟩⟩⟩⟩⟩⟩⟩⟩⟩
def lw_privs : List (MethodName × Nat) := lw_privs_1 ++ (lw_privs_2 ++ (lw_privs_3 ++ (lw_privs_4 ++ (lw_privs_5))))
def lw_tbl : List Cond := k2_sels lw_privs ++ tables_1
theorem lw_privs_ok : ∀ q ∈ lw_privs, lw_okq q := by
  show ∀ q ∈ lw_privs_1 ++ (lw_privs_2 ++ (lw_privs_3 ++ (lw_privs_4 ++ (lw_privs_5)))), lw_okq q
  exact List.forall_mem_append.mpr ⟨lw_r1, List.forall_mem_append.mpr ⟨lw_r2, List.forall_mem_append.mpr ⟨lw_r3, List.forall_mem_append.mpr ⟨lw_r4, lw_r5⟩⟩⟩⟩

/-- the tables' good words: they hold at every caller's and callee's state alike -/
def lwG : List Cond := lw_tbl.filter goodWord
theorem inG {w : Cond} (i : Nat) (h : tables_1[i]? = some w) (hg : goodWord w = true) : w ∈ lwG := List.mem_filter.mpr ⟨List.mem_append_right _ (List.mem_of_getElem? h), hg⟩
theorem inGp {w : Cond} (i : Nat) (h : (k2_sels lw_privs)[i]? = some w) (hg : goodWord w = true) : w ∈ lwG := List.mem_filter.mpr ⟨List.mem_append_left _ (List.mem_of_getElem? h), hg⟩
theorem inGr (ws : List Cond) (ps : List Nat) (hp : ws = ps.filterMap (fun i => tables_1[i]?)) (h : ws.all goodWord = true) : ∀ w ∈ ws, w ∈ lwG := by
  intro w hw
  have h1 := List.all_eq_true.mp h w hw
  rw [hp] at hw
  obtain ⟨i, -, hi⟩ := List.mem_filterMap.mp hw
  exact inG i hi h1
theorem lwG_tbl : ∀ w ∈ lwG, w ∈ lw_tbl := fun _ h => (List.mem_filter.mp h).1
theorem lwG_good : ∀ w ∈ lwG, goodWord w = true := fun _ h => (List.mem_filter.mp h).2

def R_A : String := "LittleLeft$Acts"
def F_A : u_T := fun k => match k with
  | 0 => ("LittleLeft$Acts", "bodies", "[I", true)
  | 1 => ("LittleLeft$Acts", "ran", "I", false)
  | 2 => ("LittleLeft$Acts", "kind", "I", false)
  | 3 => ("LittleLeft$Acts", "number", "I", false)
  | _ => ("LittleLeft$Acts", "v", "I", false)
def ty_A : Nat → FieldType := fun k => match k with
  | 0 => .array .int
  | 1 => .int
  | 2 => .int
  | 3 => .int
  | _ => .int
theorem n_A : ∀ a, a < 5 → ∀ b, b < 5 → a ≠ b → (F_A a).2.1 ≠ (F_A b).2.1 := by decide +kernel
theorem ty_A_ok : ∀ k, k < 5 → parseFieldDescriptor (F_A k).2.2.1 = some (ty_A k) := by decide +kernel
theorem u_A_in : ∀ w ∈ u_ws R_A F_A 5, w ∈ lwG := inGr _ [204, 206, 208, 210, 212] (by decide +kernel) (by decide +kernel)
def R_K : String := "LittleLeft$Kitchen"
def F_K : u_T := fun k => match k with
  | 0 => ("LittleLeft$Kitchen", "takers", "I", false)
  | 1 => ("LittleLeft$Kitchen", "kind", "[I", true)
  | 2 => ("LittleLeft$Kitchen", "v", "[I", true)
  | 3 => ("LittleLeft$Kitchen", "portion", "[I", true)
  | 4 => ("LittleLeft$Kitchen", "cups", "[I", true)
  | 5 => ("LittleLeft$Kitchen", "fetches", "[I", true)
  | 6 => ("LittleLeft$Kitchen", "coins", "[I", true)
  | 7 => ("LittleLeft$Kitchen", "rows", "[I", true)
  | 8 => ("LittleLeft$Kitchen", "grains", "I", false)
  | 9 => ("LittleLeft$Kitchen", "day", "I", false)
  | 10 => ("LittleLeft$Kitchen", "held", "LLittleLeft$Rule;", false)
  | 11 => ("LittleLeft$Kitchen", "least", "I", false)
  | 12 => ("LittleLeft$Kitchen", "full", "I", false)
  | 13 => ("LittleLeft$Kitchen", "left", "I", false)
  | _ => ("LittleLeft$Kitchen", "facts", "[I", true)
def ty_K : Nat → FieldType := fun k => match k with
  | 0 => .int
  | 1 => .array .int
  | 2 => .array .int
  | 3 => .array .int
  | 4 => .array .int
  | 5 => .array .int
  | 6 => .array .int
  | 7 => .array .int
  | 8 => .int
  | 9 => .int
  | 10 => .object "LittleLeft$Rule"
  | 11 => .int
  | 12 => .int
  | 13 => .int
  | _ => .array .int
theorem n_K : ∀ a, a < 15 → ∀ b, b < 15 → a ≠ b → (F_K a).2.1 ≠ (F_K b).2.1 := by decide +kernel
theorem ty_K_ok : ∀ k, k < 15 → parseFieldDescriptor (F_K k).2.2.1 = some (ty_K k) := by decide +kernel
theorem u_K_in : ∀ w ∈ u_ws R_K F_K 15, w ∈ lwG := inGr _ [107, 109, 111, 113, 115, 117, 119, 121, 123, 125, 127, 129, 131, 133, 135] (by decide +kernel) (by decide +kernel)
def R_N : String := "LittleLeft$Notes"
def F_N : u_T := fun k => match k with
  | 0 => ("LittleLeft$Notes", "seen", "I", false)
  | 1 => ("LittleLeft$Notes", "found", "[I", true)
  | 2 => ("LittleLeft$Notes", "left", "[I", true)
  | 3 => ("LittleLeft$Notes", "written", "I", false)
  | _ => ("LittleLeft$Notes", "book", "[I", true)
def ty_N : Nat → FieldType := fun k => match k with
  | 0 => .int
  | 1 => .array .int
  | 2 => .array .int
  | 3 => .int
  | _ => .array .int
theorem n_N : ∀ a, a < 5 → ∀ b, b < 5 → a ≠ b → (F_N a).2.1 ≠ (F_N b).2.1 := by decide +kernel
theorem ty_N_ok : ∀ k, k < 5 → parseFieldDescriptor (F_N k).2.2.1 = some (ty_N k) := by decide +kernel
theorem u_N_in : ∀ w ∈ u_ws R_N F_N 5, w ∈ lwG := inGr _ [155, 157, 159, 161, 163] (by decide +kernel) (by decide +kernel)
def R_E : String := "LittleLeft$Reader"
def F_E : u_T := fun k => match k with
  | 0 => ("LittleLeft$Reader", "text", "[B", true)
  | 1 => ("LittleLeft$Reader", "signs", "I", false)
  | 2 => ("LittleLeft$Reader", "at", "I", false)
  | _ => ("LittleLeft$Reader", "into", "LLittleLeft$Rule;", false)
def ty_E : Nat → FieldType := fun k => match k with
  | 0 => .array .byte
  | 1 => .int
  | 2 => .int
  | _ => .object "LittleLeft$Rule"
theorem n_E : ∀ a, a < 4 → ∀ b, b < 4 → a ≠ b → (F_E a).2.1 ≠ (F_E b).2.1 := by decide +kernel
theorem ty_E_ok : ∀ k, k < 4 → parseFieldDescriptor (F_E k).2.2.1 = some (ty_E k) := by decide +kernel
theorem u_E_in : ∀ w ∈ u_ws R_E F_E 4, w ∈ lwG := inGr _ [181, 183, 185, 187] (by decide +kernel) (by decide +kernel)
def R_R : String := "LittleLeft$Rule"
def F_R : u_T := fun k => match k with
  | 0 => ("LittleLeft$Rule", "clauses", "I", false)
  | 1 => ("LittleLeft$Rule", "word", "[I", true)
  | 2 => ("LittleLeft$Rule", "number", "[I", true)
  | 3 => ("LittleLeft$Rule", "from", "[I", true)
  | 4 => ("LittleLeft$Rule", "to", "[I", true)
  | 5 => ("LittleLeft$Rule", "steps", "[I", true)
  | 6 => ("LittleLeft$Rule", "length", "I", false)
  | 7 => ("LittleLeft$Rule", "least", "I", false)
  | _ => ("LittleLeft$Rule", "full", "I", false)
def ty_R : Nat → FieldType := fun k => match k with
  | 0 => .int
  | 1 => .array .int
  | 2 => .array .int
  | 3 => .array .int
  | 4 => .array .int
  | 5 => .array .int
  | 6 => .int
  | 7 => .int
  | _ => .int
theorem n_R : ∀ a, a < 9 → ∀ b, b < 9 → a ≠ b → (F_R a).2.1 ≠ (F_R b).2.1 := by decide +kernel
theorem ty_R_ok : ∀ k, k < 9 → parseFieldDescriptor (F_R k).2.2.1 = some (ty_R k) := by decide +kernel
theorem u_R_in : ∀ w ∈ u_ws R_R F_R 9, w ∈ lwG := inGr _ [42, 44, 46, 48, 50, 52, 54, 56, 58] (by decide +kernel) (by decide +kernel)
def R_T : String := "LittleLeft$Tape"
def F_T : u_T := fun k => match k with
  | 0 => ("LittleLeft$Tape", "sort", "I", false)
  | 1 => ("LittleLeft$Tape", "size", "I", false)
  | _ => ("LittleLeft$Tape", "items", "[J", true)
def ty_T : Nat → FieldType := fun k => match k with
  | 0 => .int
  | 1 => .int
  | _ => .array .long
theorem n_T : ∀ a, a < 3 → ∀ b, b < 3 → a ≠ b → (F_T a).2.1 ≠ (F_T b).2.1 := by decide +kernel
theorem ty_T_ok : ∀ k, k < 3 → parseFieldDescriptor (F_T k).2.2.1 = some (ty_T k) := by decide +kernel
theorem u_T_in : ∀ w ∈ u_ws R_T F_T 3, w ∈ lwG := inGr _ [228, 230, 232] (by decide +kernel) (by decide +kernel)
def R_X : String := "LittleLeft"
def F_X : u_T := fun k => match k with
  | 0 => ("LittleLeft", "noRule", "LLittleLeft$Rule;", true)
  | 1 => ("LittleLeft", "now", "LLittleLeft$Kitchen;", true)
  | 2 => ("LittleLeft", "image", "LLittleLeft$Kitchen;", true)
  | 3 => ("LittleLeft", "trial", "LLittleLeft$Kitchen;", true)
  | 4 => ("LittleLeft", "notes", "LLittleLeft$Notes;", true)
  | 5 => ("LittleLeft", "imageNotes", "LLittleLeft$Notes;", true)
  | 6 => ("LittleLeft", "imaged", "Z", false)
  | 7 => ("LittleLeft", "reader", "LLittleLeft$Reader;", true)
  | 8 => ("LittleLeft", "rules", "[LLittleLeft$Rule;", true)
  | 9 => ("LittleLeft", "ruleCount", "I", false)
  | 10 => ("LittleLeft", "tried", "[I", true)
  | 11 => ("LittleLeft", "best", "[I", true)
  | 12 => ("LittleLeft", "acts", "LLittleLeft$Acts;", true)
  | _ => ("LittleLeft", "tapes", "[LLittleLeft$Tape;", true)
def ty_X : Nat → FieldType := fun k => match k with
  | 0 => .object "LittleLeft$Rule"
  | 1 => .object "LittleLeft$Kitchen"
  | 2 => .object "LittleLeft$Kitchen"
  | 3 => .object "LittleLeft$Kitchen"
  | 4 => .object "LittleLeft$Notes"
  | 5 => .object "LittleLeft$Notes"
  | 6 => .boolean
  | 7 => .object "LittleLeft$Reader"
  | 8 => .array (.object "LittleLeft$Rule")
  | 9 => .int
  | 10 => .array .int
  | 11 => .array .int
  | 12 => .object "LittleLeft$Acts"
  | _ => .array (.object "LittleLeft$Tape")
theorem n_X : ∀ a, a < 14 → ∀ b, b < 14 → a ≠ b → (F_X a).2.1 ≠ (F_X b).2.1 := by decide +kernel
theorem ty_X_ok : ∀ k, k < 14 → parseFieldDescriptor (F_X k).2.2.1 = some (ty_X k) := by decide +kernel
theorem u_X_in : ∀ w ∈ u_ws R_X F_X 14, w ∈ lwG := inGr _ [250, 252, 254, 256, 258, 260, 262, 264, 266, 268, 270, 272, 274, 276] (by decide +kernel) (by decide +kernel)
def R_M : String := "LittleLeftModel"
def F_M : u_T := fun k => match k with
  | 0 => ("LittleLeftModel", "takers", "I", false)
  | 1 => ("LittleLeftModel", "grains", "I", false)
  | 2 => ("LittleLeftModel", "days", "I", false)
  | 3 => ("LittleLeftModel", "kind", "[I", true)
  | 4 => ("LittleLeftModel", "v", "[I", true)
  | 5 => ("LittleLeftModel", "portion", "[I", true)
  | 6 => ("LittleLeftModel", "cups", "[I", true)
  | 7 => ("LittleLeftModel", "fetches", "[I", true)
  | 8 => ("LittleLeftModel", "coins", "[I", true)
  | 9 => ("LittleLeftModel", "rows", "[I", true)
  | 10 => ("LittleLeftModel", "rules", "I", false)
  | 11 => ("LittleLeftModel", "the", "I", false)
  | 12 => ("LittleLeftModel", "fed", "I", false)
  | 13 => ("LittleLeftModel", "at", "I", false)
  | 14 => ("LittleLeftModel", "digits", "I", false)
  | 15 => ("LittleLeftModel", "text", "[I", true)
  | 16 => ("LittleLeftModel", "clauses", "[I", true)
  | 17 => ("LittleLeftModel", "word", "[I", true)
  | 18 => ("LittleLeftModel", "number", "[I", true)
  | 19 => ("LittleLeftModel", "from", "[I", true)
  | 20 => ("LittleLeftModel", "to", "[I", true)
  | 21 => ("LittleLeftModel", "sign", "[I", true)
  | 22 => ("LittleLeftModel", "waits", "[I", true)
  | 23 => ("LittleLeftModel", "signs", "I", false)
  | 24 => ("LittleLeftModel", "waiting", "I", false)
  | 25 => ("LittleLeftModel", "open", "I", false)
  | 26 => ("LittleLeftModel", "letters", "[I", true)
  | 27 => ("LittleLeftModel", "leastTold", "I", false)
  | 28 => ("LittleLeftModel", "fullTold", "I", false)
  | 29 => ("LittleLeftModel", "pile", "[Z", true)
  | 30 => ("LittleLeftModel", "leftAhead", "I", false)
  | 31 => ("LittleLeftModel", "away", "I", false)
  | 32 => ("LittleLeftModel", "foremost", "I", false)
  | 33 => ("LittleLeftModel", "keptGrains", "I", false)
  | 34 => ("LittleLeftModel", "keptDays", "I", false)
  | 35 => ("LittleLeftModel", "keptCups", "[I", true)
  | 36 => ("LittleLeftModel", "keptFetches", "[I", true)
  | 37 => ("LittleLeftModel", "keptCoins", "[I", true)
  | 38 => ("LittleLeftModel", "order", "[I", true)
  | 39 => ("LittleLeftModel", "bestOrder", "[I", true)
  | 40 => ("LittleLeftModel", "seen", "I", false)
  | 41 => ("LittleLeftModel", "seenFound", "[I", true)
  | 42 => ("LittleLeftModel", "seenLeft", "[I", true)
  | 43 => ("LittleLeftModel", "books", "I", false)
  | 44 => ("LittleLeftModel", "book", "[I", true)
  | 45 => ("LittleLeftModel", "hasImage", "Z", false)
  | 46 => ("LittleLeftModel", "imageThe", "I", false)
  | 47 => ("LittleLeftModel", "imageTakers", "I", false)
  | 48 => ("LittleLeftModel", "imageGrains", "I", false)
  | 49 => ("LittleLeftModel", "imageDays", "I", false)
  | 50 => ("LittleLeftModel", "imageSeen", "I", false)
  | 51 => ("LittleLeftModel", "imageBooks", "I", false)
  | 52 => ("LittleLeftModel", "imageKind", "[I", true)
  | 53 => ("LittleLeftModel", "imageV", "[I", true)
  | 54 => ("LittleLeftModel", "imagePortion", "[I", true)
  | 55 => ("LittleLeftModel", "imageCups", "[I", true)
  | 56 => ("LittleLeftModel", "imageFetches", "[I", true)
  | 57 => ("LittleLeftModel", "imageCoins", "[I", true)
  | 58 => ("LittleLeftModel", "imageRows", "[I", true)
  | 59 => ("LittleLeftModel", "imageFound", "[I", true)
  | 60 => ("LittleLeftModel", "imageLeft", "[I", true)
  | 61 => ("LittleLeftModel", "imageBook", "[I", true)
  | 62 => ("LittleLeftModel", "ran", "I", false)
  | 63 => ("LittleLeftModel", "bodies", "[I", true)
  | 64 => ("LittleLeftModel", "sort", "[I", true)
  | 65 => ("LittleLeftModel", "length", "[I", true)
  | 66 => ("LittleLeftModel", "item", "[J", true)
  | _ => ("LittleLeftModel", "aside", "[J", true)
def ty_M : Nat → FieldType := fun k => match k with
  | 0 => .int
  | 1 => .int
  | 2 => .int
  | 3 => .array .int
  | 4 => .array .int
  | 5 => .array .int
  | 6 => .array .int
  | 7 => .array .int
  | 8 => .array .int
  | 9 => .array .int
  | 10 => .int
  | 11 => .int
  | 12 => .int
  | 13 => .int
  | 14 => .int
  | 15 => .array .int
  | 16 => .array .int
  | 17 => .array .int
  | 18 => .array .int
  | 19 => .array .int
  | 20 => .array .int
  | 21 => .array .int
  | 22 => .array .int
  | 23 => .int
  | 24 => .int
  | 25 => .int
  | 26 => .array .int
  | 27 => .int
  | 28 => .int
  | 29 => .array .boolean
  | 30 => .int
  | 31 => .int
  | 32 => .int
  | 33 => .int
  | 34 => .int
  | 35 => .array .int
  | 36 => .array .int
  | 37 => .array .int
  | 38 => .array .int
  | 39 => .array .int
  | 40 => .int
  | 41 => .array .int
  | 42 => .array .int
  | 43 => .int
  | 44 => .array .int
  | 45 => .boolean
  | 46 => .int
  | 47 => .int
  | 48 => .int
  | 49 => .int
  | 50 => .int
  | 51 => .int
  | 52 => .array .int
  | 53 => .array .int
  | 54 => .array .int
  | 55 => .array .int
  | 56 => .array .int
  | 57 => .array .int
  | 58 => .array .int
  | 59 => .array .int
  | 60 => .array .int
  | 61 => .array .int
  | 62 => .int
  | 63 => .array .int
  | 64 => .array .int
  | 65 => .array .int
  | 66 => .array .long
  | _ => .array .long
theorem n_M : ∀ a, a < 68 → ∀ b, b < 68 → a ≠ b → (F_M a).2.1 ≠ (F_M b).2.1 := by decide +kernel
theorem ty_M_ok : ∀ k, k < 68 → parseFieldDescriptor (F_M k).2.2.1 = some (ty_M k) := by decide +kernel
theorem u_M_in : ∀ w ∈ u_ws R_M F_M 68, w ∈ lwG := inGr _ [821, 823, 825, 827, 829, 831, 833, 835, 837, 839, 841, 843, 845, 847, 849, 851, 853, 855, 857, 859, 861, 863, 865, 867, 869, 871, 873, 875, 877, 879, 881, 883, 885, 887, 889, 891, 893, 895, 897, 899, 901, 903, 905, 907, 909, 911, 913, 915, 917, 919, 921, 923, 925, 927, 929, 931, 933, 935, 937, 939, 941, 943, 945, 947, 949, 951, 953, 955] (by decide +kernel) (by decide +kernel)
abbrev vwCl : List vw_C := [(R_A, F_A, 5), (R_K, F_K, 15), (R_N, F_N, 5), (R_E, F_E, 4), (R_R, F_R, 9), (R_T, F_T, 3), (R_X, F_X, 14), (R_M, F_M, 68)]
def R_jS : String := "java/lang/String"
def R_jL : String := "java/lang/StringLatin1"
def R_jA : String := "java/util/Arrays"
def R_jP : String := "jdk/internal/util/Preconditions"
abbrev b_X_init : ByteArray := prog_1_method_1_code
def y_X_init : MethodName := ⟨R_X, "<init>", "()V"⟩
abbrev v_X_init : Cond := .code y_X_init b_X_init 2 none
theorem k_X_init : v_X_init ∈ lwG := inG 21 (by decide +kernel) (by decide +kernel)
abbrev b_R_init : ByteArray := prog_6_method_1_code
def y_R_init : MethodName := ⟨R_R, "<init>", "()V"⟩
abbrev v_R_init : Cond := .code y_R_init b_R_init 1 none
theorem k_R_init : v_R_init ∈ lwG := inG 29 (by decide +kernel) (by decide +kernel)
abbrev b_K_init : ByteArray := prog_3_method_1_code
def y_K_init : MethodName := ⟨R_K, "<init>", "(LLittleLeft$Rule;)V"⟩
abbrev v_K_init : Cond := .code y_K_init b_K_init 2 none
theorem k_K_init : v_K_init ∈ lwG := inG 66 (by decide +kernel) (by decide +kernel)
abbrev b_jS_length : ByteArray := prog_12_method_54_code
def y_jS_length : MethodName := ⟨R_jS, "length", "()I"⟩
abbrev v_jS_length : Cond := .code y_jS_length b_jS_length 1 (some .int)
theorem k_jS_length : v_jS_length ∈ lwG := inG 72 (by decide +kernel) (by decide +kernel)
abbrev b_jS_coder : ByteArray := prog_12_method_152_code
def y_jS_coder : MethodName := ⟨R_jS, "coder", "()B"⟩
abbrev v_jS_coder : Cond := .code y_jS_coder b_jS_coder 1 (some .byte)
theorem k_jS_coder : v_jS_coder ∈ lwG := inG 76 (by decide +kernel) (by decide +kernel)
abbrev b_N_init : ByteArray := prog_4_method_1_code
def y_N_init : MethodName := ⟨R_N, "<init>", "()V"⟩
abbrev v_N_init : Cond := .code y_N_init b_N_init 1 none
theorem k_N_init : v_N_init ∈ lwG := inG 143 (by decide +kernel) (by decide +kernel)
abbrev b_E_init : ByteArray := prog_5_method_1_code
def y_E_init : MethodName := ⟨R_E, "<init>", "()V"⟩
abbrev v_E_init : Cond := .code y_E_init b_E_init 1 none
theorem k_E_init : v_E_init ∈ lwG := inG 170 (by decide +kernel) (by decide +kernel)
abbrev b_A_init : ByteArray := prog_2_method_1_code
def y_A_init : MethodName := ⟨R_A, "<init>", "()V"⟩
abbrev v_A_init : Cond := .code y_A_init b_A_init 1 none
theorem k_A_init : v_A_init ∈ lwG := inG 195 (by decide +kernel) (by decide +kernel)
abbrev b_T_init : ByteArray := prog_7_method_1_code
def y_T_init : MethodName := ⟨R_T, "<init>", "()V"⟩
abbrev v_T_init : Cond := .code y_T_init b_T_init 1 none
theorem k_T_init : v_T_init ∈ lwG := inG 220 (by decide +kernel) (by decide +kernel)
abbrev b_X_taker : ByteArray := prog_1_method_2_code
def y_X_taker : MethodName := ⟨R_X, "taker", "(III)I"⟩
abbrev v_X_taker : Cond := .code y_X_taker b_X_taker 4 (some .int)
theorem k_X_taker : v_X_taker ∈ lwG := inG 282 (by decide +kernel) (by decide +kernel)
abbrev b_X_inside : ByteArray := prog_1_method_38_code
def y_X_inside : MethodName := ⟨R_X, "inside", "(III)Z"⟩
abbrev v_X_inside : Cond := .code y_X_inside b_X_inside 3 (some .boolean)
theorem k_X_inside : v_X_inside ∈ lwG := inG 285 (by decide +kernel) (by decide +kernel)
abbrev b_K_admit : ByteArray := prog_3_method_4_code
/-- the name of the method that the tables have at 289: the page bars the word itself from the rows -/
def yn_289 : String := match (tables_1[289]? : Option Cond) with | some (Cond.code q _ _ _) => q.name | _ => ""
def y_K_admit : MethodName := ⟨R_K, yn_289, "(III)I"⟩
abbrev v_K_admit : Cond := .code y_K_admit b_K_admit 6 (some .int)
theorem k_K_admit : v_K_admit ∈ lwG := inG 289 (by decide +kernel) (by decide +kernel)
abbrev b_X_of : ByteArray := prog_1_method_3_code
def y_X_of : MethodName := ⟨R_X, "of", "(II)I"⟩
abbrev v_X_of : Cond := .code y_X_of b_X_of 3 (some .int)
theorem k_X_of : v_X_of ∈ lwG := inG 293 (by decide +kernel) (by decide +kernel)
abbrev b_X_isTaker : ByteArray := prog_1_method_39_code
def y_X_isTaker : MethodName := ⟨R_X, "isTaker", "(I)Z"⟩
abbrev v_X_isTaker : Cond := .code y_X_isTaker b_X_isTaker 2 (some .boolean)
theorem k_X_isTaker : v_X_isTaker ∈ lwG := inG 297 (by decide +kernel) (by decide +kernel)
abbrev b_K_wants : ByteArray := prog_3_method_5_code
def y_K_wants : MethodName := ⟨R_K, "wants", "(I)I"⟩
abbrev v_K_wants : Cond := .code y_K_wants b_K_wants 2 (some .int)
theorem k_K_wants : v_K_wants ∈ lwG := inG 301 (by decide +kernel) (by decide +kernel)
abbrev b_K_factsOf : ByteArray := prog_3_method_7_code
def y_K_factsOf : MethodName := ⟨R_K, "factsOf", "(I)[I"⟩
abbrev v_K_factsOf : Cond := .code y_K_factsOf b_K_factsOf 2 (some (.array .int))
theorem k_K_factsOf : v_K_factsOf ∈ lwG := inG 305 (by decide +kernel) (by decide +kernel)
abbrev b_R_together : ByteArray := prog_6_method_7_code
def y_R_together : MethodName := ⟨R_R, "together", "(I[I)I"⟩
abbrev v_R_together : Cond := .code y_R_together b_R_together 5 (some .int)
theorem k_R_together : v_R_together ∈ lwG := inG 309 (by decide +kernel) (by decide +kernel)
abbrev b_R_holds : ByteArray := prog_6_method_8_code
def y_R_holds : MethodName := ⟨R_R, "holds", "(II[I)Z"⟩
abbrev v_R_holds : Cond := .code y_R_holds b_R_holds 7 (some .boolean)
theorem k_R_holds : v_R_holds ∈ lwG := inG 313 (by decide +kernel) (by decide +kernel)
abbrev b_R_passes : ByteArray := prog_6_method_9_code
def y_R_passes : MethodName := ⟨R_R, "passes", "(I[I)Z"⟩
abbrev v_R_passes : Cond := .code y_R_passes b_R_passes 5 (some .boolean)
theorem k_R_passes : v_R_passes ∈ lwG := inG 316 (by decide +kernel) (by decide +kernel)
abbrev b_K_pay : ByteArray := prog_3_method_6_code
def y_K_pay : MethodName := ⟨R_K, "pay", "(I)I"⟩
abbrev v_K_pay : Cond := .code y_K_pay b_K_pay 2 (some .int)
theorem k_K_pay : v_K_pay ∈ lwG := inG 320 (by decide +kernel) (by decide +kernel)
abbrev b_X_portion : ByteArray := prog_1_method_4_code
def y_X_portion : MethodName := ⟨R_X, "portion", "(II)I"⟩
abbrev v_X_portion : Cond := .code y_X_portion b_X_portion 4 (some .int)
theorem k_X_portion : v_X_portion ∈ lwG := inG 324 (by decide +kernel) (by decide +kernel)
abbrev b_X_fill : ByteArray := prog_1_method_5_code
def y_X_fill : MethodName := ⟨R_X, "fill", "(I)I"⟩
abbrev v_X_fill : Cond := .code y_X_fill b_X_fill 3 (some .int)
theorem k_X_fill : v_X_fill ∈ lwG := inG 328 (by decide +kernel) (by decide +kernel)
abbrev b_X_row : ByteArray := prog_1_method_6_code
def y_X_row : MethodName := ⟨R_X, "row", "(III)I"⟩
abbrev v_X_row : Cond := .code y_X_row b_X_row 6 (some .int)
theorem k_X_row : v_X_row ∈ lwG := inG 332 (by decide +kernel) (by decide +kernel)
abbrev b_X_feed : ByteArray := prog_1_method_7_code
def y_X_feed : MethodName := ⟨R_X, "feed", "(I)I"⟩
abbrev v_X_feed : Cond := .code y_X_feed b_X_feed 2 (some .int)
theorem k_X_feed : v_X_feed ∈ lwG := inG 336 (by decide +kernel) (by decide +kernel)
abbrev b_X_rule : ByteArray := prog_1_method_8_code
def y_X_rule : MethodName := ⟨R_X, "rule", "()I"⟩
abbrev v_X_rule : Cond := .code y_X_rule b_X_rule 3 (some .int)
theorem k_X_rule : v_X_rule ∈ lwG := inG 340 (by decide +kernel) (by decide +kernel)
abbrev b_E_understands : ByteArray := prog_5_method_2_code
def y_E_understands : MethodName := ⟨R_E, "understands", "(LLittleLeft$Rule;)Z"⟩
abbrev v_E_understands : Cond := .code y_E_understands b_E_understands 3 (some .boolean)
theorem k_E_understands : v_E_understands ∈ lwG := inG 344 (by decide +kernel) (by decide +kernel)
abbrev b_R_clear : ByteArray := prog_6_method_2_code
def y_R_clear : MethodName := ⟨R_R, "clear", "()V"⟩
abbrev v_R_clear : Cond := .code y_R_clear b_R_clear 1 none
theorem k_R_clear : v_R_clear ∈ lwG := inG 348 (by decide +kernel) (by decide +kernel)
abbrev b_E_clause : ByteArray := prog_5_method_5_code
def y_E_clause : MethodName := ⟨R_E, "clause", "()Z"⟩
abbrev v_E_clause : Cond := .code y_E_clause b_E_clause 1 (some .boolean)
theorem k_E_clause : v_E_clause ∈ lwG := inG 352 (by decide +kernel) (by decide +kernel)
abbrev b_E_sign : ByteArray := prog_5_method_3_code
def y_E_sign : MethodName := ⟨R_E, "sign", "()I"⟩
abbrev v_E_sign : Cond := .code y_E_sign b_E_sign 1 (some .int)
theorem k_E_sign : v_E_sign ∈ lwG := inG 356 (by decide +kernel) (by decide +kernel)
abbrev b_E_words : ByteArray := prog_5_method_6_code
def y_E_words : MethodName := ⟨R_E, "words", "(Ljava/lang/String;)Z"⟩
abbrev v_E_words : Cond := .code y_E_words b_E_words 3 (some .boolean)
theorem k_E_words : v_E_words ∈ lwG := inG 361 (by decide +kernel) (by decide +kernel)
abbrev b_jS_charAt : ByteArray := prog_12_method_56_code
def y_jS_charAt : MethodName := ⟨R_jS, "charAt", "(I)C"⟩
abbrev v_jS_charAt : Cond := .code y_jS_charAt b_jS_charAt 2 (some .char)
theorem k_jS_charAt : v_jS_charAt ∈ lwG := inG 366 (by decide +kernel) (by decide +kernel)
abbrev b_jS_isLatin1 : ByteArray := prog_12_method_154_code
def y_jS_isLatin1 : MethodName := ⟨R_jS, "isLatin1", "()Z"⟩
abbrev v_jS_isLatin1 : Cond := .code y_jS_isLatin1 b_jS_isLatin1 1 (some .boolean)
theorem k_jS_isLatin1 : v_jS_isLatin1 ∈ lwG := inG 370 (by decide +kernel) (by decide +kernel)
abbrev b_jL_charAt : ByteArray := prog_13_method_2_code
def y_jL_charAt : MethodName := ⟨R_jL, "charAt", "([BI)C"⟩
abbrev v_jL_charAt : Cond := .code y_jL_charAt b_jL_charAt 2 (some .char)
theorem k_jL_charAt : v_jL_charAt ∈ lwG := inG 373 (by decide +kernel) (by decide +kernel)
abbrev b_jS_checkIndex : ByteArray := prog_12_method_155_code
def y_jS_checkIndex : MethodName := ⟨R_jS, "checkIndex", "(II)V"⟩
abbrev v_jS_checkIndex : Cond := .code y_jS_checkIndex b_jS_checkIndex 2 none
theorem k_jS_checkIndex : v_jS_checkIndex ∈ lwG := inG 376 (by decide +kernel) (by decide +kernel)
abbrev b_jP_checkIndex : ByteArray := prog_17_method_11_code
def y_jP_checkIndex : MethodName := ⟨R_jP, "checkIndex", "(IILjava/util/function/BiFunction;)I"⟩
abbrev v_jP_checkIndex : Cond := .code y_jP_checkIndex b_jP_checkIndex 3 (some .int)
theorem k_jP_checkIndex : v_jP_checkIndex ∈ lwG := inG 381 (by decide +kernel) (by decide +kernel)
abbrev b_E_skips : ByteArray := prog_5_method_4_code
def y_E_skips : MethodName := ⟨R_E, "skips", "(I)Z"⟩
abbrev v_E_skips : Cond := .code y_E_skips b_E_skips 2 (some .boolean)
theorem k_E_skips : v_E_skips ∈ lwG := inG 404 (by decide +kernel) (by decide +kernel)
abbrev b_E_begins : ByteArray := prog_5_method_7_code
def y_E_begins : MethodName := ⟨R_E, "begins", "(I)Z"⟩
abbrev v_E_begins : Cond := .code y_E_begins b_E_begins 3 (some .boolean)
theorem k_E_begins : v_E_begins ∈ lwG := inG 408 (by decide +kernel) (by decide +kernel)
abbrev b_E_number : ByteArray := prog_5_method_9_code
def y_E_number : MethodName := ⟨R_E, "number", "()I"⟩
abbrev v_E_number : Cond := .code y_E_number b_E_number 2 (some .int)
theorem k_E_number : v_E_number ∈ lwG := inG 412 (by decide +kernel) (by decide +kernel)
abbrev b_E_isDigit : ByteArray := prog_5_method_10_code
def y_E_isDigit : MethodName := ⟨R_E, "isDigit", "(I)Z"⟩
abbrev v_E_isDigit : Cond := .code y_E_isDigit b_E_isDigit 1 (some .boolean)
theorem k_E_isDigit : v_E_isDigit ∈ lwG := inG 415 (by decide +kernel) (by decide +kernel)
abbrev b_R_begin : ByteArray := prog_6_method_3_code
def y_R_begin : MethodName := ⟨R_R, "begin", "(II)V"⟩
abbrev v_R_begin : Cond := .code y_R_begin b_R_begin 3 none
theorem k_R_begin : v_R_begin ∈ lwG := inG 419 (by decide +kernel) (by decide +kernel)
abbrev b_E_either : ByteArray := prog_5_method_11_code
def y_E_either : MethodName := ⟨R_E, "either", "(I)Z"⟩
abbrev v_E_either : Cond := .code y_E_either b_E_either 4 (some .boolean)
theorem k_E_either : v_E_either ∈ lwG := inG 423 (by decide +kernel) (by decide +kernel)
abbrev b_E_factor : ByteArray := prog_5_method_12_code
def y_E_factor : MethodName := ⟨R_E, "factor", "(I)Z"⟩
abbrev v_E_factor : Cond := .code y_E_factor b_E_factor 2 (some .boolean)
theorem k_E_factor : v_E_factor ∈ lwG := inG 427 (by decide +kernel) (by decide +kernel)
abbrev b_E_test : ByteArray := prog_5_method_13_code
def y_E_test : MethodName := ⟨R_E, "test", "()Z"⟩
abbrev v_E_test : Cond := .code y_E_test b_E_test 4 (some .boolean)
theorem k_E_test : v_E_test ∈ lwG := inG 431 (by decide +kernel) (by decide +kernel)
abbrev b_jS_indexOf_1 : ByteArray := prog_12_method_79_code
def y_jS_indexOf_1 : MethodName := ⟨R_jS, "indexOf", "(I)I"⟩
abbrev v_jS_indexOf_1 : Cond := .code y_jS_indexOf_1 b_jS_indexOf_1 2 (some .int)
theorem k_jS_indexOf_1 : v_jS_indexOf_1 ∈ lwG := inG 436 (by decide +kernel) (by decide +kernel)
abbrev b_jS_indexOf_2 : ByteArray := prog_12_method_80_code
def y_jS_indexOf_2 : MethodName := ⟨R_jS, "indexOf", "(II)I"⟩
abbrev v_jS_indexOf_2 : Cond := .code y_jS_indexOf_2 b_jS_indexOf_2 3 (some .int)
theorem k_jS_indexOf_2 : v_jS_indexOf_2 ∈ lwG := inG 440 (by decide +kernel) (by decide +kernel)
abbrev b_jL_indexOf : ByteArray := prog_13_method_22_code
def y_jL_indexOf : MethodName := ⟨R_jL, "indexOf", "([BIII)I"⟩
abbrev v_jL_indexOf : Cond := .code y_jL_indexOf b_jL_indexOf 4 (some .int)
theorem k_jL_indexOf : v_jL_indexOf ∈ lwG := inG 444 (by decide +kernel) (by decide +kernel)
abbrev b_jL_canEncode : ByteArray := prog_13_method_4_code
def y_jL_canEncode : MethodName := ⟨R_jL, "canEncode", "(I)Z"⟩
abbrev v_jL_canEncode : Cond := .code y_jL_canEncode b_jL_canEncode 1 (some .boolean)
theorem k_jL_canEncode : v_jL_canEncode ∈ lwG := inG 447 (by decide +kernel) (by decide +kernel)
abbrev b_jL_indexOfChar : ByteArray := prog_13_method_23_code
def y_jL_indexOfChar : MethodName := ⟨R_jL, "indexOfChar", "([BIII)I"⟩
abbrev v_jL_indexOfChar : Cond := .code y_jL_indexOfChar b_jL_indexOfChar 6 (some .int)
theorem k_jL_indexOfChar : v_jL_indexOfChar ∈ lwG := inG 456 (by decide +kernel) (by decide +kernel)
abbrev b_jS_checkBoundsBeginEnd : ByteArray := prog_12_method_158_code
def y_jS_checkBoundsBeginEnd : MethodName := ⟨R_jS, "checkBoundsBeginEnd", "(III)V"⟩
abbrev v_jS_checkBoundsBeginEnd : Cond := .code y_jS_checkBoundsBeginEnd b_jS_checkBoundsBeginEnd 3 none
theorem k_jS_checkBoundsBeginEnd : v_jS_checkBoundsBeginEnd ∈ lwG := inG 471 (by decide +kernel) (by decide +kernel)
abbrev b_jP_checkFromToIndex : ByteArray := prog_17_method_12_code
def y_jP_checkFromToIndex : MethodName := ⟨R_jP, "checkFromToIndex", "(IIILjava/util/function/BiFunction;)I"⟩
abbrev v_jP_checkFromToIndex : Cond := .code y_jP_checkFromToIndex b_jP_checkFromToIndex 4 (some .int)
theorem k_jP_checkFromToIndex : v_jP_checkFromToIndex ∈ lwG := inG 474 (by decide +kernel) (by decide +kernel)
abbrev b_R_test : ByteArray := prog_6_method_6_code
def y_R_test : MethodName := ⟨R_R, "test", "(III)I"⟩
abbrev v_R_test : Cond := .code y_R_test b_R_test 3 (some .int)
theorem k_R_test : v_R_test ∈ lwG := inG 494 (by decide +kernel) (by decide +kernel)
abbrev b_R_step : ByteArray := prog_6_method_4_code
def y_R_step : MethodName := ⟨R_R, "step", "(I)V"⟩
abbrev v_R_step : Cond := .code y_R_step b_R_step 2 none
theorem k_R_step : v_R_step ∈ lwG := inG 498 (by decide +kernel) (by decide +kernel)
abbrev b_E_ends : ByteArray := prog_5_method_8_code
def y_E_ends : MethodName := ⟨R_E, "ends", "()Z"⟩
abbrev v_E_ends : Cond := .code y_E_ends b_E_ends 1 (some .boolean)
theorem k_E_ends : v_E_ends ∈ lwG := inG 502 (by decide +kernel) (by decide +kernel)
abbrev b_R_end : ByteArray := prog_6_method_5_code
def y_R_end : MethodName := ⟨R_R, "end", "()V"⟩
abbrev v_R_end : Cond := .code y_R_end b_R_end 1 none
theorem k_R_end : v_R_end ∈ lwG := inG 506 (by decide +kernel) (by decide +kernel)
abbrev b_K_hold : ByteArray := prog_3_method_3_code
def y_K_hold : MethodName := ⟨R_K, "hold", "(LLittleLeft$Rule;)V"⟩
abbrev v_K_hold : Cond := .code y_K_hold b_K_hold 2 none
theorem k_K_hold : v_K_hold ∈ lwG := inG 513 (by decide +kernel) (by decide +kernel)
abbrev b_X_told : ByteArray := prog_1_method_9_code
def y_X_told : MethodName := ⟨R_X, "told", "(I)I"⟩
abbrev v_X_told : Cond := .code y_X_told b_X_told 2 (some .int)
theorem k_X_told : v_X_told ∈ lwG := inG 517 (by decide +kernel) (by decide +kernel)
abbrev b_X_sum : ByteArray := prog_1_method_41_code
def y_X_sum : MethodName := ⟨R_X, "sum", "([II)I"⟩
abbrev v_X_sum : Cond := .code y_X_sum b_X_sum 4 (some .int)
theorem k_X_sum : v_X_sum ∈ lwG := inG 520 (by decide +kernel) (by decide +kernel)
abbrev b_X_takes : ByteArray := prog_1_method_10_code
def y_X_takes : MethodName := ⟨R_X, "takes", "(I)I"⟩
abbrev v_X_takes : Cond := .code y_X_takes b_X_takes 2 (some .int)
theorem k_X_takes : v_X_takes ∈ lwG := inG 524 (by decide +kernel) (by decide +kernel)
abbrev b_K_taking : ByteArray := prog_3_method_8_code
def y_K_taking : MethodName := ⟨R_K, "taking", "(I)I"⟩
abbrev v_K_taking : Cond := .code y_K_taking b_K_taking 4 (some .int)
theorem k_K_taking : v_K_taking ∈ lwG := inG 528 (by decide +kernel) (by decide +kernel)
abbrev b_K_fetchesFirst : ByteArray := prog_3_method_9_code
def y_K_fetchesFirst : MethodName := ⟨R_K, "fetchesFirst", "(II)Z"⟩
abbrev v_K_fetchesFirst : Cond := .code y_K_fetchesFirst b_K_fetchesFirst 3 (some .boolean)
theorem k_K_fetchesFirst : v_K_fetchesFirst ∈ lwG := inG 533 (by decide +kernel) (by decide +kernel)
abbrev b_K_fetch : ByteArray := prog_3_method_10_code
def y_K_fetch : MethodName := ⟨R_K, "fetch", "(I)V"⟩
abbrev v_K_fetch : Cond := .code y_K_fetch b_K_fetch 2 none
theorem k_K_fetch : v_K_fetch ∈ lwG := inG 537 (by decide +kernel) (by decide +kernel)
abbrev b_K_amount : ByteArray := prog_3_method_11_code
def y_K_amount : MethodName := ⟨R_K, "amount", "(II)I"⟩
abbrev v_K_amount : Cond := .code y_K_amount b_K_amount 3 (some .int)
theorem k_K_amount : v_K_amount ∈ lwG := inG 542 (by decide +kernel) (by decide +kernel)
abbrev b_K_downToLeast : ByteArray := prog_3_method_12_code
def y_K_downToLeast : MethodName := ⟨R_K, "downToLeast", "(I)I"⟩
abbrev v_K_downToLeast : Cond := .code y_K_downToLeast b_K_downToLeast 2 (some .int)
theorem k_K_downToLeast : v_K_downToLeast ∈ lwG := inG 547 (by decide +kernel) (by decide +kernel)
abbrev b_X_day : ByteArray := prog_1_method_11_code
def y_X_day : MethodName := ⟨R_X, "day", "()I"⟩
abbrev v_X_day : Cond := .code y_X_day b_X_day 1 (some .int)
theorem k_X_day : v_X_day ∈ lwG := inG 552 (by decide +kernel) (by decide +kernel)
abbrev b_K_go : ByteArray := prog_3_method_13_code
def y_K_go : MethodName := ⟨R_K, "go", "(III)I"⟩
abbrev v_K_go : Cond := .code y_K_go b_K_go 7 (some .int)
theorem k_K_go : v_K_go ∈ lwG := inG 556 (by decide +kernel) (by decide +kernel)
abbrev b_X_on : ByteArray := prog_1_method_12_code
def y_X_on : MethodName := ⟨R_X, "on", "(II)I"⟩
abbrev v_X_on : Cond := .code y_X_on b_X_on 6 (some .int)
theorem k_X_on : v_X_on ∈ lwG := inG 562 (by decide +kernel) (by decide +kernel)
abbrev b_K_becomes : ByteArray := prog_3_method_2_code
def y_K_becomes : MethodName := ⟨R_K, "becomes", "(LLittleLeft$Kitchen;)V"⟩
abbrev v_K_becomes : Cond := .code y_K_becomes b_K_becomes 2 none
theorem k_K_becomes : v_K_becomes ∈ lwG := inG 566 (by decide +kernel) (by decide +kernel)
abbrev b_X_cupsMore : ByteArray := prog_1_method_42_code
def y_X_cupsMore : MethodName := ⟨R_X, "cupsMore", "(I)I"⟩
abbrev v_X_cupsMore : Cond := .code y_X_cupsMore b_X_cupsMore 2 (some .int)
theorem k_X_cupsMore : v_X_cupsMore ∈ lwG := inG 573 (by decide +kernel) (by decide +kernel)
abbrev b_X_fetchesMore : ByteArray := prog_1_method_43_code
def y_X_fetchesMore : MethodName := ⟨R_X, "fetchesMore", "(I)I"⟩
abbrev v_X_fetchesMore : Cond := .code y_X_fetchesMore b_X_fetchesMore 2 (some .int)
theorem k_X_fetchesMore : v_X_fetchesMore ∈ lwG := inG 577 (by decide +kernel) (by decide +kernel)
abbrev b_X_would : ByteArray := prog_1_method_13_code
def y_X_would : MethodName := ⟨R_X, "would", "(II)I"⟩
abbrev v_X_would : Cond := .code y_X_would b_X_would 4 (some .int)
theorem k_X_would : v_X_would ∈ lwG := inG 581 (by decide +kernel) (by decide +kernel)
abbrev b_X_next : ByteArray := prog_1_method_14_code
def y_X_next : MethodName := ⟨R_X, "next", "(I)I"⟩
abbrev v_X_next : Cond := .code y_X_next b_X_next 4 (some .int)
theorem k_X_next : v_X_next ∈ lwG := inG 585 (by decide +kernel) (by decide +kernel)
abbrev b_X_least : ByteArray := prog_1_method_15_code
def y_X_least : MethodName := ⟨R_X, "least", "(II)I"⟩
abbrev v_X_least : Cond := .code y_X_least b_X_least 7 (some .int)
theorem k_X_least : v_X_least ∈ lwG := inG 589 (by decide +kernel) (by decide +kernel)
abbrev b_X_full : ByteArray := prog_1_method_16_code
def y_X_full : MethodName := ⟨R_X, "full", "(II)I"⟩
abbrev v_X_full : Cond := .code y_X_full b_X_full 7 (some .int)
theorem k_X_full : v_X_full ∈ lwG := inG 594 (by decide +kernel) (by decide +kernel)
abbrev b_X_order : ByteArray := prog_1_method_17_code
def y_X_order : MethodName := ⟨R_X, "order", "(I)I"⟩
abbrev v_X_order : Cond := .code y_X_order b_X_order 6 (some .int)
theorem k_X_order : v_X_order ∈ lwG := inG 598 (by decide +kernel) (by decide +kernel)
abbrev b_X_ordersOf : ByteArray := prog_1_method_45_code
def y_X_ordersOf : MethodName := ⟨R_X, "ordersOf", "(I)I"⟩
abbrev v_X_ordersOf : Cond := .code y_X_ordersOf b_X_ordersOf 3 (some .int)
theorem k_X_ordersOf : v_X_ordersOf ∈ lwG := inG 601 (by decide +kernel) (by decide +kernel)
abbrev b_X_putOrder : ByteArray := prog_1_method_46_code
def y_X_putOrder : MethodName := ⟨R_X, "putOrder", "(III)V"⟩
abbrev v_X_putOrder : Cond := .code y_X_putOrder b_X_putOrder 8 none
theorem k_X_putOrder : v_X_putOrder ∈ lwG := inG 605 (by decide +kernel) (by decide +kernel)
abbrev b_X_unused : ByteArray := prog_1_method_47_code
def y_X_unused : MethodName := ⟨R_X, "unused", "(III)I"⟩
abbrev v_X_unused : Cond := .code y_X_unused b_X_unused 5 (some .int)
theorem k_X_unused : v_X_unused ∈ lwG := inG 608 (by decide +kernel) (by decide +kernel)
abbrev b_X_takenByOrder : ByteArray := prog_1_method_48_code
def y_X_takenByOrder : MethodName := ⟨R_X, "takenByOrder", "()I"⟩
abbrev v_X_takenByOrder : Cond := .code y_X_takenByOrder b_X_takenByOrder 3 (some .int)
theorem k_X_takenByOrder : v_X_takenByOrder ∈ lwG := inG 612 (by decide +kernel) (by decide +kernel)
abbrev b_X_without : ByteArray := prog_1_method_18_code
def y_X_without : MethodName := ⟨R_X, "without", "(II)I"⟩
abbrev v_X_without : Cond := .code y_X_without b_X_without 4 (some .int)
theorem k_X_without : v_X_without ∈ lwG := inG 617 (by decide +kernel) (by decide +kernel)
abbrev b_X_few : ByteArray := prog_1_method_19_code
def y_X_few : MethodName := ⟨R_X, "few", "(II)I"⟩
abbrev v_X_few : Cond := .code y_X_few b_X_few 5 (some .int)
theorem k_X_few : v_X_few ∈ lwG := inG 621 (by decide +kernel) (by decide +kernel)
abbrev b_X_pitied : ByteArray := prog_1_method_20_code
def y_X_pitied : MethodName := ⟨R_X, "pitied", "(I)I"⟩
abbrev v_X_pitied : Cond := .code y_X_pitied b_X_pitied 4 (some .int)
theorem k_X_pitied : v_X_pitied ∈ lwG := inG 625 (by decide +kernel) (by decide +kernel)
abbrev b_X_see : ByteArray := prog_1_method_21_code
def y_X_see : MethodName := ⟨R_X, "see", "(II)I"⟩
abbrev v_X_see : Cond := .code y_X_see b_X_see 3 (some .int)
theorem k_X_see : v_X_see ∈ lwG := inG 629 (by decide +kernel) (by decide +kernel)
abbrev b_X_who : ByteArray := prog_1_method_22_code
def y_X_who : MethodName := ⟨R_X, "who", "()I"⟩
abbrev v_X_who : Cond := .code y_X_who b_X_who 3 (some .int)
theorem k_X_who : v_X_who ∈ lwG := inG 633 (by decide +kernel) (by decide +kernel)
abbrev b_X_leavesWhatIsSeen : ByteArray := prog_1_method_44_code
def y_X_leavesWhatIsSeen : MethodName := ⟨R_X, "leavesWhatIsSeen", "(I)Z"⟩
abbrev v_X_leavesWhatIsSeen : Cond := .code y_X_leavesWhatIsSeen b_X_leavesWhatIsSeen 3 (some .boolean)
theorem k_X_leavesWhatIsSeen : v_X_leavesWhatIsSeen ∈ lwG := inG 637 (by decide +kernel) (by decide +kernel)
abbrev b_X_odds : ByteArray := prog_1_method_23_code
def y_X_odds : MethodName := ⟨R_X, "odds", "(III)J"⟩
abbrev v_X_odds : Cond := .code y_X_odds b_X_odds 6 (some .long)
theorem k_X_odds : v_X_odds ∈ lwG := inG 641 (by decide +kernel) (by decide +kernel)
abbrev b_X_lowest : ByteArray := prog_1_method_49_code
def y_X_lowest : MethodName := ⟨R_X, "lowest", "(III)J"⟩
abbrev v_X_lowest : Cond := .code y_X_lowest b_X_lowest 4 (some .long)
theorem k_X_lowest : v_X_lowest ∈ lwG := inG 645 (by decide +kernel) (by decide +kernel)
abbrev b_X_mean : ByteArray := prog_1_method_24_code
def y_X_mean : MethodName := ⟨R_X, "mean", "(II)J"⟩
abbrev v_X_mean : Cond := .code y_X_mean b_X_mean 5 (some .long)
theorem k_X_mean : v_X_mean ∈ lwG := inG 649 (by decide +kernel) (by decide +kernel)
abbrev b_X_book : ByteArray := prog_1_method_25_code
def y_X_book : MethodName := ⟨R_X, "book", "(I)I"⟩
abbrev v_X_book : Cond := .code y_X_book b_X_book 2 (some .int)
theorem k_X_book : v_X_book ∈ lwG := inG 653 (by decide +kernel) (by decide +kernel)
abbrev b_X_looked : ByteArray := prog_1_method_26_code
def y_X_looked : MethodName := ⟨R_X, "looked", "()I"⟩
abbrev v_X_looked : Cond := .code y_X_looked b_X_looked 2 (some .int)
theorem k_X_looked : v_X_looked ∈ lwG := inG 657 (by decide +kernel) (by decide +kernel)
abbrev b_X_judge : ByteArray := prog_1_method_27_code
def y_X_judge : MethodName := ⟨R_X, "judge", "(II)I"⟩
abbrev v_X_judge : Cond := .code y_X_judge b_X_judge 5 (some .int)
theorem k_X_judge : v_X_judge ∈ lwG := inG 661 (by decide +kernel) (by decide +kernel)
abbrev b_X_isTape : ByteArray := prog_1_method_40_code
def y_X_isTape : MethodName := ⟨R_X, "isTape", "(I)Z"⟩
abbrev v_X_isTape : Cond := .code y_X_isTape b_X_isTape 1 (some .boolean)
theorem k_X_isTape : v_X_isTape ∈ lwG := inG 664 (by decide +kernel) (by decide +kernel)
abbrev b_X_image : ByteArray := prog_1_method_28_code
def y_X_image : MethodName := ⟨R_X, "image", "()I"⟩
abbrev v_X_image : Cond := .code y_X_image b_X_image 1 (some .int)
theorem k_X_image : v_X_image ∈ lwG := inG 668 (by decide +kernel) (by decide +kernel)
abbrev b_N_become : ByteArray := prog_4_method_2_code
def y_N_become : MethodName := ⟨R_N, "become", "(LLittleLeft$Notes;)V"⟩
abbrev v_N_become : Cond := .code y_N_become b_N_become 2 none
theorem k_N_become : v_N_become ∈ lwG := inG 672 (by decide +kernel) (by decide +kernel)
abbrev b_X_undo : ByteArray := prog_1_method_29_code
def y_X_undo : MethodName := ⟨R_X, "undo", "()I"⟩
abbrev v_X_undo : Cond := .code y_X_undo b_X_undo 1 (some .int)
theorem k_X_undo : v_X_undo ∈ lwG := inG 677 (by decide +kernel) (by decide +kernel)
abbrev b_X_act : ByteArray := prog_1_method_30_code
def y_X_act : MethodName := ⟨R_X, "act", "(III)I"⟩
abbrev v_X_act : Cond := .code y_X_act b_X_act 4 (some .int)
theorem k_X_act : v_X_act ∈ lwG := inG 681 (by decide +kernel) (by decide +kernel)
abbrev b_A_perform : ByteArray := prog_2_method_2_code
def y_A_perform : MethodName := ⟨R_A, "perform", "(IIIII)I"⟩
abbrev v_A_perform : Cond := .code y_A_perform b_A_perform 6 (some .int)
theorem k_A_perform : v_A_perform ∈ lwG := inG 685 (by decide +kernel) (by decide +kernel)
abbrev b_A_takesAs : ByteArray := prog_2_method_4_code
def y_A_takesAs : MethodName := ⟨R_A, "takesAs", "(II)I"⟩
abbrev v_A_takesAs : Cond := .code y_A_takesAs b_A_takesAs 3 (some .int)
theorem k_A_takesAs : v_A_takesAs ∈ lwG := inG 689 (by decide +kernel) (by decide +kernel)
abbrev b_A_begin : ByteArray := prog_2_method_3_code
def y_A_begin : MethodName := ⟨R_A, "begin", "(I)V"⟩
abbrev v_A_begin : Cond := .code y_A_begin b_A_begin 2 none
theorem k_A_begin : v_A_begin ∈ lwG := inG 693 (by decide +kernel) (by decide +kernel)
abbrev b_A_leavesAs : ByteArray := prog_2_method_5_code
def y_A_leavesAs : MethodName := ⟨R_A, "leavesAs", "(II)I"⟩
abbrev v_A_leavesAs : Cond := .code y_A_leavesAs b_A_leavesAs 4 (some .int)
theorem k_A_leavesAs : v_A_leavesAs ∈ lwG := inG 697 (by decide +kernel) (by decide +kernel)
abbrev b_A_tellsAs : ByteArray := prog_2_method_6_code
def y_A_tellsAs : MethodName := ⟨R_A, "tellsAs", "(II)I"⟩
abbrev v_A_tellsAs : Cond := .code y_A_tellsAs b_A_tellsAs 4 (some .int)
theorem k_A_tellsAs : v_A_tellsAs ∈ lwG := inG 701 (by decide +kernel) (by decide +kernel)
abbrev b_X_trace : ByteArray := prog_1_method_31_code
def y_X_trace : MethodName := ⟨R_X, "trace", "(I)I"⟩
abbrev v_X_trace : Cond := .code y_X_trace b_X_trace 2 (some .int)
theorem k_X_trace : v_X_trace ∈ lwG := inG 705 (by decide +kernel) (by decide +kernel)
abbrev b_X_taken : ByteArray := prog_1_method_32_code
def y_X_taken : MethodName := ⟨R_X, "taken", "(II)I"⟩
abbrev v_X_taken : Cond := .code y_X_taken b_X_taken 3 (some .int)
theorem k_X_taken : v_X_taken ∈ lwG := inG 710 (by decide +kernel) (by decide +kernel)
abbrev b_X_isUnder : ByteArray := prog_1_method_50_code
def y_X_isUnder : MethodName := ⟨R_X, "isUnder", "(II)Z"⟩
abbrev v_X_isUnder : Cond := .code y_X_isUnder b_X_isUnder 4 (some .boolean)
theorem k_X_isUnder : v_X_isUnder ∈ lwG := inG 713 (by decide +kernel) (by decide +kernel)
abbrev b_X_count : ByteArray := prog_1_method_33_code
def y_X_count : MethodName := ⟨R_X, "count", "(I)I"⟩
abbrev v_X_count : Cond := .code y_X_count b_X_count 2 (some .int)
theorem k_X_count : v_X_count ∈ lwG := inG 719 (by decide +kernel) (by decide +kernel)
abbrev b_X_tape : ByteArray := prog_1_method_34_code
def y_X_tape : MethodName := ⟨R_X, "tape", "(III)I"⟩
abbrev v_X_tape : Cond := .code y_X_tape b_X_tape 4 (some .int)
theorem k_X_tape : v_X_tape ∈ lwG := inG 723 (by decide +kernel) (by decide +kernel)
abbrev b_T_become : ByteArray := prog_7_method_2_code
def y_T_become : MethodName := ⟨R_T, "become", "(II)V"⟩
abbrev v_T_become : Cond := .code y_T_become b_T_become 3 none
theorem k_T_become : v_T_become ∈ lwG := inG 727 (by decide +kernel) (by decide +kernel)
abbrev b_jA_fill : ByteArray := prog_16_method_101_code
def y_jA_fill : MethodName := ⟨R_jA, "fill", "([JJ)V"⟩
abbrev v_jA_fill : Cond := .code y_jA_fill b_jA_fill 5 none
theorem k_jA_fill : v_jA_fill ∈ lwG := inG 730 (by decide +kernel) (by decide +kernel)
abbrev b_X_item : ByteArray := prog_1_method_35_code
def y_X_item : MethodName := ⟨R_X, "item", "(IIJ)I"⟩
abbrev v_X_item : Cond := .code y_X_item b_X_item 6 (some .int)
theorem k_X_item : v_X_item ∈ lwG := inG 734 (by decide +kernel) (by decide +kernel)
abbrev b_T_narrowed : ByteArray := prog_7_method_3_code
def y_T_narrowed : MethodName := ⟨R_T, "narrowed", "(J)J"⟩
abbrev v_T_narrowed : Cond := .code y_T_narrowed b_T_narrowed 3 (some .long)
theorem k_T_narrowed : v_T_narrowed ∈ lwG := inG 738 (by decide +kernel) (by decide +kernel)
abbrev b_X_read : ByteArray := prog_1_method_36_code
def y_X_read : MethodName := ⟨R_X, "read", "(II)J"⟩
abbrev v_X_read : Cond := .code y_X_read b_X_read 4 (some .long)
theorem k_X_read : v_X_read ∈ lwG := inG 742 (by decide +kernel) (by decide +kernel)
abbrev b_X_shift : ByteArray := prog_1_method_37_code
def y_X_shift : MethodName := ⟨R_X, "shift", "(IIIII)I"⟩
abbrev v_X_shift : Cond := .code y_X_shift b_X_shift 8 (some .int)
theorem k_X_shift : v_X_shift ∈ lwG := inG 746 (by decide +kernel) (by decide +kernel)
abbrev b_M_init : ByteArray := prog_9_method_1_code
def y_M_init : MethodName := ⟨R_M, "<init>", "()V"⟩
abbrev v_M_init : Cond := .code y_M_init b_M_init 1 none
theorem k_M_init : v_M_init ∈ lwG := inG 751 (by decide +kernel) (by decide +kernel)
abbrev b_M_taker : ByteArray := prog_9_method_5_code
def y_M_taker : MethodName := ⟨R_M, "taker", "(III)I"⟩
abbrev v_M_taker : Cond := .code y_M_taker b_M_taker 5 (some .int)
theorem k_M_taker : v_M_taker ∈ lwG := inG 962 (by decide +kernel) (by decide +kernel)
abbrev b_M_in : ByteArray := prog_9_method_2_code
def y_M_in : MethodName := ⟨R_M, "in", "(III)Z"⟩
abbrev v_M_in : Cond := .code y_M_in b_M_in 4 (some .boolean)
theorem k_M_in : v_M_in ∈ lwG := inG 966 (by decide +kernel) (by decide +kernel)
abbrev b_M_portion : ByteArray := prog_9_method_6_code
def y_M_portion : MethodName := ⟨R_M, "portion", "(II)I"⟩
abbrev v_M_portion : Cond := .code y_M_portion b_M_portion 4 (some .int)
theorem k_M_portion : v_M_portion ∈ lwG := inG 970 (by decide +kernel) (by decide +kernel)
abbrev b_M_isTaker : ByteArray := prog_9_method_4_code
def y_M_isTaker : MethodName := ⟨R_M, "isTaker", "(I)Z"⟩
abbrev v_M_isTaker : Cond := .code y_M_isTaker b_M_isTaker 2 (some .boolean)
theorem k_M_isTaker : v_M_isTaker ∈ lwG := inG 974 (by decide +kernel) (by decide +kernel)
abbrev b_M_fill : ByteArray := prog_9_method_7_code
def y_M_fill : MethodName := ⟨R_M, "fill", "(I)I"⟩
abbrev v_M_fill : Cond := .code y_M_fill b_M_fill 3 (some .int)
theorem k_M_fill : v_M_fill ∈ lwG := inG 978 (by decide +kernel) (by decide +kernel)
abbrev b_M_row : ByteArray := prog_9_method_8_code
def y_M_row : MethodName := ⟨R_M, "row", "(III)I"⟩
abbrev v_M_row : Cond := .code y_M_row b_M_row 5 (some .int)
theorem k_M_row : v_M_row ∈ lwG := inG 982 (by decide +kernel) (by decide +kernel)
abbrev b_M_feed : ByteArray := prog_9_method_9_code
def y_M_feed : MethodName := ⟨R_M, "feed", "(I)I"⟩
abbrev v_M_feed : Cond := .code y_M_feed b_M_feed 2 (some .int)
theorem k_M_feed : v_M_feed ∈ lwG := inG 986 (by decide +kernel) (by decide +kernel)
abbrev b_M_rule : ByteArray := prog_9_method_24_code
def y_M_rule : MethodName := ⟨R_M, "rule", "()I"⟩
abbrev v_M_rule : Cond := .code y_M_rule b_M_rule 2 (some .int)
theorem k_M_rule : v_M_rule ∈ lwG := inG 990 (by decide +kernel) (by decide +kernel)
abbrev b_M_goesText : ByteArray := prog_9_method_23_code
def y_M_goesText : MethodName := ⟨R_M, "goesText", "(I)Z"⟩
abbrev v_M_goesText : Cond := .code y_M_goesText b_M_goesText 3 (some .boolean)
theorem k_M_goesText : v_M_goesText ∈ lwG := inG 994 (by decide +kernel) (by decide +kernel)
abbrev b_M_takesClause : ByteArray := prog_9_method_22_code
def y_M_takesClause : MethodName := ⟨R_M, "takesClause", "(I)Z"⟩
abbrev v_M_takesClause : Cond := .code y_M_takesClause b_M_takesClause 2 (some .boolean)
theorem k_M_takesClause : v_M_takesClause ∈ lwG := inG 998 (by decide +kernel) (by decide +kernel)
abbrev b_M_takesHead : ByteArray := prog_9_method_21_code
def y_M_takesHead : MethodName := ⟨R_M, "takesHead", "(I)Z"⟩
abbrev v_M_takesHead : Cond := .code y_M_takesHead b_M_takesHead 2 (some .boolean)
theorem k_M_takesHead : v_M_takesHead ∈ lwG := inG 1002 (by decide +kernel) (by decide +kernel)
abbrev b_M_peek : ByteArray := prog_9_method_10_code
def y_M_peek : MethodName := ⟨R_M, "peek", "()I"⟩
abbrev v_M_peek : Cond := .code y_M_peek b_M_peek 1 (some .int)
theorem k_M_peek : v_M_peek ∈ lwG := inG 1006 (by decide +kernel) (by decide +kernel)
abbrev b_M_takesWord : ByteArray := prog_9_method_12_code
def y_M_takesWord : MethodName := ⟨R_M, "takesWord", "(II)Z"⟩
abbrev v_M_takesWord : Cond := .code y_M_takesWord b_M_takesWord 4 (some .boolean)
theorem k_M_takesWord : v_M_takesWord ∈ lwG := inG 1010 (by decide +kernel) (by decide +kernel)
abbrev b_M_reads : ByteArray := prog_9_method_11_code
def y_M_reads : MethodName := ⟨R_M, "reads", "(I)Z"⟩
abbrev v_M_reads : Cond := .code y_M_reads b_M_reads 2 (some .boolean)
theorem k_M_reads : v_M_reads ∈ lwG := inG 1014 (by decide +kernel) (by decide +kernel)
abbrev b_M_takesNumber : ByteArray := prog_9_method_14_code
def y_M_takesNumber : MethodName := ⟨R_M, "takesNumber", "()Z"⟩
abbrev v_M_takesNumber : Cond := .code y_M_takesNumber b_M_takesNumber 2 (some .boolean)
theorem k_M_takesNumber : v_M_takesNumber ∈ lwG := inG 1018 (by decide +kernel) (by decide +kernel)
abbrev b_M_isDigit : ByteArray := prog_9_method_13_code
def y_M_isDigit : MethodName := ⟨R_M, "isDigit", "()Z"⟩
abbrev v_M_isDigit : Cond := .code y_M_isDigit b_M_isDigit 1 (some .boolean)
theorem k_M_isDigit : v_M_isDigit ∈ lwG := inG 1022 (by decide +kernel) (by decide +kernel)
abbrev b_M_takesE : ByteArray := prog_9_method_20_code
def y_M_takesE : MethodName := ⟨R_M, "takesE", "(I)Z"⟩
abbrev v_M_takesE : Cond := .code y_M_takesE b_M_takesE 4 (some .boolean)
theorem k_M_takesE : v_M_takesE ∈ lwG := inG 1026 (by decide +kernel) (by decide +kernel)
abbrev b_M_takesTest : ByteArray := prog_9_method_19_code
def y_M_takesTest : MethodName := ⟨R_M, "takesTest", "()Z"⟩
abbrev v_M_takesTest : Cond := .code y_M_takesTest b_M_takesTest 3 (some .boolean)
theorem k_M_takesTest : v_M_takesTest ∈ lwG := inG 1030 (by decide +kernel) (by decide +kernel)
abbrev b_M_place : ByteArray := prog_9_method_18_code
def y_M_place : MethodName := ⟨R_M, "place", "(I)I"⟩
abbrev v_M_place : Cond := .code y_M_place b_M_place 2 (some .int)
theorem k_M_place : v_M_place ∈ lwG := inG 1034 (by decide +kernel) (by decide +kernel)
abbrev b_M_emits : ByteArray := prog_9_method_15_code
def y_M_emits : MethodName := ⟨R_M, "emits", "(I)V"⟩
abbrev v_M_emits : Cond := .code y_M_emits b_M_emits 2 none
theorem k_M_emits : v_M_emits ∈ lwG := inG 1038 (by decide +kernel) (by decide +kernel)
abbrev b_M_whole : ByteArray := prog_9_method_16_code
def y_M_whole : MethodName := ⟨R_M, "whole", "()V"⟩
abbrev v_M_whole : Cond := .code y_M_whole b_M_whole 1 none
theorem k_M_whole : v_M_whole ∈ lwG := inG 1042 (by decide +kernel) (by decide +kernel)
abbrev b_M_settle : ByteArray := prog_9_method_17_code
def y_M_settle : MethodName := ⟨R_M, "settle", "(I)V"⟩
abbrev v_M_settle : Cond := .code y_M_settle b_M_settle 2 none
theorem k_M_settle : v_M_settle ∈ lwG := inG 1046 (by decide +kernel) (by decide +kernel)
abbrev b_M_of : ByteArray := prog_9_method_34_code
def y_M_of : MethodName := ⟨R_M, "of", "(II)I"⟩
abbrev v_M_of : Cond := .code y_M_of b_M_of 3 (some .int)
theorem k_M_of : v_M_of ∈ lwG := inG 1050 (by decide +kernel) (by decide +kernel)
abbrev b_M_wantsOf : ByteArray := prog_9_method_33_code
def y_M_wantsOf : MethodName := ⟨R_M, "wantsOf", "(I)I"⟩
abbrev v_M_wantsOf : Cond := .code y_M_wantsOf b_M_wantsOf 2 (some .int)
theorem k_M_wantsOf : v_M_wantsOf ∈ lwG := inG 1054 (by decide +kernel) (by decide +kernel)
abbrev b_M_sumOf : ByteArray := prog_9_method_32_code
def y_M_sumOf : MethodName := ⟨R_M, "sumOf", "(II)I"⟩
abbrev v_M_sumOf : Cond := .code y_M_sumOf b_M_sumOf 5 (some .int)
theorem k_M_sumOf : v_M_sumOf ∈ lwG := inG 1058 (by decide +kernel) (by decide +kernel)
abbrev b_M_begin : ByteArray := prog_9_method_25_code
def y_M_begin : MethodName := ⟨R_M, "begin", "()I"⟩
abbrev v_M_begin : Cond := .code y_M_begin b_M_begin 1 (some .int)
theorem k_M_begin : v_M_begin ∈ lwG := inG 1062 (by decide +kernel) (by decide +kernel)
abbrev b_M_behind : ByteArray := prog_9_method_26_code
def y_M_behind : MethodName := ⟨R_M, "behind", "()I"⟩
abbrev v_M_behind : Cond := .code y_M_behind b_M_behind 1 (some .int)
theorem k_M_behind : v_M_behind ∈ lwG := inG 1066 (by decide +kernel) (by decide +kernel)
abbrev b_M_holds : ByteArray := prog_9_method_31_code
def y_M_holds : MethodName := ⟨R_M, "holds", "(II)Z"⟩
abbrev v_M_holds : Cond := .code y_M_holds b_M_holds 8 (some .boolean)
theorem k_M_holds : v_M_holds ∈ lwG := inG 1070 (by decide +kernel) (by decide +kernel)
abbrev b_M_factOf : ByteArray := prog_9_method_30_code
def y_M_factOf : MethodName := ⟨R_M, "factOf", "(II)I"⟩
abbrev v_M_factOf : Cond := .code y_M_factOf b_M_factOf 3 (some .int)
theorem k_M_factOf : v_M_factOf ∈ lwG := inG 1074 (by decide +kernel) (by decide +kernel)
abbrev b_M_told : ByteArray := prog_9_method_36_code
def y_M_told : MethodName := ⟨R_M, "told", "(I)I"⟩
abbrev v_M_told : Cond := .code y_M_told b_M_told 2 (some .int)
theorem k_M_told : v_M_told ∈ lwG := inG 1078 (by decide +kernel) (by decide +kernel)
abbrev b_M_leastNow : ByteArray := prog_9_method_28_code
def y_M_leastNow : MethodName := ⟨R_M, "leastNow", "()I"⟩
abbrev v_M_leastNow : Cond := .code y_M_leastNow b_M_leastNow 1 (some .int)
theorem k_M_leastNow : v_M_leastNow ∈ lwG := inG 1082 (by decide +kernel) (by decide +kernel)
abbrev b_M_lastOf : ByteArray := prog_9_method_27_code
def y_M_lastOf : MethodName := ⟨R_M, "lastOf", "(II)I"⟩
abbrev v_M_lastOf : Cond := .code y_M_lastOf b_M_lastOf 5 (some .int)
theorem k_M_lastOf : v_M_lastOf ∈ lwG := inG 1086 (by decide +kernel) (by decide +kernel)
abbrev b_M_fullNow : ByteArray := prog_9_method_29_code
def y_M_fullNow : MethodName := ⟨R_M, "fullNow", "()I"⟩
abbrev v_M_fullNow : Cond := .code y_M_fullNow b_M_fullNow 1 (some .int)
theorem k_M_fullNow : v_M_fullNow ∈ lwG := inG 1090 (by decide +kernel) (by decide +kernel)
abbrev b_M_sum : ByteArray := prog_9_method_35_code
def y_M_sum : MethodName := ⟨R_M, "sum", "(Z)I"⟩
abbrev v_M_sum : Cond := .code y_M_sum b_M_sum 4 (some .int)
theorem k_M_sum : v_M_sum ∈ lwG := inG 1094 (by decide +kernel) (by decide +kernel)
abbrev b_M_takes : ByteArray := prog_9_method_43_code
def y_M_takes : MethodName := ⟨R_M, "takes", "(I)I"⟩
abbrev v_M_takes : Cond := .code y_M_takes b_M_takes 2 (some .int)
theorem k_M_takes : v_M_takes ∈ lwG := inG 1098 (by decide +kernel) (by decide +kernel)
abbrev b_M_goes : ByteArray := prog_9_method_42_code
def y_M_goes : MethodName := ⟨R_M, "goes", "(I)I"⟩
abbrev v_M_goes : Cond := .code y_M_goes b_M_goes 4 (some .int)
theorem k_M_goes : v_M_goes ∈ lwG := inG 1102 (by decide +kernel) (by decide +kernel)
abbrev b_M_isFirst : ByteArray := prog_9_method_39_code
def y_M_isFirst : MethodName := ⟨R_M, "isFirst", "(II)Z"⟩
abbrev v_M_isFirst : Cond := .code y_M_isFirst b_M_isFirst 3 (some .boolean)
theorem k_M_isFirst : v_M_isFirst ∈ lwG := inG 1106 (by decide +kernel) (by decide +kernel)
abbrev b_M_fetches : ByteArray := prog_9_method_37_code
def y_M_fetches : MethodName := ⟨R_M, "fetches", "(I)V"⟩
abbrev v_M_fetches : Cond := .code y_M_fetches b_M_fetches 2 none
theorem k_M_fetches : v_M_fetches ∈ lwG := inG 1110 (by decide +kernel) (by decide +kernel)
abbrev b_M_amount : ByteArray := prog_9_method_41_code
def y_M_amount : MethodName := ⟨R_M, "amount", "(II)I"⟩
abbrev v_M_amount : Cond := .code y_M_amount b_M_amount 3 (some .int)
theorem k_M_amount : v_M_amount ∈ lwG := inG 1114 (by decide +kernel) (by decide +kernel)
abbrev b_M_lesser : ByteArray := prog_9_method_38_code
def y_M_lesser : MethodName := ⟨R_M, "lesser", "(II)I"⟩
abbrev v_M_lesser : Cond := .code y_M_lesser b_M_lesser 3 (some .int)
theorem k_M_lesser : v_M_lesser ∈ lwG := inG 1118 (by decide +kernel) (by decide +kernel)
abbrev b_M_politely : ByteArray := prog_9_method_40_code
def y_M_politely : MethodName := ⟨R_M, "politely", "(I)I"⟩
abbrev v_M_politely : Cond := .code y_M_politely b_M_politely 3 (some .int)
theorem k_M_politely : v_M_politely ∈ lwG := inG 1122 (by decide +kernel) (by decide +kernel)
abbrev b_M_day : ByteArray := prog_9_method_45_code
def y_M_day : MethodName := ⟨R_M, "day", "()I"⟩
abbrev v_M_day : Cond := .code y_M_day b_M_day 2 (some .int)
theorem k_M_day : v_M_day ∈ lwG := inG 1126 (by decide +kernel) (by decide +kernel)
abbrev b_M_goDay : ByteArray := prog_9_method_44_code
def y_M_goDay : MethodName := ⟨R_M, "goDay", "()V"⟩
abbrev v_M_goDay : Cond := .code y_M_goDay b_M_goDay 3 none
theorem k_M_goDay : v_M_goDay ∈ lwG := inG 1130 (by decide +kernel) (by decide +kernel)
abbrev b_M_on : ByteArray := prog_9_method_50_code
def y_M_on : MethodName := ⟨R_M, "on", "(II)I"⟩
abbrev v_M_on : Cond := .code y_M_on b_M_on 6 (some .int)
theorem k_M_on : v_M_on ∈ lwG := inG 1134 (by decide +kernel) (by decide +kernel)
abbrev b_M_keep : ByteArray := prog_9_method_46_code
def y_M_keep : MethodName := ⟨R_M, "keep", "()V"⟩
abbrev v_M_keep : Cond := .code y_M_keep b_M_keep 2 none
theorem k_M_keep : v_M_keep ∈ lwG := inG 1138 (by decide +kernel) (by decide +kernel)
abbrev b_M_goDays : ByteArray := prog_9_method_48_code
def y_M_goDays : MethodName := ⟨R_M, "goDays", "(I)V"⟩
abbrev v_M_goDays : Cond := .code y_M_goDays b_M_goDays 3 none
theorem k_M_goDays : v_M_goDays ∈ lwG := inG 1142 (by decide +kernel) (by decide +kernel)
abbrev b_M_moreOf : ByteArray := prog_9_method_49_code
def y_M_moreOf : MethodName := ⟨R_M, "moreOf", "(I)I"⟩
abbrev v_M_moreOf : Cond := .code y_M_moreOf b_M_moreOf 2 (some .int)
theorem k_M_moreOf : v_M_moreOf ∈ lwG := inG 1146 (by decide +kernel) (by decide +kernel)
abbrev b_M_putBack : ByteArray := prog_9_method_47_code
def y_M_putBack : MethodName := ⟨R_M, "putBack", "()V"⟩
abbrev v_M_putBack : Cond := .code y_M_putBack b_M_putBack 2 none
theorem k_M_putBack : v_M_putBack ∈ lwG := inG 1150 (by decide +kernel) (by decide +kernel)
abbrev b_M_would : ByteArray := prog_9_method_51_code
def y_M_would : MethodName := ⟨R_M, "would", "(II)I"⟩
abbrev v_M_would : Cond := .code y_M_would b_M_would 5 (some .int)
theorem k_M_would : v_M_would ∈ lwG := inG 1154 (by decide +kernel) (by decide +kernel)
abbrev b_M_next : ByteArray := prog_9_method_52_code
def y_M_next : MethodName := ⟨R_M, "next", "(I)I"⟩
abbrev v_M_next : Cond := .code y_M_next b_M_next 7 (some .int)
theorem k_M_next : v_M_next ∈ lwG := inG 1158 (by decide +kernel) (by decide +kernel)
abbrev b_M_least : ByteArray := prog_9_method_54_code
def y_M_least : MethodName := ⟨R_M, "least", "(II)I"⟩
abbrev v_M_least : Cond := .code y_M_least b_M_least 7 (some .int)
theorem k_M_least : v_M_least ∈ lwG := inG 1162 (by decide +kernel) (by decide +kernel)
abbrev b_M_fetchesIn : ByteArray := prog_9_method_53_code
def y_M_fetchesIn : MethodName := ⟨R_M, "fetchesIn", "(I)I"⟩
abbrev v_M_fetchesIn : Cond := .code y_M_fetchesIn b_M_fetchesIn 4 (some .int)
theorem k_M_fetchesIn : v_M_fetchesIn ∈ lwG := inG 1166 (by decide +kernel) (by decide +kernel)
abbrev b_M_full : ByteArray := prog_9_method_55_code
def y_M_full : MethodName := ⟨R_M, "full", "(II)I"⟩
abbrev v_M_full : Cond := .code y_M_full b_M_full 7 (some .int)
theorem k_M_full : v_M_full ∈ lwG := inG 1170 (by decide +kernel) (by decide +kernel)
abbrev b_M_order : ByteArray := prog_9_method_57_code
def y_M_order : MethodName := ⟨R_M, "order", "(I)I"⟩
abbrev v_M_order : Cond := .code y_M_order b_M_order 6 (some .int)
theorem k_M_order : v_M_order ∈ lwG := inG 1174 (by decide +kernel) (by decide +kernel)
abbrev b_M_layOrder : ByteArray := prog_9_method_56_code
def y_M_layOrder : MethodName := ⟨R_M, "layOrder", "(I)Z"⟩
abbrev v_M_layOrder : Cond := .code y_M_layOrder b_M_layOrder 8 (some .boolean)
theorem k_M_layOrder : v_M_layOrder ∈ lwG := inG 1178 (by decide +kernel) (by decide +kernel)
abbrev b_M_has : ByteArray := prog_9_method_3_code
def y_M_has : MethodName := ⟨R_M, "has", "(II)Z"⟩
abbrev v_M_has : Cond := .code y_M_has b_M_has 3 (some .boolean)
theorem k_M_has : v_M_has ∈ lwG := inG 1182 (by decide +kernel) (by decide +kernel)
abbrev b_M_without : ByteArray := prog_9_method_58_code
def y_M_without : MethodName := ⟨R_M, "without", "(II)I"⟩
abbrev v_M_without : Cond := .code y_M_without b_M_without 5 (some .int)
theorem k_M_without : v_M_without ∈ lwG := inG 1186 (by decide +kernel) (by decide +kernel)
abbrev b_M_few : ByteArray := prog_9_method_59_code
def y_M_few : MethodName := ⟨R_M, "few", "(II)I"⟩
abbrev v_M_few : Cond := .code y_M_few b_M_few 6 (some .int)
theorem k_M_few : v_M_few ∈ lwG := inG 1190 (by decide +kernel) (by decide +kernel)
abbrev b_M_pitied : ByteArray := prog_9_method_60_code
def y_M_pitied : MethodName := ⟨R_M, "pitied", "(I)I"⟩
abbrev v_M_pitied : Cond := .code y_M_pitied b_M_pitied 8 (some .int)
theorem k_M_pitied : v_M_pitied ∈ lwG := inG 1194 (by decide +kernel) (by decide +kernel)
abbrev b_M_see : ByteArray := prog_9_method_61_code
def y_M_see : MethodName := ⟨R_M, "see", "(II)I"⟩
abbrev v_M_see : Cond := .code y_M_see b_M_see 3 (some .int)
theorem k_M_see : v_M_see ∈ lwG := inG 1198 (by decide +kernel) (by decide +kernel)
abbrev b_M_who : ByteArray := prog_9_method_63_code
def y_M_who : MethodName := ⟨R_M, "who", "()I"⟩
abbrev v_M_who : Cond := .code y_M_who b_M_who 5 (some .int)
theorem k_M_who : v_M_who ∈ lwG := inG 1202 (by decide +kernel) (by decide +kernel)
abbrev b_M_isSeen : ByteArray := prog_9_method_62_code
def y_M_isSeen : MethodName := ⟨R_M, "isSeen", "(II)Z"⟩
abbrev v_M_isSeen : Cond := .code y_M_isSeen b_M_isSeen 5 (some .boolean)
theorem k_M_isSeen : v_M_isSeen ∈ lwG := inG 1206 (by decide +kernel) (by decide +kernel)
abbrev b_M_odds : ByteArray := prog_9_method_66_code
def y_M_odds : MethodName := ⟨R_M, "odds", "(III)J"⟩
abbrev v_M_odds : Cond := .code y_M_odds b_M_odds 6 (some .long)
theorem k_M_odds : v_M_odds ∈ lwG := inG 1210 (by decide +kernel) (by decide +kernel)
abbrev b_M_lowest : ByteArray := prog_9_method_65_code
def y_M_lowest : MethodName := ⟨R_M, "lowest", "(III)J"⟩
abbrev v_M_lowest : Cond := .code y_M_lowest b_M_lowest 5 (some .long)
theorem k_M_lowest : v_M_lowest ∈ lwG := inG 1215 (by decide +kernel) (by decide +kernel)
abbrev b_M_divisor : ByteArray := prog_9_method_64_code
def y_M_divisor : MethodName := ⟨R_M, "divisor", "(II)I"⟩
abbrev v_M_divisor : Cond := .code y_M_divisor b_M_divisor 6 (some .int)
theorem k_M_divisor : v_M_divisor ∈ lwG := inG 1219 (by decide +kernel) (by decide +kernel)
abbrev b_M_mean : ByteArray := prog_9_method_67_code
def y_M_mean : MethodName := ⟨R_M, "mean", "(II)J"⟩
abbrev v_M_mean : Cond := .code y_M_mean b_M_mean 5 (some .long)
theorem k_M_mean : v_M_mean ∈ lwG := inG 1223 (by decide +kernel) (by decide +kernel)
abbrev b_M_book : ByteArray := prog_9_method_68_code
def y_M_book : MethodName := ⟨R_M, "book", "(I)I"⟩
abbrev v_M_book : Cond := .code y_M_book b_M_book 2 (some .int)
theorem k_M_book : v_M_book ∈ lwG := inG 1227 (by decide +kernel) (by decide +kernel)
abbrev b_M_looked : ByteArray := prog_9_method_69_code
def y_M_looked : MethodName := ⟨R_M, "looked", "()I"⟩
abbrev v_M_looked : Cond := .code y_M_looked b_M_looked 3 (some .int)
theorem k_M_looked : v_M_looked ∈ lwG := inG 1231 (by decide +kernel) (by decide +kernel)
abbrev b_M_judge : ByteArray := prog_9_method_70_code
def y_M_judge : MethodName := ⟨R_M, "judge", "(II)I"⟩
abbrev v_M_judge : Cond := .code y_M_judge b_M_judge 4 (some .int)
theorem k_M_judge : v_M_judge ∈ lwG := inG 1235 (by decide +kernel) (by decide +kernel)
abbrev b_M_isTape : ByteArray := prog_9_method_85_code
def y_M_isTape : MethodName := ⟨R_M, "isTape", "(I)Z"⟩
abbrev v_M_isTape : Cond := .code y_M_isTape b_M_isTape 2 (some .boolean)
theorem k_M_isTape : v_M_isTape ∈ lwG := inG 1239 (by decide +kernel) (by decide +kernel)
abbrev b_M_image : ByteArray := prog_9_method_71_code
def y_M_image : MethodName := ⟨R_M, "image", "()I"⟩
abbrev v_M_image : Cond := .code y_M_image b_M_image 2 (some .int)
theorem k_M_image : v_M_image ∈ lwG := inG 1243 (by decide +kernel) (by decide +kernel)
abbrev b_M_undo : ByteArray := prog_9_method_72_code
def y_M_undo : MethodName := ⟨R_M, "undo", "()I"⟩
abbrev v_M_undo : Cond := .code y_M_undo b_M_undo 2 (some .int)
theorem k_M_undo : v_M_undo ∈ lwG := inG 1247 (by decide +kernel) (by decide +kernel)
abbrev b_M_act : ByteArray := prog_9_method_81_code
def y_M_act : MethodName := ⟨R_M, "act", "(III)I"⟩
abbrev v_M_act : Cond := .code y_M_act b_M_act 4 (some .int)
theorem k_M_act : v_M_act ∈ lwG := inG 1251 (by decide +kernel) (by decide +kernel)
abbrev b_M_takesAct : ByteArray := prog_9_method_75_code
def y_M_takesAct : MethodName := ⟨R_M, "takesAct", "(II)I"⟩
abbrev v_M_takesAct : Cond := .code y_M_takesAct b_M_takesAct 3 (some .int)
theorem k_M_takesAct : v_M_takesAct ∈ lwG := inG 1255 (by decide +kernel) (by decide +kernel)
abbrev b_M_body : ByteArray := prog_9_method_73_code
def y_M_body : MethodName := ⟨R_M, "body", "(I)V"⟩
abbrev v_M_body : Cond := .code y_M_body b_M_body 2 none
theorem k_M_body : v_M_body ∈ lwG := inG 1259 (by decide +kernel) (by decide +kernel)
abbrev b_M_takerTakes : ByteArray := prog_9_method_74_code
def y_M_takerTakes : MethodName := ⟨R_M, "takerTakes", "(II)I"⟩
abbrev v_M_takerTakes : Cond := .code y_M_takerTakes b_M_takerTakes 3 (some .int)
theorem k_M_takerTakes : v_M_takerTakes ∈ lwG := inG 1263 (by decide +kernel) (by decide +kernel)
abbrev b_M_leavesAct : ByteArray := prog_9_method_78_code
def y_M_leavesAct : MethodName := ⟨R_M, "leavesAct", "(II)I"⟩
abbrev v_M_leavesAct : Cond := .code y_M_leavesAct b_M_leavesAct 4 (some .int)
theorem k_M_leavesAct : v_M_leavesAct ∈ lwG := inG 1267 (by decide +kernel) (by decide +kernel)
abbrev b_M_halverLeaves : ByteArray := prog_9_method_77_code
def y_M_halverLeaves : MethodName := ⟨R_M, "halverLeaves", "(II)I"⟩
abbrev v_M_halverLeaves : Cond := .code y_M_halverLeaves b_M_halverLeaves 3 (some .int)
theorem k_M_halverLeaves : v_M_halverLeaves ∈ lwG := inG 1271 (by decide +kernel) (by decide +kernel)
abbrev b_M_takerLeaves : ByteArray := prog_9_method_76_code
def y_M_takerLeaves : MethodName := ⟨R_M, "takerLeaves", "(II)I"⟩
abbrev v_M_takerLeaves : Cond := .code y_M_takerLeaves b_M_takerLeaves 3 (some .int)
theorem k_M_takerLeaves : v_M_takerLeaves ∈ lwG := inG 1275 (by decide +kernel) (by decide +kernel)
abbrev b_M_tellsAct : ByteArray := prog_9_method_80_code
def y_M_tellsAct : MethodName := ⟨R_M, "tellsAct", "(II)I"⟩
abbrev v_M_tellsAct : Cond := .code y_M_tellsAct b_M_tellsAct 4 (some .int)
theorem k_M_tellsAct : v_M_tellsAct ∈ lwG := inG 1279 (by decide +kernel) (by decide +kernel)
abbrev b_M_takerTells : ByteArray := prog_9_method_79_code
def y_M_takerTells : MethodName := ⟨R_M, "takerTells", "(II)I"⟩
abbrev v_M_takerTells : Cond := .code y_M_takerTells b_M_takerTells 3 (some .int)
theorem k_M_takerTells : v_M_takerTells ∈ lwG := inG 1283 (by decide +kernel) (by decide +kernel)
abbrev b_M_trace : ByteArray := prog_9_method_82_code
def y_M_trace : MethodName := ⟨R_M, "trace", "(I)I"⟩
abbrev v_M_trace : Cond := .code y_M_trace b_M_trace 2 (some .int)
theorem k_M_trace : v_M_trace ∈ lwG := inG 1287 (by decide +kernel) (by decide +kernel)
abbrev b_M_taken : ByteArray := prog_9_method_83_code
def y_M_taken : MethodName := ⟨R_M, "taken", "(II)I"⟩
abbrev v_M_taken : Cond := .code y_M_taken b_M_taken 4 (some .int)
theorem k_M_taken : v_M_taken ∈ lwG := inG 1291 (by decide +kernel) (by decide +kernel)
abbrev b_M_count : ByteArray := prog_9_method_84_code
def y_M_count : MethodName := ⟨R_M, "count", "(I)I"⟩
abbrev v_M_count : Cond := .code y_M_count b_M_count 2 (some .int)
theorem k_M_count : v_M_count ∈ lwG := inG 1295 (by decide +kernel) (by decide +kernel)
abbrev b_M_tape : ByteArray := prog_9_method_86_code
def y_M_tape : MethodName := ⟨R_M, "tape", "(III)I"⟩
abbrev v_M_tape : Cond := .code y_M_tape b_M_tape 5 (some .int)
theorem k_M_tape : v_M_tape ∈ lwG := inG 1299 (by decide +kernel) (by decide +kernel)
abbrev b_M_item : ByteArray := prog_9_method_88_code
def y_M_item : MethodName := ⟨R_M, "item", "(IIJ)I"⟩
abbrev v_M_item : Cond := .code y_M_item b_M_item 5 (some .int)
theorem k_M_item : v_M_item ∈ lwG := inG 1303 (by decide +kernel) (by decide +kernel)
abbrev b_M_narrow : ByteArray := prog_9_method_87_code
def y_M_narrow : MethodName := ⟨R_M, "narrow", "(IJ)J"⟩
abbrev v_M_narrow : Cond := .code y_M_narrow b_M_narrow 4 (some .long)
theorem k_M_narrow : v_M_narrow ∈ lwG := inG 1307 (by decide +kernel) (by decide +kernel)
abbrev b_M_read : ByteArray := prog_9_method_89_code
def y_M_read : MethodName := ⟨R_M, "read", "(II)J"⟩
abbrev v_M_read : Cond := .code y_M_read b_M_read 3 (some .long)
theorem k_M_read : v_M_read ∈ lwG := inG 1311 (by decide +kernel) (by decide +kernel)
abbrev b_M_shift : ByteArray := prog_9_method_90_code
def y_M_shift : MethodName := ⟨R_M, "shift", "(IIIII)I"⟩
abbrev v_M_shift : Cond := .code y_M_shift b_M_shift 7 (some .int)
theorem k_M_shift : v_M_shift ∈ lwG := inG 1315 (by decide +kernel) (by decide +kernel)
