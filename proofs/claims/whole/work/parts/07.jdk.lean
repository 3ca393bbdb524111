/-! ===== the JDK's own methods: texts of the class file, rows filled ===== -/
theorem d_jS_coder_0 : decode b_jS_coder 0 = .ok (.getstatic 38, 3) := by decide +kernel
theorem d_jS_coder_3 : decode b_jS_coder 3 = .ok (.ifCond .eq 10, 3) := by decide +kernel
theorem d_jS_coder_6 : decode b_jS_coder 6 = .ok (.aload_n 0, 1) := by decide +kernel
theorem d_jS_coder_7 : decode b_jS_coder 7 = .ok (.getfield 15, 3) := by decide +kernel
theorem d_jS_coder_10 : decode b_jS_coder 10 = .ok (.goto 4, 3) := by decide +kernel
theorem d_jS_coder_13 : decode b_jS_coder 13 = .ok (.iconst 1, 1) := by decide +kernel
theorem d_jS_coder_14 : decode b_jS_coder 14 = .ok (.ireturn, 1) := by decide +kernel
theorem d_jS_length_0 : decode b_jS_length 0 = .ok (.aload_n 0, 1) := by decide +kernel
theorem d_jS_length_1 : decode b_jS_length 1 = .ok (.getfield 9, 3) := by decide +kernel
theorem d_jS_length_4 : decode b_jS_length 4 = .ok (.arraylength, 1) := by decide +kernel
theorem d_jS_length_5 : decode b_jS_length 5 = .ok (.aload_n 0, 1) := by decide +kernel
theorem d_jS_length_6 : decode b_jS_length 6 = .ok (.invokevirtual 335, 3) := by decide +kernel
theorem d_jS_length_9 : decode b_jS_length 9 = .ok (.ishr, 1) := by decide +kernel
theorem d_jS_length_10 : decode b_jS_length 10 = .ok (.ireturn, 1) := by decide +kernel
theorem wc_jS_335 : ∀ w ∈ ([.methodLink R_jS 335 y_jS_coder, .instanceMethod y_jS_coder, .selects R_jS y_jS_coder y_jS_coder, .initialized R_jS, v_jS_coder] : List Cond), w ∈ lwG := List.forall_mem_cons.mpr ⟨inG 73 (by decide +kernel) (by decide +kernel), List.forall_mem_cons.mpr ⟨inG 74 (by decide +kernel) (by decide +kernel), List.forall_mem_cons.mpr ⟨inG 75 (by decide +kernel) (by decide +kernel), List.forall_mem_cons.mpr ⟨inG 4 (by decide +kernel) (by decide +kernel), List.forall_mem_cons.mpr ⟨k_jS_coder, fun _ h => absurd h List.not_mem_nil⟩⟩⟩⟩⟩
theorem d_jS_isLatin1_0 : decode b_jS_isLatin1 0 = .ok (.getstatic 38, 3) := by decide +kernel
theorem d_jS_isLatin1_3 : decode b_jS_isLatin1 3 = .ok (.ifCond .eq 14, 3) := by decide +kernel
theorem d_jS_isLatin1_6 : decode b_jS_isLatin1 6 = .ok (.aload_n 0, 1) := by decide +kernel
theorem d_jS_isLatin1_7 : decode b_jS_isLatin1 7 = .ok (.getfield 15, 3) := by decide +kernel
theorem d_jS_isLatin1_10 : decode b_jS_isLatin1 10 = .ok (.ifCond .ne 7, 3) := by decide +kernel
theorem d_jS_isLatin1_13 : decode b_jS_isLatin1 13 = .ok (.iconst 1, 1) := by decide +kernel
theorem d_jS_isLatin1_14 : decode b_jS_isLatin1 14 = .ok (.goto 4, 3) := by decide +kernel
theorem d_jS_isLatin1_17 : decode b_jS_isLatin1 17 = .ok (.iconst 0, 1) := by decide +kernel
theorem d_jS_isLatin1_18 : decode b_jS_isLatin1 18 = .ok (.ireturn, 1) := by decide +kernel
theorem d_jP_checkIndex_0 : decode b_jP_checkIndex 0 = .ok (.iload_n 0, 1) := by decide +kernel
theorem d_jP_checkIndex_1 : decode b_jP_checkIndex 1 = .ok (.ifCond .lt 8, 3) := by decide +kernel
theorem d_jP_checkIndex_4 : decode b_jP_checkIndex 4 = .ok (.iload_n 0, 1) := by decide +kernel
theorem d_jP_checkIndex_5 : decode b_jP_checkIndex 5 = .ok (.iload_n 1, 1) := by decide +kernel
theorem d_jP_checkIndex_6 : decode b_jP_checkIndex 6 = .ok (.if_icmp .lt 10, 3) := by decide +kernel
theorem d_jP_checkIndex_9 : decode b_jP_checkIndex 9 = .ok (.aload_n 2, 1) := by decide +kernel
theorem d_jP_checkIndex_10 : decode b_jP_checkIndex 10 = .ok (.iload_n 0, 1) := by decide +kernel
theorem d_jP_checkIndex_11 : decode b_jP_checkIndex 11 = .ok (.iload_n 1, 1) := by decide +kernel
theorem d_jP_checkIndex_16 : decode b_jP_checkIndex 16 = .ok (.iload_n 0, 1) := by decide +kernel
theorem d_jP_checkIndex_17 : decode b_jP_checkIndex 17 = .ok (.ireturn, 1) := by decide +kernel
theorem d_jS_checkIndex_0 : decode b_jS_checkIndex 0 = .ok (.iload_n 0, 1) := by decide +kernel
theorem d_jS_checkIndex_1 : decode b_jS_checkIndex 1 = .ok (.iload_n 1, 1) := by decide +kernel
theorem d_jS_checkIndex_2 : decode b_jS_checkIndex 2 = .ok (.getstatic 1053, 3) := by decide +kernel
theorem d_jS_checkIndex_5 : decode b_jS_checkIndex 5 = .ok (.invokestatic 1059, 3) := by decide +kernel
theorem d_jS_checkIndex_8 : decode b_jS_checkIndex 8 = .ok (.pop, 1) := by decide +kernel
theorem d_jS_checkIndex_9 : decode b_jS_checkIndex 9 = .ok (.return_, 1) := by decide +kernel
theorem wc_jS_1059 : ∀ w ∈ ([.methodLink R_jS 1059 y_jP_checkIndex, .static y_jP_checkIndex, .initialized (y_jP_checkIndex).cls, v_jP_checkIndex] : List Cond), w ∈ lwG := List.forall_mem_cons.mpr ⟨inG 379 (by decide +kernel) (by decide +kernel), List.forall_mem_cons.mpr ⟨inG 380 (by decide +kernel) (by decide +kernel), List.forall_mem_cons.mpr ⟨inG 11 (by decide +kernel) (by decide +kernel), List.forall_mem_cons.mpr ⟨k_jP_checkIndex, fun _ h => absurd h List.not_mem_nil⟩⟩⟩⟩
theorem d_jL_charAt_0 : decode b_jL_charAt 0 = .ok (.iload_n 1, 1) := by decide +kernel
theorem d_jL_charAt_1 : decode b_jL_charAt 1 = .ok (.aload_n 0, 1) := by decide +kernel
theorem d_jL_charAt_2 : decode b_jL_charAt 2 = .ok (.arraylength, 1) := by decide +kernel
theorem d_jL_charAt_3 : decode b_jL_charAt 3 = .ok (.invokestatic 9, 3) := by decide +kernel
theorem d_jL_charAt_6 : decode b_jL_charAt 6 = .ok (.aload_n 0, 1) := by decide +kernel
theorem d_jL_charAt_7 : decode b_jL_charAt 7 = .ok (.iload_n 1, 1) := by decide +kernel
theorem d_jL_charAt_8 : decode b_jL_charAt 8 = .ok (.baload, 1) := by decide +kernel
theorem d_jL_charAt_9 : decode b_jL_charAt 9 = .ok (.sipush 255, 3) := by decide +kernel
theorem d_jL_charAt_12 : decode b_jL_charAt 12 = .ok (.iand, 1) := by decide +kernel
theorem d_jL_charAt_13 : decode b_jL_charAt 13 = .ok (.i2c, 1) := by decide +kernel
theorem d_jL_charAt_14 : decode b_jL_charAt 14 = .ok (.ireturn, 1) := by decide +kernel
theorem wc_jL_9 : ∀ w ∈ ([.methodLink R_jL 9 y_jS_checkIndex, .static y_jS_checkIndex, .initialized (y_jS_checkIndex).cls, v_jS_checkIndex] : List Cond), w ∈ lwG := List.forall_mem_cons.mpr ⟨inG 374 (by decide +kernel) (by decide +kernel), List.forall_mem_cons.mpr ⟨inG 375 (by decide +kernel) (by decide +kernel), List.forall_mem_cons.mpr ⟨inG 4 (by decide +kernel) (by decide +kernel), List.forall_mem_cons.mpr ⟨k_jS_checkIndex, fun _ h => absurd h List.not_mem_nil⟩⟩⟩⟩
theorem d_jS_charAt_0 : decode b_jS_charAt 0 = .ok (.aload_n 0, 1) := by decide +kernel
theorem d_jS_charAt_1 : decode b_jS_charAt 1 = .ok (.invokevirtual 492, 3) := by decide +kernel
theorem d_jS_charAt_4 : decode b_jS_charAt 4 = .ok (.ifCond .eq 12, 3) := by decide +kernel
theorem d_jS_charAt_7 : decode b_jS_charAt 7 = .ok (.aload_n 0, 1) := by decide +kernel
theorem d_jS_charAt_8 : decode b_jS_charAt 8 = .ok (.getfield 9, 3) := by decide +kernel
theorem d_jS_charAt_11 : decode b_jS_charAt 11 = .ok (.iload_n 1, 1) := by decide +kernel
theorem d_jS_charAt_12 : decode b_jS_charAt 12 = .ok (.invokestatic 495, 3) := by decide +kernel
theorem d_jS_charAt_15 : decode b_jS_charAt 15 = .ok (.ireturn, 1) := by decide +kernel
theorem d_jS_charAt_16 : decode b_jS_charAt 16 = .ok (.aload_n 0, 1) := by decide +kernel
theorem d_jS_charAt_17 : decode b_jS_charAt 17 = .ok (.getfield 9, 3) := by decide +kernel
theorem d_jS_charAt_20 : decode b_jS_charAt 20 = .ok (.iload_n 1, 1) := by decide +kernel
theorem d_jS_charAt_24 : decode b_jS_charAt 24 = .ok (.ireturn, 1) := by decide +kernel
theorem wc_jS_492 : ∀ w ∈ ([.methodLink R_jS 492 y_jS_isLatin1, .instanceMethod y_jS_isLatin1, .selects R_jS y_jS_isLatin1 y_jS_isLatin1, .initialized R_jS, v_jS_isLatin1] : List Cond), w ∈ lwG := List.forall_mem_cons.mpr ⟨inG 367 (by decide +kernel) (by decide +kernel), List.forall_mem_cons.mpr ⟨inG 368 (by decide +kernel) (by decide +kernel), List.forall_mem_cons.mpr ⟨inG 369 (by decide +kernel) (by decide +kernel), List.forall_mem_cons.mpr ⟨inG 4 (by decide +kernel) (by decide +kernel), List.forall_mem_cons.mpr ⟨k_jS_isLatin1, fun _ h => absurd h List.not_mem_nil⟩⟩⟩⟩⟩
theorem wc_jS_495 : ∀ w ∈ ([.methodLink R_jS 495 y_jL_charAt, .static y_jL_charAt, .initialized (y_jL_charAt).cls, v_jL_charAt] : List Cond), w ∈ lwG := List.forall_mem_cons.mpr ⟨inG 371 (by decide +kernel) (by decide +kernel), List.forall_mem_cons.mpr ⟨inG 372 (by decide +kernel) (by decide +kernel), List.forall_mem_cons.mpr ⟨inG 10 (by decide +kernel) (by decide +kernel), List.forall_mem_cons.mpr ⟨k_jL_charAt, fun _ h => absurd h List.not_mem_nil⟩⟩⟩⟩
theorem d_jL_canEncode_0 : decode b_jL_canEncode 0 = .ok (.iload_n 0, 1) := by decide +kernel
theorem d_jL_canEncode_1 : decode b_jL_canEncode 1 = .ok (.ifCond .lt 14, 3) := by decide +kernel
theorem d_jL_canEncode_4 : decode b_jL_canEncode 4 = .ok (.iload_n 0, 1) := by decide +kernel
theorem d_jL_canEncode_5 : decode b_jL_canEncode 5 = .ok (.sipush 255, 3) := by decide +kernel
theorem d_jL_canEncode_8 : decode b_jL_canEncode 8 = .ok (.if_icmp .gt 7, 3) := by decide +kernel
theorem d_jL_canEncode_11 : decode b_jL_canEncode 11 = .ok (.iconst 1, 1) := by decide +kernel
theorem d_jL_canEncode_12 : decode b_jL_canEncode 12 = .ok (.goto 4, 3) := by decide +kernel
theorem d_jL_canEncode_15 : decode b_jL_canEncode 15 = .ok (.iconst 0, 1) := by decide +kernel
theorem d_jL_canEncode_16 : decode b_jL_canEncode 16 = .ok (.ireturn, 1) := by decide +kernel
theorem d_jL_indexOfChar_0 : decode b_jL_indexOfChar 0 = .ok (.iload_n 1, 1) := by decide +kernel
theorem d_jL_indexOfChar_1 : decode b_jL_indexOfChar 1 = .ok (.i2b, 1) := by decide +kernel
theorem d_jL_indexOfChar_2 : decode b_jL_indexOfChar 2 = .ok (.istore 4, 2) := by decide +kernel
theorem d_jL_indexOfChar_4 : decode b_jL_indexOfChar 4 = .ok (.iload_n 2, 1) := by decide +kernel
theorem d_jL_indexOfChar_5 : decode b_jL_indexOfChar 5 = .ok (.istore 5, 2) := by decide +kernel
theorem d_jL_indexOfChar_7 : decode b_jL_indexOfChar 7 = .ok (.iload 5, 2) := by decide +kernel
theorem d_jL_indexOfChar_9 : decode b_jL_indexOfChar 9 = .ok (.iload_n 3, 1) := by decide +kernel
theorem d_jL_indexOfChar_10 : decode b_jL_indexOfChar 10 = .ok (.if_icmp .ge 21, 3) := by decide +kernel
theorem d_jL_indexOfChar_13 : decode b_jL_indexOfChar 13 = .ok (.aload_n 0, 1) := by decide +kernel
theorem d_jL_indexOfChar_14 : decode b_jL_indexOfChar 14 = .ok (.iload 5, 2) := by decide +kernel
theorem d_jL_indexOfChar_16 : decode b_jL_indexOfChar 16 = .ok (.baload, 1) := by decide +kernel
theorem d_jL_indexOfChar_17 : decode b_jL_indexOfChar 17 = .ok (.iload 4, 2) := by decide +kernel
theorem d_jL_indexOfChar_19 : decode b_jL_indexOfChar 19 = .ok (.if_icmp .ne 6, 3) := by decide +kernel
theorem d_jL_indexOfChar_22 : decode b_jL_indexOfChar 22 = .ok (.iload 5, 2) := by decide +kernel
theorem d_jL_indexOfChar_24 : decode b_jL_indexOfChar 24 = .ok (.ireturn, 1) := by decide +kernel
theorem d_jL_indexOfChar_25 : decode b_jL_indexOfChar 25 = .ok (.iinc 5 1, 3) := by decide +kernel
theorem d_jL_indexOfChar_28 : decode b_jL_indexOfChar 28 = .ok (.goto (-21), 3) := by decide +kernel
theorem d_jL_indexOfChar_31 : decode b_jL_indexOfChar 31 = .ok (.iconst (-1), 1) := by decide +kernel
theorem d_jL_indexOfChar_32 : decode b_jL_indexOfChar 32 = .ok (.ireturn, 1) := by decide +kernel
theorem d_jL_indexOf_0 : decode b_jL_indexOf 0 = .ok (.iload_n 1, 1) := by decide +kernel
theorem d_jL_indexOf_1 : decode b_jL_indexOf 1 = .ok (.invokestatic 88, 3) := by decide +kernel
theorem d_jL_indexOf_4 : decode b_jL_indexOf 4 = .ok (.ifCond .ne 5, 3) := by decide +kernel
theorem d_jL_indexOf_7 : decode b_jL_indexOf 7 = .ok (.iconst (-1), 1) := by decide +kernel
theorem d_jL_indexOf_8 : decode b_jL_indexOf 8 = .ok (.ireturn, 1) := by decide +kernel
theorem d_jL_indexOf_9 : decode b_jL_indexOf 9 = .ok (.iload_n 2, 1) := by decide +kernel
theorem d_jL_indexOf_10 : decode b_jL_indexOf 10 = .ok (.iconst 0, 1) := by decide +kernel
theorem d_jL_indexOf_11 : decode b_jL_indexOf 11 = .ok (.invokestatic 92, 3) := by decide +kernel
theorem d_jL_indexOf_14 : decode b_jL_indexOf 14 = .ok (.istore_n 2, 1) := by decide +kernel
theorem d_jL_indexOf_15 : decode b_jL_indexOf 15 = .ok (.iload_n 3, 1) := by decide +kernel
theorem d_jL_indexOf_16 : decode b_jL_indexOf 16 = .ok (.aload_n 0, 1) := by decide +kernel
theorem d_jL_indexOf_17 : decode b_jL_indexOf 17 = .ok (.arraylength, 1) := by decide +kernel
theorem d_jL_indexOf_18 : decode b_jL_indexOf 18 = .ok (.invokestatic 38, 3) := by decide +kernel
theorem d_jL_indexOf_21 : decode b_jL_indexOf 21 = .ok (.istore_n 3, 1) := by decide +kernel
theorem d_jL_indexOf_22 : decode b_jL_indexOf 22 = .ok (.iload_n 2, 1) := by decide +kernel
theorem d_jL_indexOf_23 : decode b_jL_indexOf 23 = .ok (.iload_n 3, 1) := by decide +kernel
theorem d_jL_indexOf_24 : decode b_jL_indexOf 24 = .ok (.if_icmp .lt 5, 3) := by decide +kernel
theorem d_jL_indexOf_27 : decode b_jL_indexOf 27 = .ok (.iconst (-1), 1) := by decide +kernel
theorem d_jL_indexOf_28 : decode b_jL_indexOf 28 = .ok (.ireturn, 1) := by decide +kernel
theorem d_jL_indexOf_29 : decode b_jL_indexOf 29 = .ok (.aload_n 0, 1) := by decide +kernel
theorem d_jL_indexOf_30 : decode b_jL_indexOf 30 = .ok (.iload_n 1, 1) := by decide +kernel
theorem d_jL_indexOf_31 : decode b_jL_indexOf 31 = .ok (.iload_n 2, 1) := by decide +kernel
theorem d_jL_indexOf_32 : decode b_jL_indexOf 32 = .ok (.iload_n 3, 1) := by decide +kernel
theorem d_jL_indexOf_33 : decode b_jL_indexOf 33 = .ok (.invokestatic 95, 3) := by decide +kernel
theorem d_jL_indexOf_36 : decode b_jL_indexOf 36 = .ok (.ireturn, 1) := by decide +kernel
theorem wc_jL_88 : ∀ w ∈ ([.methodLink R_jL 88 y_jL_canEncode, .static y_jL_canEncode, .initialized (y_jL_canEncode).cls, v_jL_canEncode] : List Cond), w ∈ lwG := List.forall_mem_cons.mpr ⟨inG 445 (by decide +kernel) (by decide +kernel), List.forall_mem_cons.mpr ⟨inG 446 (by decide +kernel) (by decide +kernel), List.forall_mem_cons.mpr ⟨inG 10 (by decide +kernel) (by decide +kernel), List.forall_mem_cons.mpr ⟨k_jL_canEncode, fun _ h => absurd h List.not_mem_nil⟩⟩⟩⟩
theorem wc_jL_92 : ∀ w ∈ ([.methodLink R_jL 92 Lib.Math.max.name, .static Lib.Math.max.name, .initialized "java/lang/Math", .code Lib.Math.max.name Lib.Math.max.code 2 (some .int)] : List Cond), w ∈ lwG := List.forall_mem_cons.mpr ⟨inG 448 (by decide +kernel) (by decide +kernel), List.forall_mem_cons.mpr ⟨inG 449 (by decide +kernel) (by decide +kernel), List.forall_mem_cons.mpr ⟨inG 13 (by decide +kernel) (by decide +kernel), List.forall_mem_cons.mpr ⟨inG 450 (by decide +kernel) (by decide +kernel), fun _ h => absurd h List.not_mem_nil⟩⟩⟩⟩
theorem wc_jL_38 : ∀ w ∈ ([.methodLink R_jL 38 Lib.Math.min.name, .static Lib.Math.min.name, .initialized "java/lang/Math", .code Lib.Math.min.name Lib.Math.min.code 2 (some .int)] : List Cond), w ∈ lwG := List.forall_mem_cons.mpr ⟨inG 451 (by decide +kernel) (by decide +kernel), List.forall_mem_cons.mpr ⟨inG 452 (by decide +kernel) (by decide +kernel), List.forall_mem_cons.mpr ⟨inG 13 (by decide +kernel) (by decide +kernel), List.forall_mem_cons.mpr ⟨inG 453 (by decide +kernel) (by decide +kernel), fun _ h => absurd h List.not_mem_nil⟩⟩⟩⟩
theorem wc_jL_95 : ∀ w ∈ ([.methodLink R_jL 95 y_jL_indexOfChar, .static y_jL_indexOfChar, .initialized (y_jL_indexOfChar).cls, v_jL_indexOfChar] : List Cond), w ∈ lwG := List.forall_mem_cons.mpr ⟨inG 454 (by decide +kernel) (by decide +kernel), List.forall_mem_cons.mpr ⟨inG 455 (by decide +kernel) (by decide +kernel), List.forall_mem_cons.mpr ⟨inG 10 (by decide +kernel) (by decide +kernel), List.forall_mem_cons.mpr ⟨k_jL_indexOfChar, fun _ h => absurd h List.not_mem_nil⟩⟩⟩⟩
theorem d_jS_indexOf_2_0 : decode b_jS_indexOf_2 0 = .ok (.aload_n 0, 1) := by decide +kernel
theorem d_jS_indexOf_2_1 : decode b_jS_indexOf_2 1 = .ok (.invokevirtual 492, 3) := by decide +kernel
theorem d_jS_indexOf_2_4 : decode b_jS_indexOf_2 4 = .ok (.ifCond .eq 19, 3) := by decide +kernel
theorem d_jS_indexOf_2_7 : decode b_jS_indexOf_2 7 = .ok (.aload_n 0, 1) := by decide +kernel
theorem d_jS_indexOf_2_8 : decode b_jS_indexOf_2 8 = .ok (.getfield 9, 3) := by decide +kernel
theorem d_jS_indexOf_2_11 : decode b_jS_indexOf_2 11 = .ok (.iload_n 1, 1) := by decide +kernel
theorem d_jS_indexOf_2_12 : decode b_jS_indexOf_2 12 = .ok (.iload_n 2, 1) := by decide +kernel
theorem d_jS_indexOf_2_13 : decode b_jS_indexOf_2 13 = .ok (.aload_n 0, 1) := by decide +kernel
theorem d_jS_indexOf_2_14 : decode b_jS_indexOf_2 14 = .ok (.invokevirtual 505, 3) := by decide +kernel
theorem d_jS_indexOf_2_17 : decode b_jS_indexOf_2 17 = .ok (.invokestatic 637, 3) := by decide +kernel
theorem d_jS_indexOf_2_20 : decode b_jS_indexOf_2 20 = .ok (.goto 16, 3) := by decide +kernel
theorem d_jS_indexOf_2_23 : decode b_jS_indexOf_2 23 = .ok (.aload_n 0, 1) := by decide +kernel
theorem d_jS_indexOf_2_24 : decode b_jS_indexOf_2 24 = .ok (.getfield 9, 3) := by decide +kernel
theorem d_jS_indexOf_2_27 : decode b_jS_indexOf_2 27 = .ok (.iload_n 1, 1) := by decide +kernel
theorem d_jS_indexOf_2_28 : decode b_jS_indexOf_2 28 = .ok (.iload_n 2, 1) := by decide +kernel
theorem d_jS_indexOf_2_29 : decode b_jS_indexOf_2 29 = .ok (.aload_n 0, 1) := by decide +kernel
theorem d_jS_indexOf_2_30 : decode b_jS_indexOf_2 30 = .ok (.invokevirtual 505, 3) := by decide +kernel
theorem d_jS_indexOf_2_36 : decode b_jS_indexOf_2 36 = .ok (.ireturn, 1) := by decide +kernel
theorem wc_jS_505 : ∀ w ∈ ([.methodLink R_jS 505 y_jS_length, .instanceMethod y_jS_length, .selects R_jS y_jS_length y_jS_length, .initialized R_jS, v_jS_length] : List Cond), w ∈ lwG := List.forall_mem_cons.mpr ⟨inG 441 (by decide +kernel) (by decide +kernel), List.forall_mem_cons.mpr ⟨inG 70 (by decide +kernel) (by decide +kernel), List.forall_mem_cons.mpr ⟨inG 71 (by decide +kernel) (by decide +kernel), List.forall_mem_cons.mpr ⟨inG 4 (by decide +kernel) (by decide +kernel), List.forall_mem_cons.mpr ⟨k_jS_length, fun _ h => absurd h List.not_mem_nil⟩⟩⟩⟩⟩
theorem wc_jS_637 : ∀ w ∈ ([.methodLink R_jS 637 y_jL_indexOf, .static y_jL_indexOf, .initialized (y_jL_indexOf).cls, v_jL_indexOf] : List Cond), w ∈ lwG := List.forall_mem_cons.mpr ⟨inG 442 (by decide +kernel) (by decide +kernel), List.forall_mem_cons.mpr ⟨inG 443 (by decide +kernel) (by decide +kernel), List.forall_mem_cons.mpr ⟨inG 10 (by decide +kernel) (by decide +kernel), List.forall_mem_cons.mpr ⟨k_jL_indexOf, fun _ h => absurd h List.not_mem_nil⟩⟩⟩⟩
theorem d_jS_indexOf_1_0 : decode b_jS_indexOf_1 0 = .ok (.aload_n 0, 1) := by decide +kernel
theorem d_jS_indexOf_1_1 : decode b_jS_indexOf_1 1 = .ok (.iload_n 1, 1) := by decide +kernel
theorem d_jS_indexOf_1_2 : decode b_jS_indexOf_1 2 = .ok (.iconst 0, 1) := by decide +kernel
theorem d_jS_indexOf_1_3 : decode b_jS_indexOf_1 3 = .ok (.invokevirtual 633, 3) := by decide +kernel
theorem d_jS_indexOf_1_6 : decode b_jS_indexOf_1 6 = .ok (.ireturn, 1) := by decide +kernel
theorem wc_jS_633 : ∀ w ∈ ([.methodLink R_jS 633 y_jS_indexOf_2, .instanceMethod y_jS_indexOf_2, .selects R_jS y_jS_indexOf_2 y_jS_indexOf_2, .initialized R_jS, v_jS_indexOf_2] : List Cond), w ∈ lwG := List.forall_mem_cons.mpr ⟨inG 437 (by decide +kernel) (by decide +kernel), List.forall_mem_cons.mpr ⟨inG 438 (by decide +kernel) (by decide +kernel), List.forall_mem_cons.mpr ⟨inG 439 (by decide +kernel) (by decide +kernel), List.forall_mem_cons.mpr ⟨inG 4 (by decide +kernel) (by decide +kernel), List.forall_mem_cons.mpr ⟨k_jS_indexOf_2, fun _ h => absurd h List.not_mem_nil⟩⟩⟩⟩⟩
theorem d_jA_fill_0 : decode b_jA_fill 0 = .ok (.iconst 0, 1) := by decide +kernel
theorem d_jA_fill_1 : decode b_jA_fill 1 = .ok (.istore_n 3, 1) := by decide +kernel
theorem d_jA_fill_2 : decode b_jA_fill 2 = .ok (.aload_n 0, 1) := by decide +kernel
theorem d_jA_fill_3 : decode b_jA_fill 3 = .ok (.arraylength, 1) := by decide +kernel
theorem d_jA_fill_4 : decode b_jA_fill 4 = .ok (.istore 4, 2) := by decide +kernel
theorem d_jA_fill_6 : decode b_jA_fill 6 = .ok (.iload_n 3, 1) := by decide +kernel
theorem d_jA_fill_7 : decode b_jA_fill 7 = .ok (.iload 4, 2) := by decide +kernel
theorem d_jA_fill_9 : decode b_jA_fill 9 = .ok (.if_icmp .ge 13, 3) := by decide +kernel
theorem d_jA_fill_12 : decode b_jA_fill 12 = .ok (.aload_n 0, 1) := by decide +kernel
theorem d_jA_fill_13 : decode b_jA_fill 13 = .ok (.iload_n 3, 1) := by decide +kernel
theorem d_jA_fill_14 : decode b_jA_fill 14 = .ok (.lload_n 1, 1) := by decide +kernel
theorem d_jA_fill_15 : decode b_jA_fill 15 = .ok (.lastore, 1) := by decide +kernel
theorem d_jA_fill_16 : decode b_jA_fill 16 = .ok (.iinc 3 1, 3) := by decide +kernel
theorem d_jA_fill_19 : decode b_jA_fill 19 = .ok (.goto (-13), 3) := by decide +kernel
theorem d_jA_fill_22 : decode b_jA_fill 22 = .ok (.return_, 1) := by decide +kernel
def f_jS_coder (c0 : Nat) : Option (Int32) := (if (1 : Int32) = 0 then some 1 else some (0 : Int32))
set_option maxHeartbeats 400000 in
set_option maxRecDepth 20000 in
theorem c_jS_coder (g : GX) (c0 : Nat) (hc0 : c0 < 5) (σ : St) (q : Int32) (h : f_jS_coder c0 = some q) (l : Launch) : CT BX l y_jS_coder (v_jS_coder :: lwG) 1 [.ref (g.2.1 (1000 + c0))] g σ (QI BX g (q, σ)) := by
  refine mkC (cc := b_jS_coder) (maxL := 1) (ret := (some .byte)) rfl (by decide) rfl (Nat.le_of_ble_eq_true rfl) ?_
  intro p e s m args below meth c A ls C hl hw
  obtain ⟨hx, hb, hr, hml, hown, hts, hK, hE, hA, hlk⟩ := id C
  replace hl : lv_has ls 1 [(0, .ref (g.2.1 (1000 + c0)))] := hl
  obtain ⟨H, hH⟩ : ∃ z, z = s.heap := ⟨_, rfl⟩
  rw [← hH] at hw ⊢
  obtain ⟨locs, hlo⟩ : ∃ z : List Loc, z = [] := ⟨_, rfl⟩
  rw [← hlo] at hw ⊢
  unfold f_jS_coder at h
  refine va_gets hx hb (hE rfl).2.2.2.1 hw.2.2 hown (hts _ wj_38) (fun _ h9 => h9) d_jS_coder_0 ?_
  refine lv_if_eq (tgt := 13) hx hb d_jS_coder_3 (by decide) (fun b1 => ?_) (fun b1 => ?_)
  · replace h := ifp b1 h
    refine lv_iconst (v := 1) hx hb d_jS_coder_13 (by decide) ?_
    exact retN C hw rfl rfl (congrArg (fun z => (z, σ)) (Option.some.inj h)) d_jS_coder_14
  · replace h := ifn b1 h
    refine lv_aload_n hx hb d_jS_coder_6 rfl (lv_at hl 0 rfl) ?_
    refine vk_getf hx hb ((hE rfl).2.2.1.1 c0 hc0).2.1 hw.2.2 hown (hts _ wj_15) (fun _ h9 => h9) d_jS_coder_7 ?_
    refine lv_goto (tgt := 14) hx hb d_jS_coder_10 (by decide) ?_
    exact retN C hw rfl rfl (congrArg (fun z => (z, σ)) (Option.some.inj h)) d_jS_coder_14
def f_jS_length (c0 : Nat) : Option (Int32) := ((f_jS_coder c0).bind fun q1 => some ((nI (slen c0)) >>> (q1 &&& (31 : Int32))))
set_option maxHeartbeats 400000 in
set_option maxRecDepth 20000 in
theorem c_jS_length (g : GX) (c0 : Nat) (hc0 : c0 < 5) (σ : St) (q : Int32) (h : f_jS_length c0 = some q) (l : Launch) : CT BX l y_jS_length (v_jS_length :: lwG) 2 [.ref (g.2.1 (1000 + c0))] g σ (QI BX g (q, σ)) := by
  refine mkC (cc := b_jS_length) (maxL := 1) (ret := (some .int)) rfl (by decide) rfl (Nat.le_of_ble_eq_true rfl) ?_
  intro p e s m args below meth c A ls C hl hw
  obtain ⟨hx, hb, hr, hml, hown, hts, hK, hE, hA, hlk⟩ := id C
  replace hl : lv_has ls 1 [(0, .ref (g.2.1 (1000 + c0)))] := hl
  obtain ⟨H, hH⟩ : ∃ z, z = s.heap := ⟨_, rfl⟩
  rw [← hH] at hw ⊢
  obtain ⟨locs, hlo⟩ : ∃ z : List Loc, z = [] := ⟨_, rfl⟩
  rw [← hlo] at hw ⊢
  unfold f_jS_length at h
  refine lv_aload_n hx hb d_jS_length_0 rfl (lv_at hl 0 rfl) ?_
  refine vk_getf hx hb ((hE rfl).2.2.1.1 c0 hc0).2.2.1 hw.2.2 hown (hts _ wj_9) (fun _ h9 => h9) d_jS_length_1 ?_
  refine va_tlen (v := nI (slen c0)) hx hb ((hE rfl).2.2.1.1 c0 hc0).2.2.2 hw.2.2 rfl d_jS_length_4 ?_
  refine lv_aload_n hx hb d_jS_length_5 rfl (lv_at hl 0 rfl) ?_
  refine bnd h (fun q1 k2 h => ?_)
  refine clI0 (v := q1) C hw (invV (As := []) C hw (c_jS_coder g c0 hc0 σ q1 k2 l) rfl wc_jS_335 nd_jS_coder ⟨by decide, by decide⟩ (vk_recv (adK := fun i => g.2.1 (1000 + i)) (i := c0) (hE rfl).2.2.1 hc0 hw.2.2) rfl hl.1 rfl (Nat.le_of_ble_eq_true rfl) d_jS_length_6 ⟨Nat.le_refl _, Nat.le_refl _⟩) (fun H locs hw => ?_)
  refine lv_ishr hx hb d_jS_length_9 ?_
  exact retI C hw rfl (congrArg (fun z => (z, σ)) (Option.some.inj h)) d_jS_length_10
def f_jS_isLatin1 (c0 : Nat) : Option (Bool) := (if (1 : Int32) = 0 then some false else (if (0 : Int32) = 0 then some true else some false))
set_option maxHeartbeats 400000 in
set_option maxRecDepth 20000 in
theorem c_jS_isLatin1 (g : GX) (c0 : Nat) (hc0 : c0 < 5) (σ : St) (q : Bool) (h : f_jS_isLatin1 c0 = some q) (l : Launch) : CT BX l y_jS_isLatin1 (v_jS_isLatin1 :: lwG) 1 [.ref (g.2.1 (1000 + c0))] g σ (QZ BX g (q, σ)) := by
  refine mkC (cc := b_jS_isLatin1) (maxL := 1) (ret := (some .boolean)) rfl (by decide) rfl (Nat.le_of_ble_eq_true rfl) ?_
  intro p e s m args below meth c A ls C hl hw
  obtain ⟨hx, hb, hr, hml, hown, hts, hK, hE, hA, hlk⟩ := id C
  replace hl : lv_has ls 1 [(0, .ref (g.2.1 (1000 + c0)))] := hl
  obtain ⟨H, hH⟩ : ∃ z, z = s.heap := ⟨_, rfl⟩
  rw [← hH] at hw ⊢
  obtain ⟨locs, hlo⟩ : ∃ z : List Loc, z = [] := ⟨_, rfl⟩
  rw [← hlo] at hw ⊢
  unfold f_jS_isLatin1 at h
  refine va_gets hx hb (hE rfl).2.2.2.1 hw.2.2 hown (hts _ wj_38) (fun _ h9 => h9) d_jS_isLatin1_0 ?_
  refine lv_if_eq (tgt := 17) hx hb d_jS_isLatin1_3 (by decide) (fun b1 => ?_) (fun b1 => ?_)
  · replace h := ifp b1 h
    refine lv_iconst (v := 0) hx hb d_jS_isLatin1_17 (by decide) ?_
    exact retZ (b := false) C hw rfl rfl (congrArg (fun z => (z, σ)) (Option.some.inj h)) d_jS_isLatin1_18
  · replace h := ifn b1 h
    refine lv_aload_n hx hb d_jS_isLatin1_6 rfl (lv_at hl 0 rfl) ?_
    refine vk_getf hx hb ((hE rfl).2.2.1.1 c0 hc0).2.1 hw.2.2 hown (hts _ wj_15) (fun _ h9 => h9) d_jS_isLatin1_7 ?_
    refine lv_if_ne (tgt := 17) hx hb d_jS_isLatin1_10 (by decide) (fun b2 => ?_) (fun b2 => ?_)
    · replace h := ifn b2 h
      refine lv_iconst (v := 0) hx hb d_jS_isLatin1_17 (by decide) ?_
      exact retZ (b := false) C hw rfl rfl (congrArg (fun z => (z, σ)) (Option.some.inj h)) d_jS_isLatin1_18
    · replace h := ifp b2 h
      refine lv_iconst (v := 1) hx hb d_jS_isLatin1_13 (by decide) ?_
      refine lv_goto (tgt := 18) hx hb d_jS_isLatin1_14 (by decide) ?_
      exact retZ (b := true) C hw rfl rfl (congrArg (fun z => (z, σ)) (Option.some.inj h)) d_jS_isLatin1_18
def f_jP_checkIndex (p0 : Int32) (p1 : Int32) : Option (Int32) := (if p0 < 0 then none else (if p0 < p1 then some p0 else none))
set_option maxHeartbeats 400000 in
set_option maxRecDepth 20000 in
theorem c_jP_checkIndex_n (g : GX) (p0 : Int32) (p1 : Int32) (σ : St) (q : Int32) (h : f_jP_checkIndex p0 p1 = some q) (l : Launch) : CT BX l y_jP_checkIndex (v_jP_checkIndex :: lwG) 1 [.int p0, .int p1, .null] g σ (QI BX g (q, σ)) := by
  refine mkC (cc := b_jP_checkIndex) (maxL := 3) (ret := (some .int)) rfl (by decide) rfl (Nat.le_of_ble_eq_true rfl) ?_
  intro p e s m args below meth c A ls C hl hw
  obtain ⟨hx, hb, hr, hml, hown, hts, hK, hE, hA, hlk⟩ := id C
  replace hl : lv_has ls 3 [(0, .int p0), (1, .int p1), (2, .null)] := hl
  obtain ⟨H, hH⟩ : ∃ z, z = s.heap := ⟨_, rfl⟩
  rw [← hH] at hw ⊢
  obtain ⟨locs, hlo⟩ : ∃ z : List Loc, z = [] := ⟨_, rfl⟩
  rw [← hlo] at hw ⊢
  unfold f_jP_checkIndex at h
  refine lv_iload_n hx hb d_jP_checkIndex_0 rfl (lv_at hl 0 rfl) ?_
  refine lv_if_lt (tgt := 9) hx hb d_jP_checkIndex_1 (by decide) (fun b1 => ?_) (fun b1 => ?_)
  · replace h := ifp b1 h
    cases h
  · replace h := ifn b1 h
    refine lv_iload_n hx hb d_jP_checkIndex_4 rfl (lv_at hl 0 rfl) ?_
    refine lv_iload_n hx hb d_jP_checkIndex_5 rfl (lv_at hl 1 rfl) ?_
    refine lv_icmp_lt (tgt := 16) hx hb d_jP_checkIndex_6 (by decide) (fun b2 => ?_) (fun b2 => ?_)
    · replace h := ifp b2 h
      refine lv_iload_n hx hb d_jP_checkIndex_16 rfl (lv_at hl 0 rfl) ?_
      exact retI C hw rfl (congrArg (fun z => (z, σ)) (Option.some.inj h)) d_jP_checkIndex_17
    · replace h := ifn b2 h
      cases h
set_option maxHeartbeats 400000 in
set_option maxRecDepth 20000 in
theorem c_jP_checkIndex_a (g : GX) (p0 : Int32) (p1 : Int32) (c2 : Nat) (σ : St) (q : Int32) (h : f_jP_checkIndex p0 p1 = some q) (l : Launch) : CT BX l y_jP_checkIndex (v_jP_checkIndex :: lwG) 1 [.int p0, .int p1, .ref c2] g σ (QI BX g (q, σ)) := by
  refine mkC (cc := b_jP_checkIndex) (maxL := 3) (ret := (some .int)) rfl (by decide) rfl (Nat.le_of_ble_eq_true rfl) ?_
  intro p e s m args below meth c A ls C hl hw
  obtain ⟨hx, hb, hr, hml, hown, hts, hK, hE, hA, hlk⟩ := id C
  replace hl : lv_has ls 3 [(0, .int p0), (1, .int p1), (2, .ref c2)] := hl
  obtain ⟨H, hH⟩ : ∃ z, z = s.heap := ⟨_, rfl⟩
  rw [← hH] at hw ⊢
  obtain ⟨locs, hlo⟩ : ∃ z : List Loc, z = [] := ⟨_, rfl⟩
  rw [← hlo] at hw ⊢
  unfold f_jP_checkIndex at h
  refine lv_iload_n hx hb d_jP_checkIndex_0 rfl (lv_at hl 0 rfl) ?_
  refine lv_if_lt (tgt := 9) hx hb d_jP_checkIndex_1 (by decide) (fun b1 => ?_) (fun b1 => ?_)
  · replace h := ifp b1 h
    cases h
  · replace h := ifn b1 h
    refine lv_iload_n hx hb d_jP_checkIndex_4 rfl (lv_at hl 0 rfl) ?_
    refine lv_iload_n hx hb d_jP_checkIndex_5 rfl (lv_at hl 1 rfl) ?_
    refine lv_icmp_lt (tgt := 16) hx hb d_jP_checkIndex_6 (by decide) (fun b2 => ?_) (fun b2 => ?_)
    · replace h := ifp b2 h
      refine lv_iload_n hx hb d_jP_checkIndex_16 rfl (lv_at hl 0 rfl) ?_
      exact retI C hw rfl (congrArg (fun z => (z, σ)) (Option.some.inj h)) d_jP_checkIndex_17
    · replace h := ifn b2 h
      cases h
def f_jS_checkIndex (p0 : Int32) (p1 : Int32) : Option (Unit) := ((f_jP_checkIndex p0 p1).bind fun q1 => some ())
set_option maxHeartbeats 400000 in
set_option maxRecDepth 20000 in
theorem c_jS_checkIndex (g : GX) (p0 : Int32) (p1 : Int32) (σ : St) (q : Unit) (h : f_jS_checkIndex p0 p1 = some q) (l : Launch) : CT BX l y_jS_checkIndex (v_jS_checkIndex :: lwG) 2 [.int p0, .int p1] g σ (QV BX g σ) := by
  refine mkC (cc := b_jS_checkIndex) (maxL := 2) (ret := none) rfl (by decide) rfl (Nat.le_of_ble_eq_true rfl) ?_
  intro p e s m args below meth c A ls C hl hw
  obtain ⟨hx, hb, hr, hml, hown, hts, hK, hE, hA, hlk⟩ := id C
  replace hl : lv_has ls 2 [(0, .int p0), (1, .int p1)] := hl
  obtain ⟨H, hH⟩ : ∃ z, z = s.heap := ⟨_, rfl⟩
  rw [← hH] at hw ⊢
  obtain ⟨locs, hlo⟩ : ∃ z : List Loc, z = [] := ⟨_, rfl⟩
  rw [← hlo] at hw ⊢
  unfold f_jS_checkIndex at h
  refine lv_iload_n hx hb d_jS_checkIndex_0 rfl (lv_at hl 0 rfl) ?_
  refine lv_iload_n hx hb d_jS_checkIndex_1 rfl (lv_at hl 1 rfl) ?_
  rcases (hE rfl).2.2.2.2.1 with hz9 | ⟨t9, hz9⟩
  · refine va_gets hx hb hz9 hw.2.2 hown (hts _ wj_1053) (fun _ h9 => h9) d_jS_checkIndex_2 ?_
    refine bnd h (fun q1 k2 h => ?_)
    refine clI0 (v := q1) C hw (invS (As := [.int p0, .int p1, .null]) C hw (c_jP_checkIndex_n g p0 p1 σ q1 k2 l) rfl wc_jS_1059 nd_jP_checkIndex.2 ⟨by decide, by decide⟩ rfl hl.1 rfl (Nat.le_of_ble_eq_true rfl) d_jS_checkIndex_5 ⟨Nat.le_refl _, Nat.le_refl _⟩) (fun H locs hw => ?_)
    refine lv_pop hx hb d_jS_checkIndex_8 rfl ?_
    exact retV C hw rfl rfl d_jS_checkIndex_9
  · refine va_gets hx hb hz9 hw.2.2 hown (hts _ wj_1053) (fun _ h9 => h9) d_jS_checkIndex_2 ?_
    refine bnd h (fun q3 k4 h => ?_)
    refine clI0 (v := q3) C hw (invS (As := [.int p0, .int p1, .ref t9]) C hw (c_jP_checkIndex_a g p0 p1 t9 σ q3 k4 l) rfl wc_jS_1059 nd_jP_checkIndex.2 ⟨by decide, by decide⟩ rfl hl.1 rfl (Nat.le_of_ble_eq_true rfl) d_jS_checkIndex_5 ⟨Nat.le_refl _, Nat.le_refl _⟩) (fun H locs hw => ?_)
    refine lv_pop hx hb d_jS_checkIndex_8 rfl ?_
    exact retV C hw rfl rfl d_jS_checkIndex_9
def f_jL_charAt (c0 : Nat) (p1 : Int32) : Option (Int32) := ((f_jS_checkIndex p1 (nI (slen c0))).bind fun q1 => (if ok p1 (slen c0) = true then (if nrC ((((sbyt c0 (nx p1)) &&& 255)).toUInt32 % 65536).toInt32 = true then some ((((sbyt c0 (nx p1)) &&& 255)).toUInt32 % 65536).toInt32 else none) else none))
set_option maxHeartbeats 400000 in
set_option maxRecDepth 20000 in
theorem c_jL_charAt (g : GX) (c0 : Nat) (hc0 : c0 < 5) (p1 : Int32) (σ : St) (q : Int32) (h : f_jL_charAt c0 p1 = some q) (l : Launch) : CT BX l y_jL_charAt (v_jL_charAt :: lwG) 3 [.ref (g.2.1 (2000 + c0)), .int p1] g σ (QI BX g (q, σ)) := by
  refine mkC (cc := b_jL_charAt) (maxL := 2) (ret := (some .char)) rfl (by decide) rfl (Nat.le_of_ble_eq_true rfl) ?_
  intro p e s m args below meth c A ls C hl hw
  obtain ⟨hx, hb, hr, hml, hown, hts, hK, hE, hA, hlk⟩ := id C
  replace hl : lv_has ls 2 [(0, .ref (g.2.1 (2000 + c0))), (1, .int p1)] := hl
  obtain ⟨H, hH⟩ : ∃ z, z = s.heap := ⟨_, rfl⟩
  rw [← hH] at hw ⊢
  obtain ⟨locs, hlo⟩ : ∃ z : List Loc, z = [] := ⟨_, rfl⟩
  rw [← hlo] at hw ⊢
  unfold f_jL_charAt at h
  refine lv_iload_n hx hb d_jL_charAt_0 rfl (lv_at hl 1 rfl) ?_
  refine lv_aload_n hx hb d_jL_charAt_1 rfl (lv_at hl 0 rfl) ?_
  refine va_tlen (v := nI (slen c0)) hx hb ((hE rfl).2.2.1.1 c0 hc0).2.2.2 hw.2.2 rfl d_jL_charAt_2 ?_
  refine bnd h (fun q1 k2 h => ?_)
  refine clV0 C hw (invS (As := [.int p1, .int (nI (slen c0))]) C hw (c_jS_checkIndex g p1 (nI (slen c0)) σ q1 k2 l) rfl wc_jL_9 nd_jS_checkIndex.2 ⟨by decide, by decide⟩ rfl hl.1 rfl (Nat.le_of_ble_eq_true rfl) d_jL_charAt_3 ⟨Nat.le_refl _, Nat.le_refl _⟩) (fun H locs hw => ?_)
  refine lv_aload_n hx hb d_jL_charAt_6 rfl (lv_at hl 0 rfl) ?_
  refine lv_iload_n hx hb d_jL_charAt_7 rfl (lv_at hl 1 rfl) ?_
  refine gde h (fun g3 h => ?_)
  refine va_tb hx hb ((hE rfl).2.2.1.1 c0 hc0).2.2.2 hw.2.2 (ok_in g3) rfl d_jL_charAt_8 ?_
  refine lv_sipush (v := 255) hx hb d_jL_charAt_9 (by decide) ?_
  refine lv_iand hx hb d_jL_charAt_12 ?_
  refine lv_i2c hx hb d_jL_charAt_13 rfl ?_
  refine gde h (fun g4 h => ?_)
  exact retN C hw rfl (nrC_e g4) (congrArg (fun z => (z, σ)) (Option.some.inj h)) d_jL_charAt_14
def f_jS_charAt (c0 : Nat) (p1 : Int32) : Option (Int32) := ((f_jS_isLatin1 c0).bind fun q1 => (if q1 = false then none else ((f_jL_charAt c0 p1).bind fun q4 => (if nrC q4 = true then some q4 else none))))
set_option maxHeartbeats 400000 in
set_option maxRecDepth 20000 in
theorem c_jS_charAt (g : GX) (c0 : Nat) (hc0 : c0 < 5) (p1 : Int32) (σ : St) (q : Int32) (h : f_jS_charAt c0 p1 = some q) (l : Launch) : CT BX l y_jS_charAt (v_jS_charAt :: lwG) 4 [.ref (g.2.1 (1000 + c0)), .int p1] g σ (QI BX g (q, σ)) := by
  refine mkC (cc := b_jS_charAt) (maxL := 2) (ret := (some .char)) rfl (by decide) rfl (Nat.le_of_ble_eq_true rfl) ?_
  intro p e s m args below meth c A ls C hl hw
  obtain ⟨hx, hb, hr, hml, hown, hts, hK, hE, hA, hlk⟩ := id C
  replace hl : lv_has ls 2 [(0, .ref (g.2.1 (1000 + c0))), (1, .int p1)] := hl
  obtain ⟨H, hH⟩ : ∃ z, z = s.heap := ⟨_, rfl⟩
  rw [← hH] at hw ⊢
  obtain ⟨locs, hlo⟩ : ∃ z : List Loc, z = [] := ⟨_, rfl⟩
  rw [← hlo] at hw ⊢
  unfold f_jS_charAt at h
  refine lv_aload_n hx hb d_jS_charAt_0 rfl (lv_at hl 0 rfl) ?_
  refine bnd h (fun q1 k2 h => ?_)
  refine clZ0 (v := q1) C hw (invV (As := []) C hw (c_jS_isLatin1 g c0 hc0 σ q1 k2 l) rfl wc_jS_492 nd_jS_isLatin1 ⟨by decide, by decide⟩ (vk_recv (adK := fun i => g.2.1 (1000 + i)) (i := c0) (hE rfl).2.2.1 hc0 hw.2.2) rfl hl.1 rfl (Nat.le_of_ble_eq_true rfl) d_jS_charAt_1 ⟨Nat.le_refl _, Nat.le_refl _⟩) (fun H locs hw => ?_)
  refine ifB (tgt := 16) C d_jS_charAt_4 (by decide) (fun b3 => ?_) (fun b3 => ?_)
  · replace h := ifp b3 h
    cases h
  · replace h := ifn b3 h
    refine lv_aload_n hx hb d_jS_charAt_7 rfl (lv_at hl 0 rfl) ?_
    refine vk_getf hx hb ((hE rfl).2.2.1.1 c0 hc0).2.2.1 hw.2.2 hown (hts _ wj_9) (fun _ h9 => h9) d_jS_charAt_8 ?_
    refine lv_iload_n hx hb d_jS_charAt_11 rfl (lv_at hl 1 rfl) ?_
    refine bnd h (fun q4 k5 h => ?_)
    refine clI0 (v := q4) C hw (invS (As := [.ref (g.2.1 (2000 + c0)), .int p1]) C hw (c_jL_charAt g c0 hc0 p1 σ q4 k5 l) rfl wc_jS_495 nd_jL_charAt.2 ⟨by decide, by decide⟩ rfl hl.1 rfl (Nat.le_of_ble_eq_true rfl) d_jS_charAt_12 ⟨Nat.le_refl _, Nat.le_refl _⟩) (fun H locs hw => ?_)
    refine gde h (fun g6 h => ?_)
    exact retN C hw rfl (nrC_e g6) (congrArg (fun z => (z, σ)) (Option.some.inj h)) d_jS_charAt_15
def f_jL_canEncode (p0 : Int32) : Option (Bool) := (if p0 < 0 then some false else (if 255 < p0 then some false else some true))
set_option maxHeartbeats 400000 in
set_option maxRecDepth 20000 in
theorem c_jL_canEncode (g : GX) (p0 : Int32) (σ : St) (q : Bool) (h : f_jL_canEncode p0 = some q) (l : Launch) : CT BX l y_jL_canEncode (v_jL_canEncode :: lwG) 1 [.int p0] g σ (QZ BX g (q, σ)) := by
  refine mkC (cc := b_jL_canEncode) (maxL := 1) (ret := (some .boolean)) rfl (by decide) rfl (Nat.le_of_ble_eq_true rfl) ?_
  intro p e s m args below meth c A ls C hl hw
  obtain ⟨hx, hb, hr, hml, hown, hts, hK, hE, hA, hlk⟩ := id C
  replace hl : lv_has ls 1 [(0, .int p0)] := hl
  obtain ⟨H, hH⟩ : ∃ z, z = s.heap := ⟨_, rfl⟩
  rw [← hH] at hw ⊢
  obtain ⟨locs, hlo⟩ : ∃ z : List Loc, z = [] := ⟨_, rfl⟩
  rw [← hlo] at hw ⊢
  unfold f_jL_canEncode at h
  refine lv_iload_n hx hb d_jL_canEncode_0 rfl (lv_at hl 0 rfl) ?_
  refine lv_if_lt (tgt := 15) hx hb d_jL_canEncode_1 (by decide) (fun b1 => ?_) (fun b1 => ?_)
  · replace h := ifp b1 h
    refine lv_iconst (v := 0) hx hb d_jL_canEncode_15 (by decide) ?_
    exact retZ (b := false) C hw rfl rfl (congrArg (fun z => (z, σ)) (Option.some.inj h)) d_jL_canEncode_16
  · replace h := ifn b1 h
    refine lv_iload_n hx hb d_jL_canEncode_4 rfl (lv_at hl 0 rfl) ?_
    refine lv_sipush (v := 255) hx hb d_jL_canEncode_5 (by decide) ?_
    refine lv_icmp_gt (tgt := 15) hx hb d_jL_canEncode_8 (by decide) (fun b2 => ?_) (fun b2 => ?_)
    · replace h := ifp b2 h
      refine lv_iconst (v := 0) hx hb d_jL_canEncode_15 (by decide) ?_
      exact retZ (b := false) C hw rfl rfl (congrArg (fun z => (z, σ)) (Option.some.inj h)) d_jL_canEncode_16
    · replace h := ifn b2 h
      refine lv_iconst (v := 1) hx hb d_jL_canEncode_11 (by decide) ?_
      refine lv_goto (tgt := 16) hx hb d_jL_canEncode_12 (by decide) ?_
      exact retZ (b := true) C hw rfl rfl (congrArg (fun z => (z, σ)) (Option.some.inj h)) d_jL_canEncode_16
def f_jL_indexOfChar_l7 : Nat → Nat → Int32 → Int32 → Int32 → Option ((Unit) ⊕ (Int32))
  | 0, _, _, _, _ => none
  | n + 1, c0, x3, x4, x5 => (if x3 ≤ x5 then some (Sum.inl ()) else (if ok x5 (slen c0) = true then (if (sbyt c0 (nx x5)) = x4 then some (Sum.inr x5) else (f_jL_indexOfChar_l7 n c0 x3 x4 (x5 + 1))) else none))
def f_jL_indexOfChar (c0 : Nat) (p1 : Int32) (p2 : Int32) (p3 : Int32) : Option (Int32) := ((f_jL_indexOfChar_l7 FU c0 p3 (p1).toInt8.toInt32 p2).bind fun x_5 => Sum.elim (fun y7 => some (-1)) (fun z => some z) x_5)
set_option maxHeartbeats 400000 in
set_option maxRecDepth 20000 in
theorem c_jL_indexOfChar (g : GX) (c0 : Nat) (hc0 : c0 < 5) (p1 : Int32) (p2 : Int32) (p3 : Int32) (σ : St) (q : Int32) (h : f_jL_indexOfChar c0 p1 p2 p3 = some q) (l : Launch) : CT BX l y_jL_indexOfChar (v_jL_indexOfChar :: lwG) 1 [.ref (g.2.1 (2000 + c0)), .int p1, .int p2, .int p3] g σ (QI BX g (q, σ)) := by
  refine mkC (cc := b_jL_indexOfChar) (maxL := 6) (ret := (some .int)) rfl (by decide) rfl (Nat.le_of_ble_eq_true rfl) ?_
  intro p e s m args below meth c A ls C hl hw
  obtain ⟨hx, hb, hr, hml, hown, hts, hK, hE, hA, hlk⟩ := id C
  replace hl : lv_has ls 6 [(0, .ref (g.2.1 (2000 + c0))), (1, .int p1), (2, .int p2), (3, .int p3)] := hl
  obtain ⟨H, hH⟩ : ∃ z, z = s.heap := ⟨_, rfl⟩
  rw [← hH] at hw ⊢
  obtain ⟨locs, hlo⟩ : ∃ z : List Loc, z = [] := ⟨_, rfl⟩
  rw [← hlo] at hw ⊢
  unfold f_jL_indexOfChar at h
  refine lv_iload_n hx hb d_jL_indexOfChar_0 rfl (lv_at hl 1 rfl) ?_
  refine lv_i2b hx hb d_jL_indexOfChar_1 rfl ?_
  refine lv_istore (lv' := [(4, .int (p1).toInt8.toInt32), (0, .ref (g.2.1 (2000 + c0))), (1, .int p1), (2, .int p2), (3, .int p3)]) hx hb d_jL_indexOfChar_2 hl (by decide) rfl (fun ls hl => ?_)
  refine lv_iload_n hx hb d_jL_indexOfChar_4 rfl (lv_at hl 3 rfl) ?_
  refine lv_istore (lv' := [(5, .int p2), (4, .int (p1).toInt8.toInt32), (0, .ref (g.2.1 (2000 + c0))), (1, .int p1), (2, .int p2), (3, .int p3)]) hx hb d_jL_indexOfChar_5 hl (by decide) rfl (fun ls hl => ?_)
  have L1 : ∀ (c0 : Nat) (hc0 : c0 < 5) (x3 : Int32) (x4 : Int32) (n : Nat) (x5 : Int32) (σ : St) (H : Heap) (locs : List Loc) (ls : Array Slot), HW BX g A s σ H locs → lv_has ls 6 [(0, .ref (g.2.1 (2000 + c0))), (3, .int x3), (4, .int x4), (5, .int x5)] → ∀ (ex : (Unit) ⊕ (Int32)), f_jL_indexOfChar_l7 n c0 x3 x4 x5 = some ex → (∀ (y : Unit), ex = Sum.inl y → ∀ (H : Heap) (locs : List Loc) (ls : Array Slot), HW BX g A s σ H locs → lv_has ls 6 [] → W p l e (rmL 1) s m args below meth c H locs 0 0 (MQ below (QI BX g (q, σ) A) args s 0 0 A) (F0 m 31 ls [])) → (∀ (z : Int32), ex = Sum.inr z → z = q) → W p l e (rmL 1) s m args below meth c H locs 0 0 (MQ below (QI BX g (q, σ) A) args s 0 0 A) (F0 m 7 ls []) := by
    intro c0 hc0 x3 x4 n
    induction n with
    | zero =>
      intro x5 σ H locs ls hw hl ex h kx1 kr1
      cases h
    | succ n ih =>
      intro x5 σ H locs ls hw hl ex h kx1 kr1
      rw [f_jL_indexOfChar_l7] at h
      refine lv_iload hx hb d_jL_indexOfChar_7 (lv_at hl 3 rfl) ?_
      refine lv_iload_n hx hb d_jL_indexOfChar_9 rfl (lv_at hl 1 rfl) ?_
      refine lv_icmp_ge (tgt := 31) hx hb d_jL_indexOfChar_10 (by decide) (fun b2 => ?_) (fun b2 => ?_)
      · replace h := ifp b2 h
        exact kx1 _ (Option.some.inj h).symm H locs ls hw (lv_sub hl [] rfl)
      · replace h := ifn b2 h
        refine lv_aload_n hx hb d_jL_indexOfChar_13 rfl (lv_at hl 0 rfl) ?_
        refine lv_iload hx hb d_jL_indexOfChar_14 (lv_at hl 3 rfl) ?_
        refine gde h (fun g3 h => ?_)
        refine va_tb hx hb ((hE rfl).2.2.1.1 c0 hc0).2.2.2 hw.2.2 (ok_in g3) rfl d_jL_indexOfChar_16 ?_
        refine lv_iload hx hb d_jL_indexOfChar_17 (lv_at hl 2 rfl) ?_
        refine lv_icmp_ne (tgt := 25) hx hb d_jL_indexOfChar_19 (by decide) (fun b4 => ?_) (fun b4 => ?_)
        · replace h := ifn b4 h
          refine lv_iinc (v := (x5 + 1)) (lv' := [(5, .int (x5 + 1)), (0, .ref (g.2.1 (2000 + c0))), (3, .int x3), (4, .int x4)]) hx hb d_jL_indexOfChar_25 hl (k := 3) rfl rfl (by decide) rfl (fun ls hl => ?_)
          refine lv_goto (tgt := 7) hx hb d_jL_indexOfChar_28 (by decide) ?_
          exact ih (x5 + 1) σ H locs ls hw (lv_sub hl [1, 2, 3, 0] rfl) ex h kx1 kr1
        · replace h := ifp b4 h
          refine lv_iload hx hb d_jL_indexOfChar_22 (lv_at hl 3 rfl) ?_
          exact retI C hw rfl (congrArg (fun z => (z, σ)) (kr1 _ (Option.some.inj h).symm)) d_jL_indexOfChar_24
  refine bnd h (fun x_5 k6 h => ?_)
  refine L1 c0 hc0 p3 (p1).toInt8.toInt32 FU p2 σ H locs ls hw (lv_sub hl [2, 5, 1, 0] rfl) x_5 k6 (fun y7 e8 H locs ls hw hl => ?_) (fun z e8 => ?_)
  · rw [e8] at h
    replace h := sel h
    refine lv_iconst (v := (-1)) hx hb d_jL_indexOfChar_31 (by decide) ?_
    exact retI C hw rfl (congrArg (fun z => (z, σ)) (Option.some.inj h)) d_jL_indexOfChar_32
  · rw [e8] at h
    replace h := ser h
    exact Option.some.inj h
def f_jL_indexOf (c0 : Nat) (p1 : Int32) (p2 : Int32) (p3 : Int32) : Option (Int32) := ((f_jL_canEncode p1).bind fun q1 => (if q1 = false then some (-1) else (if (mxI p2 0) < (mnI p3 (nI (slen c0))) then ((f_jL_indexOfChar c0 p1 (mxI p2 0) (mnI p3 (nI (slen c0)))).bind fun q5 => some q5) else some (-1))))
set_option maxHeartbeats 400000 in
set_option maxRecDepth 20000 in
theorem c_jL_indexOf (g : GX) (c0 : Nat) (hc0 : c0 < 5) (p1 : Int32) (p2 : Int32) (p3 : Int32) (σ : St) (q : Int32) (h : f_jL_indexOf c0 p1 p2 p3 = some q) (l : Launch) : CT BX l y_jL_indexOf (v_jL_indexOf :: lwG) 2 [.ref (g.2.1 (2000 + c0)), .int p1, .int p2, .int p3] g σ (QI BX g (q, σ)) := by
  refine mkC (cc := b_jL_indexOf) (maxL := 4) (ret := (some .int)) rfl (by decide) rfl (Nat.le_of_ble_eq_true rfl) ?_
  intro p e s m args below meth c A ls C hl hw
  obtain ⟨hx, hb, hr, hml, hown, hts, hK, hE, hA, hlk⟩ := id C
  replace hl : lv_has ls 4 [(0, .ref (g.2.1 (2000 + c0))), (1, .int p1), (2, .int p2), (3, .int p3)] := hl
  obtain ⟨H, hH⟩ : ∃ z, z = s.heap := ⟨_, rfl⟩
  rw [← hH] at hw ⊢
  obtain ⟨locs, hlo⟩ : ∃ z : List Loc, z = [] := ⟨_, rfl⟩
  rw [← hlo] at hw ⊢
  unfold f_jL_indexOf at h
  refine lv_iload_n hx hb d_jL_indexOf_0 rfl (lv_at hl 1 rfl) ?_
  refine bnd h (fun q1 k2 h => ?_)
  refine clZ0 (v := q1) C hw (invS (As := [.int p1]) C hw (c_jL_canEncode g p1 σ q1 k2 l) rfl wc_jL_88 nd_jL_canEncode.2 ⟨by decide, by decide⟩ rfl hl.1 rfl (Nat.le_of_ble_eq_true rfl) d_jL_indexOf_1 ⟨Nat.le_refl _, Nat.le_refl _⟩) (fun H locs hw => ?_)
  refine ifnB (tgt := 9) C d_jL_indexOf_4 (by decide) (fun b3 => ?_) (fun b3 => ?_)
  · replace h := ifn b3 h
    refine lv_iload_n hx hb d_jL_indexOf_9 rfl (lv_at hl 2 rfl) ?_
    refine lv_iconst (v := 0) hx hb d_jL_indexOf_10 (by decide) ?_
    refine maxR C wc_jL_92 hl.1 (Nat.le_of_ble_eq_true rfl) (Nat.le_of_ble_eq_true rfl) ⟨Nat.le_refl _, Nat.le_refl _⟩ d_jL_indexOf_11 ?_
    refine lv_istore_n (lv' := [(2, .int (mxI p2 0)), (0, .ref (g.2.1 (2000 + c0))), (1, .int p1), (3, .int p3)]) hx hb d_jL_indexOf_14 rfl hl (by decide) rfl (fun ls hl => ?_)
    refine lv_iload_n hx hb d_jL_indexOf_15 rfl (lv_at hl 3 rfl) ?_
    refine lv_aload_n hx hb d_jL_indexOf_16 rfl (lv_at hl 1 rfl) ?_
    refine va_tlen (v := nI (slen c0)) hx hb ((hE rfl).2.2.1.1 c0 hc0).2.2.2 hw.2.2 rfl d_jL_indexOf_17 ?_
    refine minR C wc_jL_38 hl.1 (Nat.le_of_ble_eq_true rfl) (Nat.le_of_ble_eq_true rfl) ⟨Nat.le_refl _, Nat.le_refl _⟩ d_jL_indexOf_18 ?_
    refine lv_istore_n (lv' := [(3, .int (mnI p3 (nI (slen c0)))), (2, .int (mxI p2 0)), (0, .ref (g.2.1 (2000 + c0))), (1, .int p1)]) hx hb d_jL_indexOf_21 rfl hl (by decide) rfl (fun ls hl => ?_)
    refine lv_iload_n hx hb d_jL_indexOf_22 rfl (lv_at hl 1 rfl) ?_
    refine lv_iload_n hx hb d_jL_indexOf_23 rfl (lv_at hl 0 rfl) ?_
    refine lv_icmp_lt (tgt := 29) hx hb d_jL_indexOf_24 (by decide) (fun b4 => ?_) (fun b4 => ?_)
    · replace h := ifp b4 h
      refine lv_aload_n hx hb d_jL_indexOf_29 rfl (lv_at hl 2 rfl) ?_
      refine lv_iload_n hx hb d_jL_indexOf_30 rfl (lv_at hl 3 rfl) ?_
      refine lv_iload_n hx hb d_jL_indexOf_31 rfl (lv_at hl 1 rfl) ?_
      refine lv_iload_n hx hb d_jL_indexOf_32 rfl (lv_at hl 0 rfl) ?_
      refine bnd h (fun q5 k6 h => ?_)
      refine clI0 (v := q5) C hw (invS (As := [.ref (g.2.1 (2000 + c0)), .int p1, .int (mxI p2 0), .int (mnI p3 (nI (slen c0)))]) C hw (c_jL_indexOfChar g c0 hc0 p1 (mxI p2 0) (mnI p3 (nI (slen c0))) σ q5 k6 l) rfl wc_jL_95 nd_jL_indexOfChar.2 ⟨by decide, by decide⟩ rfl hl.1 rfl (Nat.le_of_ble_eq_true rfl) d_jL_indexOf_33 ⟨Nat.le_refl _, Nat.le_refl _⟩) (fun H locs hw => ?_)
      exact retI C hw rfl (congrArg (fun z => (z, σ)) (Option.some.inj h)) d_jL_indexOf_36
    · replace h := ifn b4 h
      refine lv_iconst (v := (-1)) hx hb d_jL_indexOf_27 (by decide) ?_
      exact retI C hw rfl (congrArg (fun z => (z, σ)) (Option.some.inj h)) d_jL_indexOf_28
  · replace h := ifp b3 h
    refine lv_iconst (v := (-1)) hx hb d_jL_indexOf_7 (by decide) ?_
    exact retI C hw rfl (congrArg (fun z => (z, σ)) (Option.some.inj h)) d_jL_indexOf_8
def f_jS_indexOf_2 (c0 : Nat) (p1 : Int32) (p2 : Int32) : Option (Int32) := ((f_jS_isLatin1 c0).bind fun q1 => (if q1 = false then none else ((f_jS_length c0).bind fun q4 => ((f_jL_indexOf c0 p1 p2 q4).bind fun q6 => some q6))))
set_option maxHeartbeats 400000 in
set_option maxRecDepth 20000 in
theorem c_jS_indexOf_2 (g : GX) (c0 : Nat) (hc0 : c0 < 5) (p1 : Int32) (p2 : Int32) (σ : St) (q : Int32) (h : f_jS_indexOf_2 c0 p1 p2 = some q) (l : Launch) : CT BX l y_jS_indexOf_2 (v_jS_indexOf_2 :: lwG) 3 [.ref (g.2.1 (1000 + c0)), .int p1, .int p2] g σ (QI BX g (q, σ)) := by
  refine mkC (cc := b_jS_indexOf_2) (maxL := 3) (ret := (some .int)) rfl (by decide) rfl (Nat.le_of_ble_eq_true rfl) ?_
  intro p e s m args below meth c A ls C hl hw
  obtain ⟨hx, hb, hr, hml, hown, hts, hK, hE, hA, hlk⟩ := id C
  replace hl : lv_has ls 3 [(0, .ref (g.2.1 (1000 + c0))), (1, .int p1), (2, .int p2)] := hl
  obtain ⟨H, hH⟩ : ∃ z, z = s.heap := ⟨_, rfl⟩
  rw [← hH] at hw ⊢
  obtain ⟨locs, hlo⟩ : ∃ z : List Loc, z = [] := ⟨_, rfl⟩
  rw [← hlo] at hw ⊢
  unfold f_jS_indexOf_2 at h
  refine lv_aload_n hx hb d_jS_indexOf_2_0 rfl (lv_at hl 0 rfl) ?_
  refine bnd h (fun q1 k2 h => ?_)
  refine clZ0 (v := q1) C hw (invV (As := []) C hw (c_jS_isLatin1 g c0 hc0 σ q1 k2 l) rfl wc_jS_492 nd_jS_isLatin1 ⟨by decide, by decide⟩ (vk_recv (adK := fun i => g.2.1 (1000 + i)) (i := c0) (hE rfl).2.2.1 hc0 hw.2.2) rfl hl.1 rfl (Nat.le_of_ble_eq_true rfl) d_jS_indexOf_2_1 ⟨Nat.le_refl _, Nat.le_refl _⟩) (fun H locs hw => ?_)
  refine ifB (tgt := 23) C d_jS_indexOf_2_4 (by decide) (fun b3 => ?_) (fun b3 => ?_)
  · replace h := ifp b3 h
    cases h
  · replace h := ifn b3 h
    refine lv_aload_n hx hb d_jS_indexOf_2_7 rfl (lv_at hl 0 rfl) ?_
    refine vk_getf hx hb ((hE rfl).2.2.1.1 c0 hc0).2.2.1 hw.2.2 hown (hts _ wj_9) (fun _ h9 => h9) d_jS_indexOf_2_8 ?_
    refine lv_iload_n hx hb d_jS_indexOf_2_11 rfl (lv_at hl 1 rfl) ?_
    refine lv_iload_n hx hb d_jS_indexOf_2_12 rfl (lv_at hl 2 rfl) ?_
    refine lv_aload_n hx hb d_jS_indexOf_2_13 rfl (lv_at hl 0 rfl) ?_
    refine bnd h (fun q4 k5 h => ?_)
    refine clI0 (v := q4) C hw (invV (As := []) C hw (c_jS_length g c0 hc0 σ q4 k5 l) rfl wc_jS_505 nd_jS_length ⟨by decide, by decide⟩ (vk_recv (adK := fun i => g.2.1 (1000 + i)) (i := c0) (hE rfl).2.2.1 hc0 hw.2.2) rfl hl.1 rfl (Nat.le_of_ble_eq_true rfl) d_jS_indexOf_2_14 ⟨Nat.le_refl _, Nat.le_refl _⟩) (fun H locs hw => ?_)
    refine bnd h (fun q6 k7 h => ?_)
    refine clI0 (v := q6) C hw (invS (As := [.ref (g.2.1 (2000 + c0)), .int p1, .int p2, .int q4]) C hw (c_jL_indexOf g c0 hc0 p1 p2 q4 σ q6 k7 l) rfl wc_jS_637 nd_jL_indexOf.2 ⟨by decide, by decide⟩ rfl hl.1 rfl (Nat.le_of_ble_eq_true rfl) d_jS_indexOf_2_17 ⟨Nat.le_refl _, Nat.le_refl _⟩) (fun H locs hw => ?_)
    refine lv_goto (tgt := 36) hx hb d_jS_indexOf_2_20 (by decide) ?_
    exact retI C hw rfl (congrArg (fun z => (z, σ)) (Option.some.inj h)) d_jS_indexOf_2_36
def f_jS_indexOf_1 (c0 : Nat) (p1 : Int32) : Option (Int32) := ((f_jS_indexOf_2 c0 p1 0).bind fun q1 => some q1)
set_option maxHeartbeats 400000 in
set_option maxRecDepth 20000 in
theorem c_jS_indexOf_1 (g : GX) (c0 : Nat) (hc0 : c0 < 5) (p1 : Int32) (σ : St) (q : Int32) (h : f_jS_indexOf_1 c0 p1 = some q) (l : Launch) : CT BX l y_jS_indexOf_1 (v_jS_indexOf_1 :: lwG) 4 [.ref (g.2.1 (1000 + c0)), .int p1] g σ (QI BX g (q, σ)) := by
  refine mkC (cc := b_jS_indexOf_1) (maxL := 2) (ret := (some .int)) rfl (by decide) rfl (Nat.le_of_ble_eq_true rfl) ?_
  intro p e s m args below meth c A ls C hl hw
  obtain ⟨hx, hb, hr, hml, hown, hts, hK, hE, hA, hlk⟩ := id C
  replace hl : lv_has ls 2 [(0, .ref (g.2.1 (1000 + c0))), (1, .int p1)] := hl
  obtain ⟨H, hH⟩ : ∃ z, z = s.heap := ⟨_, rfl⟩
  rw [← hH] at hw ⊢
  obtain ⟨locs, hlo⟩ : ∃ z : List Loc, z = [] := ⟨_, rfl⟩
  rw [← hlo] at hw ⊢
  unfold f_jS_indexOf_1 at h
  refine lv_aload_n hx hb d_jS_indexOf_1_0 rfl (lv_at hl 0 rfl) ?_
  refine lv_iload_n hx hb d_jS_indexOf_1_1 rfl (lv_at hl 1 rfl) ?_
  refine lv_iconst (v := 0) hx hb d_jS_indexOf_1_2 (by decide) ?_
  refine bnd h (fun q1 k2 h => ?_)
  refine clI0 (v := q1) C hw (invV (As := [.int p1, .int 0]) C hw (c_jS_indexOf_2 g c0 hc0 p1 0 σ q1 k2 l) rfl wc_jS_633 nd_jS_indexOf_2 ⟨by decide, by decide⟩ (vk_recv (adK := fun i => g.2.1 (1000 + i)) (i := c0) (hE rfl).2.2.1 hc0 hw.2.2) rfl hl.1 rfl (Nat.le_of_ble_eq_true rfl) d_jS_indexOf_1_3 ⟨Nat.le_refl _, Nat.le_refl _⟩) (fun H locs hw => ?_)
  exact retI C hw rfl (congrArg (fun z => (z, σ)) (Option.some.inj h)) d_jS_indexOf_1_6
def f_jA_fill_l6 : Nat → Nat → Int64 → Int32 → Int32 → St → Option (St)
  | 0, _, _, _, _, _ => none
  | n + 1, c0, x1, x4, x3, σ => (if x4 ≤ x3 then some σ else (if ok x3 60 = true then (st (sL σ c0 (va_up (vL σ c0) (nx x3) x1)) fun s4 => (f_jA_fill_l6 n c0 x1 x4 (x3 + 1) s4)) else none))
def f_jA_fill (c0 : Nat) (p1 : Int64) (σ : St) : Option (St) := ((f_jA_fill_l6 FU c0 p1 60 0 σ).bind fun x_6 => some x_6)
set_option maxHeartbeats 400000 in
set_option maxRecDepth 20000 in
theorem c_jA_fill (g : GX) (c0 : Nat) (hc0 : tg BX c0 2060) (p1 : Int64) (σ : St) (q : St) (h : f_jA_fill c0 p1 σ = some q) (l : Launch) : CT BX l y_jA_fill (v_jA_fill :: lwG) 1 [.ref (g.2.1 c0), .long p1] g σ (QV BX g q) := by
  refine mkC (cc := b_jA_fill) (maxL := 5) (ret := none) rfl (by decide) rfl (Nat.le_of_ble_eq_true rfl) ?_
  intro p e s m args below meth c A ls C hl hw
  obtain ⟨hx, hb, hr, hml, hown, hts, hK, hE, hA, hlk⟩ := id C
  replace hl : lv_has ls 5 [(0, .ref (g.2.1 c0)), (1, .long p1)] := hl
  obtain ⟨H, hH⟩ : ∃ z, z = s.heap := ⟨_, rfl⟩
  rw [← hH] at hw ⊢
  obtain ⟨locs, hlo⟩ : ∃ z : List Loc, z = [] := ⟨_, rfl⟩
  rw [← hlo] at hw ⊢
  unfold f_jA_fill at h
  refine lv_iconst (v := 0) hx hb d_jA_fill_0 (by decide) ?_
  refine lv_istore_n (lv' := [(3, .int 0), (0, .ref (g.2.1 c0)), (1, .long p1)]) hx hb d_jA_fill_1 rfl hl (by decide) rfl (fun ls hl => ?_)
  refine lv_aload_n hx hb d_jA_fill_2 rfl (lv_at hl 1 rfl) ?_
  refine lnL (n := 60) (v := 60) C hw hc0 (by decide) (by decide) d_jA_fill_3 ?_
  refine lv_istore (lv' := [(4, .int 60), (3, .int 0), (0, .ref (g.2.1 c0)), (1, .long p1)]) hx hb d_jA_fill_4 hl (by decide) rfl (fun ls hl => ?_)
  have L1 : ∀ (c0 : Nat) (hc0 : tg BX c0 2060) (x1 : Int64) (x4 : Int32) (n : Nat) (x3 : Int32) (σ : St) (H : Heap) (locs : List Loc) (ls : Array Slot), HW BX g A s σ H locs → lv_has ls 5 [(0, .ref (g.2.1 c0)), (1, .long x1), (3, .int x3), (4, .int x4)] → ∀ (ex : St), f_jA_fill_l6 n c0 x1 x4 x3 σ = some ex → (∀ (y : St), ex = y → ∀ (H : Heap) (locs : List Loc) (ls : Array Slot), HW BX g A s y H locs → lv_has ls 5 [] → W p l e (rmL 1) s m args below meth c H locs 0 0 (MQ below (QV BX g q A) args s 0 0 A) (F0 m 22 ls [])) → (True) → W p l e (rmL 1) s m args below meth c H locs 0 0 (MQ below (QV BX g q A) args s 0 0 A) (F0 m 6 ls []) := by
    intro c0 hc0 x1 x4 n
    induction n with
    | zero =>
      intro x3 σ H locs ls hw hl ex h kx1 kr1
      cases h
    | succ n ih =>
      intro x3 σ H locs ls hw hl ex h kx1 kr1
      rw [f_jA_fill_l6] at h
      refine lv_iload_n hx hb d_jA_fill_6 rfl (lv_at hl 2 rfl) ?_
      refine lv_iload hx hb d_jA_fill_7 (lv_at hl 3 rfl) ?_
      refine lv_icmp_ge (tgt := 22) hx hb d_jA_fill_9 (by decide) (fun b2 => ?_) (fun b2 => ?_)
      · replace h := ifp b2 h
        exact kx1 _ (Option.some.inj h).symm H locs ls hw (lv_sub hl [] rfl)
      · replace h := ifn b2 h
        refine lv_aload_n hx hb d_jA_fill_12 rfl (lv_at hl 0 rfl) ?_
        refine lv_iload_n hx hb d_jA_fill_13 rfl (lv_at hl 2 rfl) ?_
        refine lv_lload_n hx hb d_jA_fill_14 rfl (lv_at hl 1 rfl) ?_
        refine gde h (fun g3 h => ?_)
        refine ste h (fun s4 e5 h => ?_)
        refine stL (n := 60) C hw hc0 (by decide) g3 d_jA_fill_15 (fun H locs hw => ?_)
        replace hw := HWe hw e5
        refine lv_iinc (v := (x3 + 1)) (lv' := [(3, .int (x3 + 1)), (0, .ref (g.2.1 c0)), (1, .long x1), (4, .int x4)]) hx hb d_jA_fill_16 hl (k := 2) rfl rfl (by decide) rfl (fun ls hl => ?_)
        refine lv_goto (tgt := 6) hx hb d_jA_fill_19 (by decide) ?_
        exact ih (x3 + 1) s4 H locs ls hw (lv_sub hl [1, 2, 0, 3] rfl) ex h kx1 kr1
  refine bnd h (fun x_6 k7 h => ?_)
  refine L1 c0 hc0 p1 60 FU 0 σ H locs ls hw (lv_sub hl [2, 3, 1, 0] rfl) x_6 k7 (fun y9 e10 H locs ls hw hl => ?_) trivial
  subst e10
  exact retV C hw rfl (Option.some.inj h) d_jA_fill_22
