/-! ===== printed by a program out of the listing: what each instruction is ===== -/
theorem d_X_init_0 : decode b_X_init 0 = .ok (.aload_n 0, 1) := by decide +kernel
theorem d_X_init_1 : decode b_X_init 1 = .ok (.invokespecial 3, 3) := by decide +kernel
theorem d_X_init_4 : decode b_X_init 4 = .ok (.aload_n 0, 1) := by decide +kernel
theorem d_X_init_5 : decode b_X_init 5 = .ok (.new 9, 3) := by decide +kernel
theorem d_X_init_8 : decode b_X_init 8 = .ok (.dup, 1) := by decide +kernel
theorem d_X_init_9 : decode b_X_init 9 = .ok (.invokespecial 11, 3) := by decide +kernel
theorem d_X_init_12 : decode b_X_init 12 = .ok (.putfield 12, 3) := by decide +kernel
theorem d_X_init_15 : decode b_X_init 15 = .ok (.aload_n 0, 1) := by decide +kernel
theorem d_X_init_16 : decode b_X_init 16 = .ok (.new 18, 3) := by decide +kernel
theorem d_X_init_19 : decode b_X_init 19 = .ok (.dup, 1) := by decide +kernel
theorem d_X_init_20 : decode b_X_init 20 = .ok (.aload_n 0, 1) := by decide +kernel
theorem d_X_init_21 : decode b_X_init 21 = .ok (.getfield 12, 3) := by decide +kernel
theorem d_X_init_24 : decode b_X_init 24 = .ok (.invokespecial 20, 3) := by decide +kernel
theorem d_X_init_27 : decode b_X_init 27 = .ok (.putfield 23, 3) := by decide +kernel
theorem d_X_init_30 : decode b_X_init 30 = .ok (.aload_n 0, 1) := by decide +kernel
theorem d_X_init_31 : decode b_X_init 31 = .ok (.new 18, 3) := by decide +kernel
theorem d_X_init_34 : decode b_X_init 34 = .ok (.dup, 1) := by decide +kernel
theorem d_X_init_35 : decode b_X_init 35 = .ok (.aload_n 0, 1) := by decide +kernel
theorem d_X_init_36 : decode b_X_init 36 = .ok (.getfield 12, 3) := by decide +kernel
theorem d_X_init_39 : decode b_X_init 39 = .ok (.invokespecial 20, 3) := by decide +kernel
theorem d_X_init_42 : decode b_X_init 42 = .ok (.putfield 27, 3) := by decide +kernel
theorem d_X_init_45 : decode b_X_init 45 = .ok (.aload_n 0, 1) := by decide +kernel
theorem d_X_init_46 : decode b_X_init 46 = .ok (.new 18, 3) := by decide +kernel
theorem d_X_init_49 : decode b_X_init 49 = .ok (.dup, 1) := by decide +kernel
theorem d_X_init_50 : decode b_X_init 50 = .ok (.aload_n 0, 1) := by decide +kernel
theorem d_X_init_51 : decode b_X_init 51 = .ok (.getfield 12, 3) := by decide +kernel
theorem d_X_init_54 : decode b_X_init 54 = .ok (.invokespecial 20, 3) := by decide +kernel
theorem d_X_init_57 : decode b_X_init 57 = .ok (.putfield 30, 3) := by decide +kernel
theorem d_X_init_60 : decode b_X_init 60 = .ok (.aload_n 0, 1) := by decide +kernel
theorem d_X_init_61 : decode b_X_init 61 = .ok (.new 33, 3) := by decide +kernel
theorem d_X_init_64 : decode b_X_init 64 = .ok (.dup, 1) := by decide +kernel
theorem d_X_init_65 : decode b_X_init 65 = .ok (.invokespecial 35, 3) := by decide +kernel
theorem d_X_init_68 : decode b_X_init 68 = .ok (.putfield 36, 3) := by decide +kernel
theorem d_X_init_71 : decode b_X_init 71 = .ok (.aload_n 0, 1) := by decide +kernel
theorem d_X_init_72 : decode b_X_init 72 = .ok (.new 33, 3) := by decide +kernel
theorem d_X_init_75 : decode b_X_init 75 = .ok (.dup, 1) := by decide +kernel
theorem d_X_init_76 : decode b_X_init 76 = .ok (.invokespecial 35, 3) := by decide +kernel
theorem d_X_init_79 : decode b_X_init 79 = .ok (.putfield 40, 3) := by decide +kernel
theorem d_X_init_82 : decode b_X_init 82 = .ok (.aload_n 0, 1) := by decide +kernel
theorem d_X_init_83 : decode b_X_init 83 = .ok (.iconst 0, 1) := by decide +kernel
theorem d_X_init_84 : decode b_X_init 84 = .ok (.putfield 43, 3) := by decide +kernel
theorem d_X_init_87 : decode b_X_init 87 = .ok (.aload_n 0, 1) := by decide +kernel
theorem d_X_init_88 : decode b_X_init 88 = .ok (.new 47, 3) := by decide +kernel
theorem d_X_init_91 : decode b_X_init 91 = .ok (.dup, 1) := by decide +kernel
theorem d_X_init_92 : decode b_X_init 92 = .ok (.invokespecial 49, 3) := by decide +kernel
theorem d_X_init_95 : decode b_X_init 95 = .ok (.putfield 50, 3) := by decide +kernel
theorem d_X_init_98 : decode b_X_init 98 = .ok (.aload_n 0, 1) := by decide +kernel
theorem d_X_init_99 : decode b_X_init 99 = .ok (.bipush 6, 2) := by decide +kernel
theorem d_X_init_101 : decode b_X_init 101 = .ok (.anewarray 9, 3) := by decide +kernel
theorem d_X_init_104 : decode b_X_init 104 = .ok (.putfield 54, 3) := by decide +kernel
theorem d_X_init_107 : decode b_X_init 107 = .ok (.aload_n 0, 1) := by decide +kernel
theorem d_X_init_108 : decode b_X_init 108 = .ok (.iconst 0, 1) := by decide +kernel
theorem d_X_init_109 : decode b_X_init 109 = .ok (.putfield 58, 3) := by decide +kernel
theorem d_X_init_112 : decode b_X_init 112 = .ok (.aload_n 0, 1) := by decide +kernel
theorem d_X_init_113 : decode b_X_init 113 = .ok (.iconst 5, 1) := by decide +kernel
theorem d_X_init_114 : decode b_X_init 114 = .ok (.newarray .int, 2) := by decide +kernel
theorem d_X_init_116 : decode b_X_init 116 = .ok (.putfield 62, 3) := by decide +kernel
theorem d_X_init_119 : decode b_X_init 119 = .ok (.aload_n 0, 1) := by decide +kernel
theorem d_X_init_120 : decode b_X_init 120 = .ok (.iconst 5, 1) := by decide +kernel
theorem d_X_init_121 : decode b_X_init 121 = .ok (.newarray .int, 2) := by decide +kernel
theorem d_X_init_123 : decode b_X_init 123 = .ok (.putfield 66, 3) := by decide +kernel
theorem d_X_init_126 : decode b_X_init 126 = .ok (.aload_n 0, 1) := by decide +kernel
theorem d_X_init_127 : decode b_X_init 127 = .ok (.new 69, 3) := by decide +kernel
theorem d_X_init_130 : decode b_X_init 130 = .ok (.dup, 1) := by decide +kernel
theorem d_X_init_131 : decode b_X_init 131 = .ok (.invokespecial 71, 3) := by decide +kernel
theorem d_X_init_134 : decode b_X_init 134 = .ok (.putfield 72, 3) := by decide +kernel
theorem d_X_init_137 : decode b_X_init 137 = .ok (.aload_n 0, 1) := by decide +kernel
theorem d_X_init_138 : decode b_X_init 138 = .ok (.bipush 6, 2) := by decide +kernel
theorem d_X_init_140 : decode b_X_init 140 = .ok (.anewarray 76, 3) := by decide +kernel
theorem d_X_init_143 : decode b_X_init 143 = .ok (.putfield 78, 3) := by decide +kernel
theorem d_X_init_146 : decode b_X_init 146 = .ok (.iconst 0, 1) := by decide +kernel
theorem d_X_init_147 : decode b_X_init 147 = .ok (.istore_n 1, 1) := by decide +kernel
theorem d_X_init_148 : decode b_X_init 148 = .ok (.iload_n 1, 1) := by decide +kernel
theorem d_X_init_149 : decode b_X_init 149 = .ok (.aload_n 0, 1) := by decide +kernel
theorem d_X_init_150 : decode b_X_init 150 = .ok (.getfield 54, 3) := by decide +kernel
theorem d_X_init_153 : decode b_X_init 153 = .ok (.arraylength, 1) := by decide +kernel
theorem d_X_init_154 : decode b_X_init 154 = .ok (.if_icmp .ge 22, 3) := by decide +kernel
theorem d_X_init_157 : decode b_X_init 157 = .ok (.aload_n 0, 1) := by decide +kernel
theorem d_X_init_158 : decode b_X_init 158 = .ok (.getfield 54, 3) := by decide +kernel
theorem d_X_init_161 : decode b_X_init 161 = .ok (.iload_n 1, 1) := by decide +kernel
theorem d_X_init_162 : decode b_X_init 162 = .ok (.new 9, 3) := by decide +kernel
theorem d_X_init_165 : decode b_X_init 165 = .ok (.dup, 1) := by decide +kernel
theorem d_X_init_166 : decode b_X_init 166 = .ok (.invokespecial 11, 3) := by decide +kernel
theorem d_X_init_169 : decode b_X_init 169 = .ok (.aastore, 1) := by decide +kernel
theorem d_X_init_170 : decode b_X_init 170 = .ok (.iinc 1 1, 3) := by decide +kernel
theorem d_X_init_173 : decode b_X_init 173 = .ok (.goto (-25), 3) := by decide +kernel
theorem d_X_init_176 : decode b_X_init 176 = .ok (.iconst 0, 1) := by decide +kernel
theorem d_X_init_177 : decode b_X_init 177 = .ok (.istore_n 1, 1) := by decide +kernel
theorem d_X_init_178 : decode b_X_init 178 = .ok (.iload_n 1, 1) := by decide +kernel
theorem d_X_init_179 : decode b_X_init 179 = .ok (.aload_n 0, 1) := by decide +kernel
theorem d_X_init_180 : decode b_X_init 180 = .ok (.getfield 78, 3) := by decide +kernel
theorem d_X_init_183 : decode b_X_init 183 = .ok (.arraylength, 1) := by decide +kernel
theorem d_X_init_184 : decode b_X_init 184 = .ok (.if_icmp .ge 22, 3) := by decide +kernel
theorem d_X_init_187 : decode b_X_init 187 = .ok (.aload_n 0, 1) := by decide +kernel
theorem d_X_init_188 : decode b_X_init 188 = .ok (.getfield 78, 3) := by decide +kernel
theorem d_X_init_191 : decode b_X_init 191 = .ok (.iload_n 1, 1) := by decide +kernel
theorem d_X_init_192 : decode b_X_init 192 = .ok (.new 76, 3) := by decide +kernel
theorem d_X_init_195 : decode b_X_init 195 = .ok (.dup, 1) := by decide +kernel
theorem d_X_init_196 : decode b_X_init 196 = .ok (.invokespecial 82, 3) := by decide +kernel
theorem d_X_init_199 : decode b_X_init 199 = .ok (.aastore, 1) := by decide +kernel
theorem d_X_init_200 : decode b_X_init 200 = .ok (.iinc 1 1, 3) := by decide +kernel
theorem d_X_init_203 : decode b_X_init 203 = .ok (.goto (-25), 3) := by decide +kernel
theorem d_X_init_206 : decode b_X_init 206 = .ok (.return_, 1) := by decide +kernel
theorem d_X_taker_0 : decode b_X_taker 0 = .ok (.iload_n 1, 1) := by decide +kernel
theorem d_X_taker_1 : decode b_X_taker 1 = .ok (.iconst 0, 1) := by decide +kernel
theorem d_X_taker_2 : decode b_X_taker 2 = .ok (.bipush 6, 2) := by decide +kernel
theorem d_X_taker_4 : decode b_X_taker 4 = .ok (.invokestatic 83, 3) := by decide +kernel
theorem d_X_taker_7 : decode b_X_taker 7 = .ok (.ifCond .ne 5, 3) := by decide +kernel
theorem d_X_taker_10 : decode b_X_taker 10 = .ok (.iconst (-1), 1) := by decide +kernel
theorem d_X_taker_11 : decode b_X_taker 11 = .ok (.ireturn, 1) := by decide +kernel
theorem d_X_taker_12 : decode b_X_taker 12 = .ok (.iload_n 2, 1) := by decide +kernel
theorem d_X_taker_13 : decode b_X_taker 13 = .ok (.iconst 0, 1) := by decide +kernel
theorem d_X_taker_14 : decode b_X_taker 14 = .ok (.bipush 9, 2) := by decide +kernel
theorem d_X_taker_16 : decode b_X_taker 16 = .ok (.invokestatic 83, 3) := by decide +kernel
theorem d_X_taker_19 : decode b_X_taker 19 = .ok (.ifCond .eq 13, 3) := by decide +kernel
theorem d_X_taker_22 : decode b_X_taker 22 = .ok (.iload_n 3, 1) := by decide +kernel
theorem d_X_taker_23 : decode b_X_taker 23 = .ok (.iconst 1, 1) := by decide +kernel
theorem d_X_taker_24 : decode b_X_taker 24 = .ok (.bipush 60, 2) := by decide +kernel
theorem d_X_taker_26 : decode b_X_taker 26 = .ok (.invokestatic 83, 3) := by decide +kernel
theorem d_X_taker_29 : decode b_X_taker 29 = .ok (.ifCond .ne 6, 3) := by decide +kernel
theorem d_X_taker_32 : decode b_X_taker 32 = .ok (.bipush (-2), 2) := by decide +kernel
theorem d_X_taker_34 : decode b_X_taker 34 = .ok (.ireturn, 1) := by decide +kernel
theorem d_X_taker_35 : decode b_X_taker 35 = .ok (.aload_n 0, 1) := by decide +kernel
theorem d_X_taker_36 : decode b_X_taker 36 = .ok (.getfield 23, 3) := by decide +kernel
theorem d_X_taker_39 : decode b_X_taker 39 = .ok (.getfield 87, 3) := by decide +kernel
theorem d_X_taker_42 : decode b_X_taker 42 = .ok (.bipush 6, 2) := by decide +kernel
theorem d_X_taker_44 : decode b_X_taker 44 = .ok (.if_icmp .ge 16, 3) := by decide +kernel
theorem d_X_taker_47 : decode b_X_taker 47 = .ok (.aload_n 0, 1) := by decide +kernel
theorem d_X_taker_48 : decode b_X_taker 48 = .ok (.getfield 23, 3) := by decide +kernel
theorem d_X_taker_51 : decode b_X_taker 51 = .ok (.iload_n 1, 1) := by decide +kernel
theorem d_X_taker_52 : decode b_X_taker 52 = .ok (.iload_n 2, 1) := by decide +kernel
theorem d_X_taker_53 : decode b_X_taker 53 = .ok (.iload_n 3, 1) := by decide +kernel
theorem d_X_taker_54 : decode b_X_taker 54 = .ok (.invokevirtual 90, 3) := by decide +kernel
theorem d_X_taker_57 : decode b_X_taker 57 = .ok (.goto 5, 3) := by decide +kernel
theorem d_X_taker_60 : decode b_X_taker 60 = .ok (.bipush (-4), 2) := by decide +kernel
theorem d_X_taker_62 : decode b_X_taker 62 = .ok (.ireturn, 1) := by decide +kernel
theorem d_X_of_0 : decode b_X_of 0 = .ok (.aload_n 0, 1) := by decide +kernel
theorem d_X_of_1 : decode b_X_of 1 = .ok (.iload_n 1, 1) := by decide +kernel
theorem d_X_of_2 : decode b_X_of 2 = .ok (.invokevirtual 94, 3) := by decide +kernel
theorem d_X_of_5 : decode b_X_of 5 = .ok (.ifCond .ne 5, 3) := by decide +kernel
theorem d_X_of_8 : decode b_X_of 8 = .ok (.iconst (-1), 1) := by decide +kernel
theorem d_X_of_9 : decode b_X_of 9 = .ok (.ireturn, 1) := by decide +kernel
theorem d_X_of_10 : decode b_X_of 10 = .ok (.iload_n 2, 1) := by decide +kernel
theorem d_X_of_11 : decode b_X_of 11 = .ok (.tableswitch 123 0 7 #[45, 55, 65, 75, 85, 95, 105, 114], 45) := by decide +kernel
theorem d_X_of_56 : decode b_X_of 56 = .ok (.aload_n 0, 1) := by decide +kernel
theorem d_X_of_57 : decode b_X_of 57 = .ok (.getfield 23, 3) := by decide +kernel
theorem d_X_of_60 : decode b_X_of 60 = .ok (.getfield 98, 3) := by decide +kernel
theorem d_X_of_63 : decode b_X_of 63 = .ok (.iload_n 1, 1) := by decide +kernel
theorem d_X_of_64 : decode b_X_of 64 = .ok (.iaload, 1) := by decide +kernel
theorem d_X_of_65 : decode b_X_of 65 = .ok (.ireturn, 1) := by decide +kernel
theorem d_X_of_66 : decode b_X_of 66 = .ok (.aload_n 0, 1) := by decide +kernel
theorem d_X_of_67 : decode b_X_of 67 = .ok (.getfield 23, 3) := by decide +kernel
theorem d_X_of_70 : decode b_X_of 70 = .ok (.getfield 101, 3) := by decide +kernel
theorem d_X_of_73 : decode b_X_of 73 = .ok (.iload_n 1, 1) := by decide +kernel
theorem d_X_of_74 : decode b_X_of 74 = .ok (.iaload, 1) := by decide +kernel
theorem d_X_of_75 : decode b_X_of 75 = .ok (.ireturn, 1) := by decide +kernel
theorem d_X_of_76 : decode b_X_of 76 = .ok (.aload_n 0, 1) := by decide +kernel
theorem d_X_of_77 : decode b_X_of 77 = .ok (.getfield 23, 3) := by decide +kernel
theorem d_X_of_80 : decode b_X_of 80 = .ok (.getfield 104, 3) := by decide +kernel
theorem d_X_of_83 : decode b_X_of 83 = .ok (.iload_n 1, 1) := by decide +kernel
theorem d_X_of_84 : decode b_X_of 84 = .ok (.iaload, 1) := by decide +kernel
theorem d_X_of_85 : decode b_X_of 85 = .ok (.ireturn, 1) := by decide +kernel
theorem d_X_of_86 : decode b_X_of 86 = .ok (.aload_n 0, 1) := by decide +kernel
theorem d_X_of_87 : decode b_X_of 87 = .ok (.getfield 23, 3) := by decide +kernel
theorem d_X_of_90 : decode b_X_of 90 = .ok (.getfield 107, 3) := by decide +kernel
theorem d_X_of_93 : decode b_X_of 93 = .ok (.iload_n 1, 1) := by decide +kernel
theorem d_X_of_94 : decode b_X_of 94 = .ok (.iaload, 1) := by decide +kernel
theorem d_X_of_95 : decode b_X_of 95 = .ok (.ireturn, 1) := by decide +kernel
theorem d_X_of_96 : decode b_X_of 96 = .ok (.aload_n 0, 1) := by decide +kernel
theorem d_X_of_97 : decode b_X_of 97 = .ok (.getfield 23, 3) := by decide +kernel
theorem d_X_of_100 : decode b_X_of 100 = .ok (.getfield 110, 3) := by decide +kernel
theorem d_X_of_103 : decode b_X_of 103 = .ok (.iload_n 1, 1) := by decide +kernel
theorem d_X_of_104 : decode b_X_of 104 = .ok (.iaload, 1) := by decide +kernel
theorem d_X_of_105 : decode b_X_of 105 = .ok (.ireturn, 1) := by decide +kernel
theorem d_X_of_106 : decode b_X_of 106 = .ok (.aload_n 0, 1) := by decide +kernel
theorem d_X_of_107 : decode b_X_of 107 = .ok (.getfield 23, 3) := by decide +kernel
theorem d_X_of_110 : decode b_X_of 110 = .ok (.getfield 113, 3) := by decide +kernel
theorem d_X_of_113 : decode b_X_of 113 = .ok (.iload_n 1, 1) := by decide +kernel
theorem d_X_of_114 : decode b_X_of 114 = .ok (.iaload, 1) := by decide +kernel
theorem d_X_of_115 : decode b_X_of 115 = .ok (.ireturn, 1) := by decide +kernel
theorem d_X_of_116 : decode b_X_of 116 = .ok (.aload_n 0, 1) := by decide +kernel
theorem d_X_of_117 : decode b_X_of 117 = .ok (.getfield 23, 3) := by decide +kernel
theorem d_X_of_120 : decode b_X_of 120 = .ok (.iload_n 1, 1) := by decide +kernel
theorem d_X_of_121 : decode b_X_of 121 = .ok (.invokevirtual 116, 3) := by decide +kernel
theorem d_X_of_124 : decode b_X_of 124 = .ok (.ireturn, 1) := by decide +kernel
theorem d_X_of_125 : decode b_X_of 125 = .ok (.aload_n 0, 1) := by decide +kernel
theorem d_X_of_126 : decode b_X_of 126 = .ok (.getfield 23, 3) := by decide +kernel
theorem d_X_of_129 : decode b_X_of 129 = .ok (.iload_n 1, 1) := by decide +kernel
theorem d_X_of_130 : decode b_X_of 130 = .ok (.invokevirtual 120, 3) := by decide +kernel
theorem d_X_of_133 : decode b_X_of 133 = .ok (.ireturn, 1) := by decide +kernel
theorem d_X_of_134 : decode b_X_of 134 = .ok (.iconst (-1), 1) := by decide +kernel
theorem d_X_of_135 : decode b_X_of 135 = .ok (.ireturn, 1) := by decide +kernel
theorem d_X_portion_0 : decode b_X_portion 0 = .ok (.aload_n 0, 1) := by decide +kernel
theorem d_X_portion_1 : decode b_X_portion 1 = .ok (.iload_n 1, 1) := by decide +kernel
theorem d_X_portion_2 : decode b_X_portion 2 = .ok (.invokevirtual 94, 3) := by decide +kernel
theorem d_X_portion_5 : decode b_X_portion 5 = .ok (.ifCond .ne 5, 3) := by decide +kernel
theorem d_X_portion_8 : decode b_X_portion 8 = .ok (.iconst (-1), 1) := by decide +kernel
theorem d_X_portion_9 : decode b_X_portion 9 = .ok (.ireturn, 1) := by decide +kernel
theorem d_X_portion_10 : decode b_X_portion 10 = .ok (.iload_n 2, 1) := by decide +kernel
theorem d_X_portion_11 : decode b_X_portion 11 = .ok (.iconst 1, 1) := by decide +kernel
theorem d_X_portion_12 : decode b_X_portion 12 = .ok (.bipush 60, 2) := by decide +kernel
theorem d_X_portion_14 : decode b_X_portion 14 = .ok (.invokestatic 83, 3) := by decide +kernel
theorem d_X_portion_17 : decode b_X_portion 17 = .ok (.ifCond .ne 6, 3) := by decide +kernel
theorem d_X_portion_20 : decode b_X_portion 20 = .ok (.bipush (-2), 2) := by decide +kernel
theorem d_X_portion_22 : decode b_X_portion 22 = .ok (.ireturn, 1) := by decide +kernel
theorem d_X_portion_23 : decode b_X_portion 23 = .ok (.aload_n 0, 1) := by decide +kernel
theorem d_X_portion_24 : decode b_X_portion 24 = .ok (.getfield 23, 3) := by decide +kernel
theorem d_X_portion_27 : decode b_X_portion 27 = .ok (.getfield 104, 3) := by decide +kernel
theorem d_X_portion_30 : decode b_X_portion 30 = .ok (.iload_n 1, 1) := by decide +kernel
theorem d_X_portion_31 : decode b_X_portion 31 = .ok (.iaload, 1) := by decide +kernel
theorem d_X_portion_32 : decode b_X_portion 32 = .ok (.istore_n 3, 1) := by decide +kernel
theorem d_X_portion_33 : decode b_X_portion 33 = .ok (.aload_n 0, 1) := by decide +kernel
theorem d_X_portion_34 : decode b_X_portion 34 = .ok (.getfield 23, 3) := by decide +kernel
theorem d_X_portion_37 : decode b_X_portion 37 = .ok (.getfield 104, 3) := by decide +kernel
theorem d_X_portion_40 : decode b_X_portion 40 = .ok (.iload_n 1, 1) := by decide +kernel
theorem d_X_portion_41 : decode b_X_portion 41 = .ok (.iload_n 2, 1) := by decide +kernel
theorem d_X_portion_42 : decode b_X_portion 42 = .ok (.iastore, 1) := by decide +kernel
theorem d_X_portion_43 : decode b_X_portion 43 = .ok (.iload_n 3, 1) := by decide +kernel
theorem d_X_portion_44 : decode b_X_portion 44 = .ok (.ireturn, 1) := by decide +kernel
theorem d_X_fill_0 : decode b_X_fill 0 = .ok (.iload_n 1, 1) := by decide +kernel
theorem d_X_fill_1 : decode b_X_fill 1 = .ok (.iconst 0, 1) := by decide +kernel
theorem d_X_fill_2 : decode b_X_fill 2 = .ok (.sipush 990, 3) := by decide +kernel
theorem d_X_fill_5 : decode b_X_fill 5 = .ok (.invokestatic 83, 3) := by decide +kernel
theorem d_X_fill_8 : decode b_X_fill 8 = .ok (.ifCond .ne 6, 3) := by decide +kernel
theorem d_X_fill_11 : decode b_X_fill 11 = .ok (.bipush (-2), 2) := by decide +kernel
theorem d_X_fill_13 : decode b_X_fill 13 = .ok (.ireturn, 1) := by decide +kernel
theorem d_X_fill_14 : decode b_X_fill 14 = .ok (.aload_n 0, 1) := by decide +kernel
theorem d_X_fill_15 : decode b_X_fill 15 = .ok (.getfield 23, 3) := by decide +kernel
theorem d_X_fill_18 : decode b_X_fill 18 = .ok (.getfield 123, 3) := by decide +kernel
theorem d_X_fill_21 : decode b_X_fill 21 = .ok (.istore_n 2, 1) := by decide +kernel
theorem d_X_fill_22 : decode b_X_fill 22 = .ok (.aload_n 0, 1) := by decide +kernel
theorem d_X_fill_23 : decode b_X_fill 23 = .ok (.getfield 23, 3) := by decide +kernel
theorem d_X_fill_26 : decode b_X_fill 26 = .ok (.iload_n 1, 1) := by decide +kernel
theorem d_X_fill_27 : decode b_X_fill 27 = .ok (.putfield 123, 3) := by decide +kernel
theorem d_X_fill_30 : decode b_X_fill 30 = .ok (.iload_n 2, 1) := by decide +kernel
theorem d_X_fill_31 : decode b_X_fill 31 = .ok (.ireturn, 1) := by decide +kernel
theorem d_X_row_0 : decode b_X_row 0 = .ok (.aload_n 0, 1) := by decide +kernel
theorem d_X_row_1 : decode b_X_row 1 = .ok (.iload_n 1, 1) := by decide +kernel
theorem d_X_row_2 : decode b_X_row 2 = .ok (.invokevirtual 94, 3) := by decide +kernel
theorem d_X_row_5 : decode b_X_row 5 = .ok (.ifCond .eq 12, 3) := by decide +kernel
theorem d_X_row_8 : decode b_X_row 8 = .ok (.iload_n 2, 1) := by decide +kernel
theorem d_X_row_9 : decode b_X_row 9 = .ok (.iconst 0, 1) := by decide +kernel
theorem d_X_row_10 : decode b_X_row 10 = .ok (.iconst 3, 1) := by decide +kernel
theorem d_X_row_11 : decode b_X_row 11 = .ok (.invokestatic 83, 3) := by decide +kernel
theorem d_X_row_14 : decode b_X_row 14 = .ok (.ifCond .ne 5, 3) := by decide +kernel
theorem d_X_row_17 : decode b_X_row 17 = .ok (.iconst (-1), 1) := by decide +kernel
theorem d_X_row_18 : decode b_X_row 18 = .ok (.ireturn, 1) := by decide +kernel
theorem d_X_row_19 : decode b_X_row 19 = .ok (.iload_n 3, 1) := by decide +kernel
theorem d_X_row_20 : decode b_X_row 20 = .ok (.iconst 0, 1) := by decide +kernel
theorem d_X_row_21 : decode b_X_row 21 = .ok (.bipush 9, 2) := by decide +kernel
theorem d_X_row_23 : decode b_X_row 23 = .ok (.invokestatic 83, 3) := by decide +kernel
theorem d_X_row_26 : decode b_X_row 26 = .ok (.ifCond .ne 6, 3) := by decide +kernel
theorem d_X_row_29 : decode b_X_row 29 = .ok (.bipush (-2), 2) := by decide +kernel
theorem d_X_row_31 : decode b_X_row 31 = .ok (.ireturn, 1) := by decide +kernel
theorem d_X_row_32 : decode b_X_row 32 = .ok (.aload_n 0, 1) := by decide +kernel
theorem d_X_row_33 : decode b_X_row 33 = .ok (.getfield 23, 3) := by decide +kernel
theorem d_X_row_36 : decode b_X_row 36 = .ok (.getfield 98, 3) := by decide +kernel
theorem d_X_row_39 : decode b_X_row 39 = .ok (.iload_n 1, 1) := by decide +kernel
theorem d_X_row_40 : decode b_X_row 40 = .ok (.iaload, 1) := by decide +kernel
theorem d_X_row_41 : decode b_X_row 41 = .ok (.bipush 6, 2) := by decide +kernel
theorem d_X_row_43 : decode b_X_row 43 = .ok (.if_icmp .eq 6, 3) := by decide +kernel
theorem d_X_row_46 : decode b_X_row 46 = .ok (.bipush (-3), 2) := by decide +kernel
theorem d_X_row_48 : decode b_X_row 48 = .ok (.ireturn, 1) := by decide +kernel
theorem d_X_row_49 : decode b_X_row 49 = .ok (.iload_n 1, 1) := by decide +kernel
theorem d_X_row_50 : decode b_X_row 50 = .ok (.iconst 4, 1) := by decide +kernel
theorem d_X_row_51 : decode b_X_row 51 = .ok (.imul, 1) := by decide +kernel
theorem d_X_row_52 : decode b_X_row 52 = .ok (.iload_n 2, 1) := by decide +kernel
theorem d_X_row_53 : decode b_X_row 53 = .ok (.iadd, 1) := by decide +kernel
theorem d_X_row_54 : decode b_X_row 54 = .ok (.istore 4, 2) := by decide +kernel
theorem d_X_row_56 : decode b_X_row 56 = .ok (.aload_n 0, 1) := by decide +kernel
theorem d_X_row_57 : decode b_X_row 57 = .ok (.getfield 23, 3) := by decide +kernel
theorem d_X_row_60 : decode b_X_row 60 = .ok (.getfield 126, 3) := by decide +kernel
theorem d_X_row_63 : decode b_X_row 63 = .ok (.iload 4, 2) := by decide +kernel
theorem d_X_row_65 : decode b_X_row 65 = .ok (.iaload, 1) := by decide +kernel
theorem d_X_row_66 : decode b_X_row 66 = .ok (.istore 5, 2) := by decide +kernel
theorem d_X_row_68 : decode b_X_row 68 = .ok (.aload_n 0, 1) := by decide +kernel
theorem d_X_row_69 : decode b_X_row 69 = .ok (.getfield 23, 3) := by decide +kernel
theorem d_X_row_72 : decode b_X_row 72 = .ok (.getfield 126, 3) := by decide +kernel
theorem d_X_row_75 : decode b_X_row 75 = .ok (.iload 4, 2) := by decide +kernel
theorem d_X_row_77 : decode b_X_row 77 = .ok (.iload_n 3, 1) := by decide +kernel
theorem d_X_row_78 : decode b_X_row 78 = .ok (.iastore, 1) := by decide +kernel
theorem d_X_row_79 : decode b_X_row 79 = .ok (.iload 5, 2) := by decide +kernel
theorem d_X_row_81 : decode b_X_row 81 = .ok (.ireturn, 1) := by decide +kernel
theorem d_X_feed_0 : decode b_X_feed 0 = .ok (.iload_n 1, 1) := by decide +kernel
theorem d_X_feed_1 : decode b_X_feed 1 = .ok (.iconst 0, 1) := by decide +kernel
theorem d_X_feed_2 : decode b_X_feed 2 = .ok (.bipush 127, 2) := by decide +kernel
theorem d_X_feed_4 : decode b_X_feed 4 = .ok (.invokestatic 83, 3) := by decide +kernel
theorem d_X_feed_7 : decode b_X_feed 7 = .ok (.ifCond .ne 6, 3) := by decide +kernel
theorem d_X_feed_10 : decode b_X_feed 10 = .ok (.bipush (-2), 2) := by decide +kernel
theorem d_X_feed_12 : decode b_X_feed 12 = .ok (.ireturn, 1) := by decide +kernel
theorem d_X_feed_13 : decode b_X_feed 13 = .ok (.aload_n 0, 1) := by decide +kernel
theorem d_X_feed_14 : decode b_X_feed 14 = .ok (.getfield 50, 3) := by decide +kernel
theorem d_X_feed_17 : decode b_X_feed 17 = .ok (.getfield 129, 3) := by decide +kernel
theorem d_X_feed_20 : decode b_X_feed 20 = .ok (.bipush 100, 2) := by decide +kernel
theorem d_X_feed_22 : decode b_X_feed 22 = .ok (.if_icmp .lt 6, 3) := by decide +kernel
theorem d_X_feed_25 : decode b_X_feed 25 = .ok (.bipush (-4), 2) := by decide +kernel
theorem d_X_feed_27 : decode b_X_feed 27 = .ok (.ireturn, 1) := by decide +kernel
theorem d_X_feed_28 : decode b_X_feed 28 = .ok (.aload_n 0, 1) := by decide +kernel
theorem d_X_feed_29 : decode b_X_feed 29 = .ok (.getfield 50, 3) := by decide +kernel
theorem d_X_feed_32 : decode b_X_feed 32 = .ok (.getfield 132, 3) := by decide +kernel
theorem d_X_feed_35 : decode b_X_feed 35 = .ok (.aload_n 0, 1) := by decide +kernel
theorem d_X_feed_36 : decode b_X_feed 36 = .ok (.getfield 50, 3) := by decide +kernel
theorem d_X_feed_39 : decode b_X_feed 39 = .ok (.getfield 129, 3) := by decide +kernel
theorem d_X_feed_42 : decode b_X_feed 42 = .ok (.iload_n 1, 1) := by decide +kernel
theorem d_X_feed_43 : decode b_X_feed 43 = .ok (.i2b, 1) := by decide +kernel
theorem d_X_feed_44 : decode b_X_feed 44 = .ok (.bastore, 1) := by decide +kernel
theorem d_X_feed_45 : decode b_X_feed 45 = .ok (.aload_n 0, 1) := by decide +kernel
theorem d_X_feed_46 : decode b_X_feed 46 = .ok (.getfield 50, 3) := by decide +kernel
theorem d_X_feed_49 : decode b_X_feed 49 = .ok (.dup, 1) := by decide +kernel
theorem d_X_feed_50 : decode b_X_feed 50 = .ok (.getfield 129, 3) := by decide +kernel
theorem d_X_feed_53 : decode b_X_feed 53 = .ok (.iconst 1, 1) := by decide +kernel
theorem d_X_feed_54 : decode b_X_feed 54 = .ok (.iadd, 1) := by decide +kernel
theorem d_X_feed_55 : decode b_X_feed 55 = .ok (.putfield 129, 3) := by decide +kernel
theorem d_X_feed_58 : decode b_X_feed 58 = .ok (.aload_n 0, 1) := by decide +kernel
theorem d_X_feed_59 : decode b_X_feed 59 = .ok (.getfield 50, 3) := by decide +kernel
theorem d_X_feed_62 : decode b_X_feed 62 = .ok (.getfield 129, 3) := by decide +kernel
theorem d_X_feed_65 : decode b_X_feed 65 = .ok (.ireturn, 1) := by decide +kernel
theorem d_X_rule_0 : decode b_X_rule 0 = .ok (.aload_n 0, 1) := by decide +kernel
theorem d_X_rule_1 : decode b_X_rule 1 = .ok (.getfield 58, 3) := by decide +kernel
theorem d_X_rule_4 : decode b_X_rule 4 = .ok (.bipush 6, 2) := by decide +kernel
theorem d_X_rule_6 : decode b_X_rule 6 = .ok (.if_icmp .lt 6, 3) := by decide +kernel
theorem d_X_rule_9 : decode b_X_rule 9 = .ok (.bipush (-4), 2) := by decide +kernel
theorem d_X_rule_11 : decode b_X_rule 11 = .ok (.ireturn, 1) := by decide +kernel
theorem d_X_rule_12 : decode b_X_rule 12 = .ok (.aload_n 0, 1) := by decide +kernel
theorem d_X_rule_13 : decode b_X_rule 13 = .ok (.getfield 54, 3) := by decide +kernel
theorem d_X_rule_16 : decode b_X_rule 16 = .ok (.aload_n 0, 1) := by decide +kernel
theorem d_X_rule_17 : decode b_X_rule 17 = .ok (.getfield 58, 3) := by decide +kernel
theorem d_X_rule_20 : decode b_X_rule 20 = .ok (.aaload, 1) := by decide +kernel
theorem d_X_rule_21 : decode b_X_rule 21 = .ok (.astore_n 1, 1) := by decide +kernel
theorem d_X_rule_22 : decode b_X_rule 22 = .ok (.aload_n 0, 1) := by decide +kernel
theorem d_X_rule_23 : decode b_X_rule 23 = .ok (.getfield 50, 3) := by decide +kernel
theorem d_X_rule_26 : decode b_X_rule 26 = .ok (.aload_n 1, 1) := by decide +kernel
theorem d_X_rule_27 : decode b_X_rule 27 = .ok (.invokevirtual 136, 3) := by decide +kernel
theorem d_X_rule_30 : decode b_X_rule 30 = .ok (.istore_n 2, 1) := by decide +kernel
theorem d_X_rule_31 : decode b_X_rule 31 = .ok (.aload_n 0, 1) := by decide +kernel
theorem d_X_rule_32 : decode b_X_rule 32 = .ok (.getfield 50, 3) := by decide +kernel
theorem d_X_rule_35 : decode b_X_rule 35 = .ok (.iconst 0, 1) := by decide +kernel
theorem d_X_rule_36 : decode b_X_rule 36 = .ok (.putfield 129, 3) := by decide +kernel
theorem d_X_rule_39 : decode b_X_rule 39 = .ok (.iload_n 2, 1) := by decide +kernel
theorem d_X_rule_40 : decode b_X_rule 40 = .ok (.ifCond .ne 14, 3) := by decide +kernel
theorem d_X_rule_43 : decode b_X_rule 43 = .ok (.bipush (-10), 2) := by decide +kernel
theorem d_X_rule_45 : decode b_X_rule 45 = .ok (.aload_n 0, 1) := by decide +kernel
theorem d_X_rule_46 : decode b_X_rule 46 = .ok (.getfield 50, 3) := by decide +kernel
theorem d_X_rule_49 : decode b_X_rule 49 = .ok (.getfield 140, 3) := by decide +kernel
theorem d_X_rule_52 : decode b_X_rule 52 = .ok (.isub, 1) := by decide +kernel
theorem d_X_rule_53 : decode b_X_rule 53 = .ok (.ireturn, 1) := by decide +kernel
theorem d_X_rule_54 : decode b_X_rule 54 = .ok (.aload_n 0, 1) := by decide +kernel
theorem d_X_rule_55 : decode b_X_rule 55 = .ok (.getfield 23, 3) := by decide +kernel
theorem d_X_rule_58 : decode b_X_rule 58 = .ok (.aload_n 1, 1) := by decide +kernel
theorem d_X_rule_59 : decode b_X_rule 59 = .ok (.invokevirtual 143, 3) := by decide +kernel
theorem d_X_rule_62 : decode b_X_rule 62 = .ok (.aload_n 0, 1) := by decide +kernel
theorem d_X_rule_63 : decode b_X_rule 63 = .ok (.dup, 1) := by decide +kernel
theorem d_X_rule_64 : decode b_X_rule 64 = .ok (.getfield 58, 3) := by decide +kernel
theorem d_X_rule_67 : decode b_X_rule 67 = .ok (.iconst 1, 1) := by decide +kernel
theorem d_X_rule_68 : decode b_X_rule 68 = .ok (.iadd, 1) := by decide +kernel
theorem d_X_rule_69 : decode b_X_rule 69 = .ok (.putfield 58, 3) := by decide +kernel
theorem d_X_rule_72 : decode b_X_rule 72 = .ok (.aload_n 0, 1) := by decide +kernel
theorem d_X_rule_73 : decode b_X_rule 73 = .ok (.getfield 58, 3) := by decide +kernel
theorem d_X_rule_76 : decode b_X_rule 76 = .ok (.iconst 1, 1) := by decide +kernel
theorem d_X_rule_77 : decode b_X_rule 77 = .ok (.isub, 1) := by decide +kernel
theorem d_X_rule_78 : decode b_X_rule 78 = .ok (.ireturn, 1) := by decide +kernel
theorem d_X_told_0 : decode b_X_told 0 = .ok (.iload_n 1, 1) := by decide +kernel
theorem d_X_told_1 : decode b_X_told 1 = .ok (.tableswitch 85 0 4 #[35, 43, 51, 59, 67], 35) := by decide +kernel
theorem d_X_told_36 : decode b_X_told 36 = .ok (.aload_n 0, 1) := by decide +kernel
theorem d_X_told_37 : decode b_X_told 37 = .ok (.getfield 23, 3) := by decide +kernel
theorem d_X_told_40 : decode b_X_told 40 = .ok (.getfield 123, 3) := by decide +kernel
theorem d_X_told_43 : decode b_X_told 43 = .ok (.ireturn, 1) := by decide +kernel
theorem d_X_told_44 : decode b_X_told 44 = .ok (.aload_n 0, 1) := by decide +kernel
theorem d_X_told_45 : decode b_X_told 45 = .ok (.getfield 23, 3) := by decide +kernel
theorem d_X_told_48 : decode b_X_told 48 = .ok (.getfield 146, 3) := by decide +kernel
theorem d_X_told_51 : decode b_X_told 51 = .ok (.ireturn, 1) := by decide +kernel
theorem d_X_told_52 : decode b_X_told 52 = .ok (.aload_n 0, 1) := by decide +kernel
theorem d_X_told_53 : decode b_X_told 53 = .ok (.getfield 23, 3) := by decide +kernel
theorem d_X_told_56 : decode b_X_told 56 = .ok (.getfield 149, 3) := by decide +kernel
theorem d_X_told_59 : decode b_X_told 59 = .ok (.ireturn, 1) := by decide +kernel
theorem d_X_told_60 : decode b_X_told 60 = .ok (.aload_n 0, 1) := by decide +kernel
theorem d_X_told_61 : decode b_X_told 61 = .ok (.getfield 23, 3) := by decide +kernel
theorem d_X_told_64 : decode b_X_told 64 = .ok (.getfield 152, 3) := by decide +kernel
theorem d_X_told_67 : decode b_X_told 67 = .ok (.ireturn, 1) := by decide +kernel
theorem d_X_told_68 : decode b_X_told 68 = .ok (.aload_n 0, 1) := by decide +kernel
theorem d_X_told_69 : decode b_X_told 69 = .ok (.getfield 23, 3) := by decide +kernel
theorem d_X_told_72 : decode b_X_told 72 = .ok (.getfield 110, 3) := by decide +kernel
theorem d_X_told_75 : decode b_X_told 75 = .ok (.aload_n 0, 1) := by decide +kernel
theorem d_X_told_76 : decode b_X_told 76 = .ok (.getfield 23, 3) := by decide +kernel
theorem d_X_told_79 : decode b_X_told 79 = .ok (.getfield 87, 3) := by decide +kernel
theorem d_X_told_82 : decode b_X_told 82 = .ok (.invokestatic 155, 3) := by decide +kernel
theorem d_X_told_85 : decode b_X_told 85 = .ok (.ireturn, 1) := by decide +kernel
theorem d_X_told_86 : decode b_X_told 86 = .ok (.iconst (-1), 1) := by decide +kernel
theorem d_X_told_87 : decode b_X_told 87 = .ok (.ireturn, 1) := by decide +kernel
theorem d_X_takes_0 : decode b_X_takes 0 = .ok (.aload_n 0, 1) := by decide +kernel
theorem d_X_takes_1 : decode b_X_takes 1 = .ok (.iload_n 1, 1) := by decide +kernel
theorem d_X_takes_2 : decode b_X_takes 2 = .ok (.invokevirtual 94, 3) := by decide +kernel
theorem d_X_takes_5 : decode b_X_takes 5 = .ok (.ifCond .eq 14, 3) := by decide +kernel
theorem d_X_takes_8 : decode b_X_takes 8 = .ok (.aload_n 0, 1) := by decide +kernel
theorem d_X_takes_9 : decode b_X_takes 9 = .ok (.getfield 23, 3) := by decide +kernel
theorem d_X_takes_12 : decode b_X_takes 12 = .ok (.iload_n 1, 1) := by decide +kernel
theorem d_X_takes_13 : decode b_X_takes 13 = .ok (.invokevirtual 159, 3) := by decide +kernel
theorem d_X_takes_16 : decode b_X_takes 16 = .ok (.goto 4, 3) := by decide +kernel
theorem d_X_takes_19 : decode b_X_takes 19 = .ok (.iconst (-1), 1) := by decide +kernel
theorem d_X_takes_20 : decode b_X_takes 20 = .ok (.ireturn, 1) := by decide +kernel
theorem d_X_day_0 : decode b_X_day 0 = .ok (.aload_n 0, 1) := by decide +kernel
theorem d_X_day_1 : decode b_X_day 1 = .ok (.getfield 23, 3) := by decide +kernel
theorem d_X_day_4 : decode b_X_day 4 = .ok (.getfield 146, 3) := by decide +kernel
theorem d_X_day_7 : decode b_X_day 7 = .ok (.sipush 9999, 3) := by decide +kernel
theorem d_X_day_10 : decode b_X_day 10 = .ok (.if_icmp .ge 16, 3) := by decide +kernel
theorem d_X_day_13 : decode b_X_day 13 = .ok (.aload_n 0, 1) := by decide +kernel
theorem d_X_day_14 : decode b_X_day 14 = .ok (.getfield 23, 3) := by decide +kernel
theorem d_X_day_17 : decode b_X_day 17 = .ok (.iconst 1, 1) := by decide +kernel
theorem d_X_day_18 : decode b_X_day 18 = .ok (.iconst (-1), 1) := by decide +kernel
theorem d_X_day_19 : decode b_X_day 19 = .ok (.iconst (-1), 1) := by decide +kernel
theorem d_X_day_20 : decode b_X_day 20 = .ok (.invokevirtual 162, 3) := by decide +kernel
theorem d_X_day_23 : decode b_X_day 23 = .ok (.goto 5, 3) := by decide +kernel
theorem d_X_day_26 : decode b_X_day 26 = .ok (.bipush (-3), 2) := by decide +kernel
theorem d_X_day_28 : decode b_X_day 28 = .ok (.ireturn, 1) := by decide +kernel
theorem d_X_on_0 : decode b_X_on 0 = .ok (.aload_n 0, 1) := by decide +kernel
theorem d_X_on_1 : decode b_X_on 1 = .ok (.iload_n 2, 1) := by decide +kernel
theorem d_X_on_2 : decode b_X_on 2 = .ok (.bipush 10, 2) := by decide +kernel
theorem d_X_on_4 : decode b_X_on 4 = .ok (.isub, 1) := by decide +kernel
theorem d_X_on_5 : decode b_X_on 5 = .ok (.invokevirtual 94, 3) := by decide +kernel
theorem d_X_on_8 : decode b_X_on 8 = .ok (.istore_n 3, 1) := by decide +kernel
theorem d_X_on_9 : decode b_X_on 9 = .ok (.aload_n 0, 1) := by decide +kernel
theorem d_X_on_10 : decode b_X_on 10 = .ok (.iload_n 2, 1) := by decide +kernel
theorem d_X_on_11 : decode b_X_on 11 = .ok (.bipush 20, 2) := by decide +kernel
theorem d_X_on_13 : decode b_X_on 13 = .ok (.isub, 1) := by decide +kernel
theorem d_X_on_14 : decode b_X_on 14 = .ok (.invokevirtual 94, 3) := by decide +kernel
theorem d_X_on_17 : decode b_X_on 17 = .ok (.istore 4, 2) := by decide +kernel
theorem d_X_on_19 : decode b_X_on 19 = .ok (.iload_n 3, 1) := by decide +kernel
theorem d_X_on_20 : decode b_X_on 20 = .ok (.ifCond .ne 19, 3) := by decide +kernel
theorem d_X_on_23 : decode b_X_on 23 = .ok (.iload 4, 2) := by decide +kernel
theorem d_X_on_25 : decode b_X_on 25 = .ok (.ifCond .ne 14, 3) := by decide +kernel
theorem d_X_on_28 : decode b_X_on 28 = .ok (.iload_n 2, 1) := by decide +kernel
theorem d_X_on_29 : decode b_X_on 29 = .ok (.iconst 0, 1) := by decide +kernel
theorem d_X_on_30 : decode b_X_on 30 = .ok (.iconst 2, 1) := by decide +kernel
theorem d_X_on_31 : decode b_X_on 31 = .ok (.invokestatic 83, 3) := by decide +kernel
theorem d_X_on_34 : decode b_X_on 34 = .ok (.ifCond .ne 5, 3) := by decide +kernel
theorem d_X_on_37 : decode b_X_on 37 = .ok (.iconst (-1), 1) := by decide +kernel
theorem d_X_on_38 : decode b_X_on 38 = .ok (.ireturn, 1) := by decide +kernel
theorem d_X_on_39 : decode b_X_on 39 = .ok (.iload_n 1, 1) := by decide +kernel
theorem d_X_on_40 : decode b_X_on 40 = .ok (.iconst 0, 1) := by decide +kernel
theorem d_X_on_41 : decode b_X_on 41 = .ok (.bipush 60, 2) := by decide +kernel
theorem d_X_on_43 : decode b_X_on 43 = .ok (.invokestatic 83, 3) := by decide +kernel
theorem d_X_on_46 : decode b_X_on 46 = .ok (.ifCond .ne 6, 3) := by decide +kernel
theorem d_X_on_49 : decode b_X_on 49 = .ok (.bipush (-2), 2) := by decide +kernel
theorem d_X_on_51 : decode b_X_on 51 = .ok (.ireturn, 1) := by decide +kernel
theorem d_X_on_52 : decode b_X_on 52 = .ok (.aload_n 0, 1) := by decide +kernel
theorem d_X_on_53 : decode b_X_on 53 = .ok (.getfield 30, 3) := by decide +kernel
theorem d_X_on_56 : decode b_X_on 56 = .ok (.aload_n 0, 1) := by decide +kernel
theorem d_X_on_57 : decode b_X_on 57 = .ok (.getfield 23, 3) := by decide +kernel
theorem d_X_on_60 : decode b_X_on 60 = .ok (.invokevirtual 165, 3) := by decide +kernel
theorem d_X_on_63 : decode b_X_on 63 = .ok (.aload_n 0, 1) := by decide +kernel
theorem d_X_on_64 : decode b_X_on 64 = .ok (.getfield 30, 3) := by decide +kernel
theorem d_X_on_67 : decode b_X_on 67 = .ok (.iload_n 1, 1) := by decide +kernel
theorem d_X_on_68 : decode b_X_on 68 = .ok (.iconst (-1), 1) := by decide +kernel
theorem d_X_on_69 : decode b_X_on 69 = .ok (.iconst (-1), 1) := by decide +kernel
theorem d_X_on_70 : decode b_X_on 70 = .ok (.invokevirtual 162, 3) := by decide +kernel
theorem d_X_on_73 : decode b_X_on 73 = .ok (.istore 5, 2) := by decide +kernel
theorem d_X_on_75 : decode b_X_on 75 = .ok (.iload_n 3, 1) := by decide +kernel
theorem d_X_on_76 : decode b_X_on 76 = .ok (.ifCond .eq 12, 3) := by decide +kernel
theorem d_X_on_79 : decode b_X_on 79 = .ok (.aload_n 0, 1) := by decide +kernel
theorem d_X_on_80 : decode b_X_on 80 = .ok (.iload_n 2, 1) := by decide +kernel
theorem d_X_on_81 : decode b_X_on 81 = .ok (.bipush 10, 2) := by decide +kernel
theorem d_X_on_83 : decode b_X_on 83 = .ok (.isub, 1) := by decide +kernel
theorem d_X_on_84 : decode b_X_on 84 = .ok (.invokevirtual 169, 3) := by decide +kernel
theorem d_X_on_87 : decode b_X_on 87 = .ok (.ireturn, 1) := by decide +kernel
theorem d_X_on_88 : decode b_X_on 88 = .ok (.iload 4, 2) := by decide +kernel
theorem d_X_on_90 : decode b_X_on 90 = .ok (.ifCond .eq 12, 3) := by decide +kernel
theorem d_X_on_93 : decode b_X_on 93 = .ok (.aload_n 0, 1) := by decide +kernel
theorem d_X_on_94 : decode b_X_on 94 = .ok (.iload_n 2, 1) := by decide +kernel
theorem d_X_on_95 : decode b_X_on 95 = .ok (.bipush 20, 2) := by decide +kernel
theorem d_X_on_97 : decode b_X_on 97 = .ok (.isub, 1) := by decide +kernel
theorem d_X_on_98 : decode b_X_on 98 = .ok (.invokevirtual 172, 3) := by decide +kernel
theorem d_X_on_101 : decode b_X_on 101 = .ok (.ireturn, 1) := by decide +kernel
theorem d_X_on_102 : decode b_X_on 102 = .ok (.iload_n 2, 1) := by decide +kernel
theorem d_X_on_103 : decode b_X_on 103 = .ok (.lookupswitch 36 #[(0, 25), (1, 33)], 25) := by decide +kernel
theorem d_X_on_128 : decode b_X_on 128 = .ok (.aload_n 0, 1) := by decide +kernel
theorem d_X_on_129 : decode b_X_on 129 = .ok (.getfield 30, 3) := by decide +kernel
theorem d_X_on_132 : decode b_X_on 132 = .ok (.getfield 123, 3) := by decide +kernel
theorem d_X_on_135 : decode b_X_on 135 = .ok (.ireturn, 1) := by decide +kernel
theorem d_X_on_136 : decode b_X_on 136 = .ok (.iload 5, 2) := by decide +kernel
theorem d_X_on_138 : decode b_X_on 138 = .ok (.ireturn, 1) := by decide +kernel
theorem d_X_on_139 : decode b_X_on 139 = .ok (.aload_n 0, 1) := by decide +kernel
theorem d_X_on_140 : decode b_X_on 140 = .ok (.getfield 30, 3) := by decide +kernel
theorem d_X_on_143 : decode b_X_on 143 = .ok (.getfield 113, 3) := by decide +kernel
theorem d_X_on_146 : decode b_X_on 146 = .ok (.aload_n 0, 1) := by decide +kernel
theorem d_X_on_147 : decode b_X_on 147 = .ok (.getfield 30, 3) := by decide +kernel
theorem d_X_on_150 : decode b_X_on 150 = .ok (.getfield 87, 3) := by decide +kernel
theorem d_X_on_153 : decode b_X_on 153 = .ok (.invokestatic 155, 3) := by decide +kernel
theorem d_X_on_156 : decode b_X_on 156 = .ok (.aload_n 0, 1) := by decide +kernel
theorem d_X_on_157 : decode b_X_on 157 = .ok (.getfield 23, 3) := by decide +kernel
theorem d_X_on_160 : decode b_X_on 160 = .ok (.getfield 113, 3) := by decide +kernel
theorem d_X_on_163 : decode b_X_on 163 = .ok (.aload_n 0, 1) := by decide +kernel
theorem d_X_on_164 : decode b_X_on 164 = .ok (.getfield 23, 3) := by decide +kernel
theorem d_X_on_167 : decode b_X_on 167 = .ok (.getfield 87, 3) := by decide +kernel
theorem d_X_on_170 : decode b_X_on 170 = .ok (.invokestatic 155, 3) := by decide +kernel
theorem d_X_on_173 : decode b_X_on 173 = .ok (.isub, 1) := by decide +kernel
theorem d_X_on_174 : decode b_X_on 174 = .ok (.ireturn, 1) := by decide +kernel
theorem d_X_would_0 : decode b_X_would 0 = .ok (.aload_n 0, 1) := by decide +kernel
theorem d_X_would_1 : decode b_X_would 1 = .ok (.iload_n 1, 1) := by decide +kernel
theorem d_X_would_2 : decode b_X_would 2 = .ok (.invokevirtual 94, 3) := by decide +kernel
theorem d_X_would_5 : decode b_X_would 5 = .ok (.ifCond .eq 12, 3) := by decide +kernel
theorem d_X_would_8 : decode b_X_would 8 = .ok (.iload_n 2, 1) := by decide +kernel
theorem d_X_would_9 : decode b_X_would 9 = .ok (.iconst 0, 1) := by decide +kernel
theorem d_X_would_10 : decode b_X_would 10 = .ok (.iconst 2, 1) := by decide +kernel
theorem d_X_would_11 : decode b_X_would 11 = .ok (.invokestatic 83, 3) := by decide +kernel
theorem d_X_would_14 : decode b_X_would 14 = .ok (.ifCond .ne 5, 3) := by decide +kernel
theorem d_X_would_17 : decode b_X_would 17 = .ok (.iconst (-1), 1) := by decide +kernel
theorem d_X_would_18 : decode b_X_would 18 = .ok (.ireturn, 1) := by decide +kernel
theorem d_X_would_19 : decode b_X_would 19 = .ok (.aload_n 0, 1) := by decide +kernel
theorem d_X_would_20 : decode b_X_would 20 = .ok (.getfield 30, 3) := by decide +kernel
theorem d_X_would_23 : decode b_X_would 23 = .ok (.aload_n 0, 1) := by decide +kernel
theorem d_X_would_24 : decode b_X_would 24 = .ok (.getfield 23, 3) := by decide +kernel
theorem d_X_would_27 : decode b_X_would 27 = .ok (.invokevirtual 165, 3) := by decide +kernel
theorem d_X_would_30 : decode b_X_would 30 = .ok (.aload_n 0, 1) := by decide +kernel
theorem d_X_would_31 : decode b_X_would 31 = .ok (.getfield 30, 3) := by decide +kernel
theorem d_X_would_34 : decode b_X_would 34 = .ok (.iload_n 1, 1) := by decide +kernel
theorem d_X_would_35 : decode b_X_would 35 = .ok (.invokevirtual 159, 3) := by decide +kernel
theorem d_X_would_38 : decode b_X_would 38 = .ok (.istore_n 3, 1) := by decide +kernel
theorem d_X_would_39 : decode b_X_would 39 = .ok (.iload_n 2, 1) := by decide +kernel
theorem d_X_would_40 : decode b_X_would 40 = .ok (.ifCond .ne 5, 3) := by decide +kernel
theorem d_X_would_43 : decode b_X_would 43 = .ok (.iload_n 3, 1) := by decide +kernel
theorem d_X_would_44 : decode b_X_would 44 = .ok (.ireturn, 1) := by decide +kernel
theorem d_X_would_45 : decode b_X_would 45 = .ok (.iload_n 2, 1) := by decide +kernel
theorem d_X_would_46 : decode b_X_would 46 = .ok (.iconst 1, 1) := by decide +kernel
theorem d_X_would_47 : decode b_X_would 47 = .ok (.if_icmp .ne 13, 3) := by decide +kernel
theorem d_X_would_50 : decode b_X_would 50 = .ok (.aload_n 0, 1) := by decide +kernel
theorem d_X_would_51 : decode b_X_would 51 = .ok (.getfield 30, 3) := by decide +kernel
theorem d_X_would_54 : decode b_X_would 54 = .ok (.getfield 123, 3) := by decide +kernel
theorem d_X_would_57 : decode b_X_would 57 = .ok (.goto 8, 3) := by decide +kernel
theorem d_X_would_60 : decode b_X_would 60 = .ok (.aload_n 0, 1) := by decide +kernel
theorem d_X_would_61 : decode b_X_would 61 = .ok (.iload_n 1, 1) := by decide +kernel
theorem d_X_would_62 : decode b_X_would 62 = .ok (.invokevirtual 172, 3) := by decide +kernel
theorem d_X_would_65 : decode b_X_would 65 = .ok (.ireturn, 1) := by decide +kernel
theorem d_X_next_0 : decode b_X_next 0 = .ok (.iload_n 1, 1) := by decide +kernel
theorem d_X_next_1 : decode b_X_next 1 = .ok (.iconst 0, 1) := by decide +kernel
theorem d_X_next_2 : decode b_X_next 2 = .ok (.iconst 1, 1) := by decide +kernel
theorem d_X_next_3 : decode b_X_next 3 = .ok (.invokestatic 83, 3) := by decide +kernel
theorem d_X_next_6 : decode b_X_next 6 = .ok (.ifCond .ne 5, 3) := by decide +kernel
theorem d_X_next_9 : decode b_X_next 9 = .ok (.iconst (-1), 1) := by decide +kernel
theorem d_X_next_10 : decode b_X_next 10 = .ok (.ireturn, 1) := by decide +kernel
theorem d_X_next_11 : decode b_X_next 11 = .ok (.aload_n 0, 1) := by decide +kernel
theorem d_X_next_12 : decode b_X_next 12 = .ok (.getfield 30, 3) := by decide +kernel
theorem d_X_next_15 : decode b_X_next 15 = .ok (.aload_n 0, 1) := by decide +kernel
theorem d_X_next_16 : decode b_X_next 16 = .ok (.getfield 23, 3) := by decide +kernel
theorem d_X_next_19 : decode b_X_next 19 = .ok (.invokevirtual 165, 3) := by decide +kernel
theorem d_X_next_22 : decode b_X_next 22 = .ok (.iconst 0, 1) := by decide +kernel
theorem d_X_next_23 : decode b_X_next 23 = .ok (.istore_n 2, 1) := by decide +kernel
theorem d_X_next_24 : decode b_X_next 24 = .ok (.iload_n 2, 1) := by decide +kernel
theorem d_X_next_25 : decode b_X_next 25 = .ok (.bipush 60, 2) := by decide +kernel
theorem d_X_next_27 : decode b_X_next 27 = .ok (.if_icmp .ge 68, 3) := by decide +kernel
theorem d_X_next_30 : decode b_X_next 30 = .ok (.iconst 0, 1) := by decide +kernel
theorem d_X_next_31 : decode b_X_next 31 = .ok (.istore_n 3, 1) := by decide +kernel
theorem d_X_next_32 : decode b_X_next 32 = .ok (.iload_n 3, 1) := by decide +kernel
theorem d_X_next_33 : decode b_X_next 33 = .ok (.aload_n 0, 1) := by decide +kernel
theorem d_X_next_34 : decode b_X_next 34 = .ok (.getfield 30, 3) := by decide +kernel
theorem d_X_next_37 : decode b_X_next 37 = .ok (.getfield 87, 3) := by decide +kernel
theorem d_X_next_40 : decode b_X_next 40 = .ok (.if_icmp .ge 36, 3) := by decide +kernel
theorem d_X_next_43 : decode b_X_next 43 = .ok (.aload_n 0, 1) := by decide +kernel
theorem d_X_next_44 : decode b_X_next 44 = .ok (.getfield 30, 3) := by decide +kernel
theorem d_X_next_47 : decode b_X_next 47 = .ok (.iload_n 3, 1) := by decide +kernel
theorem d_X_next_48 : decode b_X_next 48 = .ok (.invokevirtual 159, 3) := by decide +kernel
theorem d_X_next_51 : decode b_X_next 51 = .ok (.pop, 1) := by decide +kernel
theorem d_X_next_52 : decode b_X_next 52 = .ok (.aload_n 0, 1) := by decide +kernel
theorem d_X_next_53 : decode b_X_next 53 = .ok (.iload_n 3, 1) := by decide +kernel
theorem d_X_next_54 : decode b_X_next 54 = .ok (.invokevirtual 172, 3) := by decide +kernel
theorem d_X_next_57 : decode b_X_next 57 = .ok (.ifCond .le 13, 3) := by decide +kernel
theorem d_X_next_60 : decode b_X_next 60 = .ok (.iload_n 1, 1) := by decide +kernel
theorem d_X_next_61 : decode b_X_next 61 = .ok (.ifCond .ne 7, 3) := by decide +kernel
theorem d_X_next_64 : decode b_X_next 64 = .ok (.iload_n 3, 1) := by decide +kernel
theorem d_X_next_65 : decode b_X_next 65 = .ok (.goto 4, 3) := by decide +kernel
theorem d_X_next_68 : decode b_X_next 68 = .ok (.iload_n 2, 1) := by decide +kernel
theorem d_X_next_69 : decode b_X_next 69 = .ok (.ireturn, 1) := by decide +kernel
theorem d_X_next_70 : decode b_X_next 70 = .ok (.iinc 3 1, 3) := by decide +kernel
theorem d_X_next_73 : decode b_X_next 73 = .ok (.goto (-41), 3) := by decide +kernel
theorem d_X_next_76 : decode b_X_next 76 = .ok (.aload_n 0, 1) := by decide +kernel
theorem d_X_next_77 : decode b_X_next 77 = .ok (.getfield 30, 3) := by decide +kernel
theorem d_X_next_80 : decode b_X_next 80 = .ok (.dup, 1) := by decide +kernel
theorem d_X_next_81 : decode b_X_next 81 = .ok (.getfield 146, 3) := by decide +kernel
theorem d_X_next_84 : decode b_X_next 84 = .ok (.iconst 1, 1) := by decide +kernel
theorem d_X_next_85 : decode b_X_next 85 = .ok (.iadd, 1) := by decide +kernel
theorem d_X_next_86 : decode b_X_next 86 = .ok (.putfield 146, 3) := by decide +kernel
theorem d_X_next_89 : decode b_X_next 89 = .ok (.iinc 2 1, 3) := by decide +kernel
theorem d_X_next_92 : decode b_X_next 92 = .ok (.goto (-68), 3) := by decide +kernel
theorem d_X_next_95 : decode b_X_next 95 = .ok (.bipush (-5), 2) := by decide +kernel
theorem d_X_next_97 : decode b_X_next 97 = .ok (.ireturn, 1) := by decide +kernel
theorem d_X_least_0 : decode b_X_least 0 = .ok (.iload_n 2, 1) := by decide +kernel
theorem d_X_least_1 : decode b_X_least 1 = .ok (.iconst 0, 1) := by decide +kernel
theorem d_X_least_2 : decode b_X_least 2 = .ok (.iconst 1, 1) := by decide +kernel
theorem d_X_least_3 : decode b_X_least 3 = .ok (.invokestatic 83, 3) := by decide +kernel
theorem d_X_least_6 : decode b_X_least 6 = .ok (.ifCond .ne 5, 3) := by decide +kernel
theorem d_X_least_9 : decode b_X_least 9 = .ok (.iconst (-1), 1) := by decide +kernel
theorem d_X_least_10 : decode b_X_least 10 = .ok (.ireturn, 1) := by decide +kernel
theorem d_X_least_11 : decode b_X_least 11 = .ok (.iload_n 1, 1) := by decide +kernel
theorem d_X_least_12 : decode b_X_least 12 = .ok (.iconst 1, 1) := by decide +kernel
theorem d_X_least_13 : decode b_X_least 13 = .ok (.bipush 10, 2) := by decide +kernel
theorem d_X_least_15 : decode b_X_least 15 = .ok (.invokestatic 83, 3) := by decide +kernel
theorem d_X_least_18 : decode b_X_least 18 = .ok (.ifCond .ne 6, 3) := by decide +kernel
theorem d_X_least_21 : decode b_X_least 21 = .ok (.bipush (-2), 2) := by decide +kernel
theorem d_X_least_23 : decode b_X_least 23 = .ok (.ireturn, 1) := by decide +kernel
theorem d_X_least_24 : decode b_X_least 24 = .ok (.iconst 0, 1) := by decide +kernel
theorem d_X_least_25 : decode b_X_least 25 = .ok (.istore_n 3, 1) := by decide +kernel
theorem d_X_least_26 : decode b_X_least 26 = .ok (.ldc 177, 2) := by decide +kernel
theorem d_X_least_28 : decode b_X_least 28 = .ok (.istore 4, 2) := by decide +kernel
theorem d_X_least_30 : decode b_X_least 30 = .ok (.iconst 0, 1) := by decide +kernel
theorem d_X_least_31 : decode b_X_least 31 = .ok (.istore 5, 2) := by decide +kernel
theorem d_X_least_33 : decode b_X_least 33 = .ok (.iload 5, 2) := by decide +kernel
theorem d_X_least_35 : decode b_X_least 35 = .ok (.bipush 20, 2) := by decide +kernel
theorem d_X_least_37 : decode b_X_least 37 = .ok (.if_icmp .gt 55, 3) := by decide +kernel
theorem d_X_least_40 : decode b_X_least 40 = .ok (.aload_n 0, 1) := by decide +kernel
theorem d_X_least_41 : decode b_X_least 41 = .ok (.getfield 30, 3) := by decide +kernel
theorem d_X_least_44 : decode b_X_least 44 = .ok (.aload_n 0, 1) := by decide +kernel
theorem d_X_least_45 : decode b_X_least 45 = .ok (.getfield 23, 3) := by decide +kernel
theorem d_X_least_48 : decode b_X_least 48 = .ok (.invokevirtual 165, 3) := by decide +kernel
theorem d_X_least_51 : decode b_X_least 51 = .ok (.aload_n 0, 1) := by decide +kernel
theorem d_X_least_52 : decode b_X_least 52 = .ok (.getfield 30, 3) := by decide +kernel
theorem d_X_least_55 : decode b_X_least 55 = .ok (.iload 5, 2) := by decide +kernel
theorem d_X_least_57 : decode b_X_least 57 = .ok (.putfield 149, 3) := by decide +kernel
theorem d_X_least_60 : decode b_X_least 60 = .ok (.aload_n 0, 1) := by decide +kernel
theorem d_X_least_61 : decode b_X_least 61 = .ok (.getfield 30, 3) := by decide +kernel
theorem d_X_least_64 : decode b_X_least 64 = .ok (.iload_n 1, 1) := by decide +kernel
theorem d_X_least_65 : decode b_X_least 65 = .ok (.iconst (-1), 1) := by decide +kernel
theorem d_X_least_66 : decode b_X_least 66 = .ok (.iconst (-1), 1) := by decide +kernel
theorem d_X_least_67 : decode b_X_least 67 = .ok (.invokevirtual 162, 3) := by decide +kernel
theorem d_X_least_70 : decode b_X_least 70 = .ok (.istore 6, 2) := by decide +kernel
theorem d_X_least_72 : decode b_X_least 72 = .ok (.iload 6, 2) := by decide +kernel
theorem d_X_least_74 : decode b_X_least 74 = .ok (.iload 4, 2) := by decide +kernel
theorem d_X_least_76 : decode b_X_least 76 = .ok (.if_icmp .ge 10, 3) := by decide +kernel
theorem d_X_least_79 : decode b_X_least 79 = .ok (.iload 5, 2) := by decide +kernel
theorem d_X_least_81 : decode b_X_least 81 = .ok (.istore_n 3, 1) := by decide +kernel
theorem d_X_least_82 : decode b_X_least 82 = .ok (.iload 6, 2) := by decide +kernel
theorem d_X_least_84 : decode b_X_least 84 = .ok (.istore 4, 2) := by decide +kernel
theorem d_X_least_86 : decode b_X_least 86 = .ok (.iinc 5 1, 3) := by decide +kernel
theorem d_X_least_89 : decode b_X_least 89 = .ok (.goto (-56), 3) := by decide +kernel
theorem d_X_least_92 : decode b_X_least 92 = .ok (.iload_n 2, 1) := by decide +kernel
theorem d_X_least_93 : decode b_X_least 93 = .ok (.ifCond .ne 7, 3) := by decide +kernel
theorem d_X_least_96 : decode b_X_least 96 = .ok (.iload_n 3, 1) := by decide +kernel
theorem d_X_least_97 : decode b_X_least 97 = .ok (.goto 5, 3) := by decide +kernel
theorem d_X_least_100 : decode b_X_least 100 = .ok (.iload 4, 2) := by decide +kernel
theorem d_X_least_102 : decode b_X_least 102 = .ok (.ireturn, 1) := by decide +kernel
theorem d_X_full_0 : decode b_X_full 0 = .ok (.iload_n 2, 1) := by decide +kernel
theorem d_X_full_1 : decode b_X_full 1 = .ok (.iconst 0, 1) := by decide +kernel
theorem d_X_full_2 : decode b_X_full 2 = .ok (.iconst 1, 1) := by decide +kernel
theorem d_X_full_3 : decode b_X_full 3 = .ok (.invokestatic 83, 3) := by decide +kernel
theorem d_X_full_6 : decode b_X_full 6 = .ok (.ifCond .ne 5, 3) := by decide +kernel
theorem d_X_full_9 : decode b_X_full 9 = .ok (.iconst (-1), 1) := by decide +kernel
theorem d_X_full_10 : decode b_X_full 10 = .ok (.ireturn, 1) := by decide +kernel
theorem d_X_full_11 : decode b_X_full 11 = .ok (.iload_n 1, 1) := by decide +kernel
theorem d_X_full_12 : decode b_X_full 12 = .ok (.iconst 1, 1) := by decide +kernel
theorem d_X_full_13 : decode b_X_full 13 = .ok (.bipush 10, 2) := by decide +kernel
theorem d_X_full_15 : decode b_X_full 15 = .ok (.invokestatic 83, 3) := by decide +kernel
theorem d_X_full_18 : decode b_X_full 18 = .ok (.ifCond .ne 6, 3) := by decide +kernel
theorem d_X_full_21 : decode b_X_full 21 = .ok (.bipush (-2), 2) := by decide +kernel
theorem d_X_full_23 : decode b_X_full 23 = .ok (.ireturn, 1) := by decide +kernel
theorem d_X_full_24 : decode b_X_full 24 = .ok (.iconst 0, 1) := by decide +kernel
theorem d_X_full_25 : decode b_X_full 25 = .ok (.istore_n 3, 1) := by decide +kernel
theorem d_X_full_26 : decode b_X_full 26 = .ok (.ldc 177, 2) := by decide +kernel
theorem d_X_full_28 : decode b_X_full 28 = .ok (.istore 4, 2) := by decide +kernel
theorem d_X_full_30 : decode b_X_full 30 = .ok (.iconst 1, 1) := by decide +kernel
theorem d_X_full_31 : decode b_X_full 31 = .ok (.istore 5, 2) := by decide +kernel
theorem d_X_full_33 : decode b_X_full 33 = .ok (.iload 5, 2) := by decide +kernel
theorem d_X_full_35 : decode b_X_full 35 = .ok (.bipush 30, 2) := by decide +kernel
theorem d_X_full_37 : decode b_X_full 37 = .ok (.if_icmp .gt 67, 3) := by decide +kernel
theorem d_X_full_40 : decode b_X_full 40 = .ok (.aload_n 0, 1) := by decide +kernel
theorem d_X_full_41 : decode b_X_full 41 = .ok (.getfield 30, 3) := by decide +kernel
theorem d_X_full_44 : decode b_X_full 44 = .ok (.aload_n 0, 1) := by decide +kernel
theorem d_X_full_45 : decode b_X_full 45 = .ok (.getfield 23, 3) := by decide +kernel
theorem d_X_full_48 : decode b_X_full 48 = .ok (.invokevirtual 165, 3) := by decide +kernel
theorem d_X_full_51 : decode b_X_full 51 = .ok (.aload_n 0, 1) := by decide +kernel
theorem d_X_full_52 : decode b_X_full 52 = .ok (.getfield 30, 3) := by decide +kernel
theorem d_X_full_55 : decode b_X_full 55 = .ok (.bipush 10, 2) := by decide +kernel
theorem d_X_full_57 : decode b_X_full 57 = .ok (.iload 5, 2) := by decide +kernel
theorem d_X_full_59 : decode b_X_full 59 = .ok (.imul, 1) := by decide +kernel
theorem d_X_full_60 : decode b_X_full 60 = .ok (.putfield 152, 3) := by decide +kernel
theorem d_X_full_63 : decode b_X_full 63 = .ok (.aload_n 0, 1) := by decide +kernel
theorem d_X_full_64 : decode b_X_full 64 = .ok (.getfield 30, 3) := by decide +kernel
theorem d_X_full_67 : decode b_X_full 67 = .ok (.iload_n 1, 1) := by decide +kernel
theorem d_X_full_68 : decode b_X_full 68 = .ok (.iconst (-1), 1) := by decide +kernel
theorem d_X_full_69 : decode b_X_full 69 = .ok (.iconst (-1), 1) := by decide +kernel
theorem d_X_full_70 : decode b_X_full 70 = .ok (.invokevirtual 162, 3) := by decide +kernel
theorem d_X_full_73 : decode b_X_full 73 = .ok (.iload 5, 2) := by decide +kernel
theorem d_X_full_75 : decode b_X_full 75 = .ok (.bipush 9, 2) := by decide +kernel
theorem d_X_full_77 : decode b_X_full 77 = .ok (.iadd, 1) := by decide +kernel
theorem d_X_full_78 : decode b_X_full 78 = .ok (.imul, 1) := by decide +kernel
theorem d_X_full_79 : decode b_X_full 79 = .ok (.istore 6, 2) := by decide +kernel
theorem d_X_full_81 : decode b_X_full 81 = .ok (.iload 6, 2) := by decide +kernel
theorem d_X_full_83 : decode b_X_full 83 = .ok (.iload 4, 2) := by decide +kernel
theorem d_X_full_85 : decode b_X_full 85 = .ok (.if_icmp .ge 13, 3) := by decide +kernel
theorem d_X_full_88 : decode b_X_full 88 = .ok (.bipush 10, 2) := by decide +kernel
theorem d_X_full_90 : decode b_X_full 90 = .ok (.iload 5, 2) := by decide +kernel
theorem d_X_full_92 : decode b_X_full 92 = .ok (.imul, 1) := by decide +kernel
theorem d_X_full_93 : decode b_X_full 93 = .ok (.istore_n 3, 1) := by decide +kernel
theorem d_X_full_94 : decode b_X_full 94 = .ok (.iload 6, 2) := by decide +kernel
theorem d_X_full_96 : decode b_X_full 96 = .ok (.istore 4, 2) := by decide +kernel
theorem d_X_full_98 : decode b_X_full 98 = .ok (.iinc 5 1, 3) := by decide +kernel
theorem d_X_full_101 : decode b_X_full 101 = .ok (.goto (-68), 3) := by decide +kernel
theorem d_X_full_104 : decode b_X_full 104 = .ok (.iload_n 2, 1) := by decide +kernel
theorem d_X_full_105 : decode b_X_full 105 = .ok (.ifCond .ne 7, 3) := by decide +kernel
theorem d_X_full_108 : decode b_X_full 108 = .ok (.iload_n 3, 1) := by decide +kernel
theorem d_X_full_109 : decode b_X_full 109 = .ok (.goto 5, 3) := by decide +kernel
theorem d_X_full_112 : decode b_X_full 112 = .ok (.iload 4, 2) := by decide +kernel
theorem d_X_full_114 : decode b_X_full 114 = .ok (.ireturn, 1) := by decide +kernel
theorem d_X_order_0 : decode b_X_order 0 = .ok (.iload_n 1, 1) := by decide +kernel
theorem d_X_order_1 : decode b_X_order 1 = .ok (.iconst (-1), 1) := by decide +kernel
theorem d_X_order_2 : decode b_X_order 2 = .ok (.iconst 4, 1) := by decide +kernel
theorem d_X_order_3 : decode b_X_order 3 = .ok (.invokestatic 83, 3) := by decide +kernel
theorem d_X_order_6 : decode b_X_order 6 = .ok (.ifCond .ne 5, 3) := by decide +kernel
theorem d_X_order_9 : decode b_X_order 9 = .ok (.iconst (-1), 1) := by decide +kernel
theorem d_X_order_10 : decode b_X_order 10 = .ok (.ireturn, 1) := by decide +kernel
theorem d_X_order_11 : decode b_X_order 11 = .ok (.aload_n 0, 1) := by decide +kernel
theorem d_X_order_12 : decode b_X_order 12 = .ok (.getfield 23, 3) := by decide +kernel
theorem d_X_order_15 : decode b_X_order 15 = .ok (.getfield 87, 3) := by decide +kernel
theorem d_X_order_18 : decode b_X_order 18 = .ok (.iconst 5, 1) := by decide +kernel
theorem d_X_order_19 : decode b_X_order 19 = .ok (.if_icmp .le 6, 3) := by decide +kernel
theorem d_X_order_22 : decode b_X_order 22 = .ok (.bipush (-9), 2) := by decide +kernel
theorem d_X_order_24 : decode b_X_order 24 = .ok (.ireturn, 1) := by decide +kernel
theorem d_X_order_25 : decode b_X_order 25 = .ok (.iload_n 1, 1) := by decide +kernel
theorem d_X_order_26 : decode b_X_order 26 = .ok (.aload_n 0, 1) := by decide +kernel
theorem d_X_order_27 : decode b_X_order 27 = .ok (.getfield 23, 3) := by decide +kernel
theorem d_X_order_30 : decode b_X_order 30 = .ok (.getfield 87, 3) := by decide +kernel
theorem d_X_order_33 : decode b_X_order 33 = .ok (.if_icmp .lt 6, 3) := by decide +kernel
theorem d_X_order_36 : decode b_X_order 36 = .ok (.bipush (-5), 2) := by decide +kernel
theorem d_X_order_38 : decode b_X_order 38 = .ok (.ireturn, 1) := by decide +kernel
theorem d_X_order_39 : decode b_X_order 39 = .ok (.iconst (-1), 1) := by decide +kernel
theorem d_X_order_40 : decode b_X_order 40 = .ok (.istore_n 2, 1) := by decide +kernel
theorem d_X_order_41 : decode b_X_order 41 = .ok (.aload_n 0, 1) := by decide +kernel
theorem d_X_order_42 : decode b_X_order 42 = .ok (.getfield 23, 3) := by decide +kernel
theorem d_X_order_45 : decode b_X_order 45 = .ok (.getfield 87, 3) := by decide +kernel
theorem d_X_order_48 : decode b_X_order 48 = .ok (.invokestatic 178, 3) := by decide +kernel
theorem d_X_order_51 : decode b_X_order 51 = .ok (.istore_n 3, 1) := by decide +kernel
theorem d_X_order_52 : decode b_X_order 52 = .ok (.iconst 0, 1) := by decide +kernel
theorem d_X_order_53 : decode b_X_order 53 = .ok (.istore 4, 2) := by decide +kernel
theorem d_X_order_55 : decode b_X_order 55 = .ok (.iload 4, 2) := by decide +kernel
theorem d_X_order_57 : decode b_X_order 57 = .ok (.iload_n 3, 1) := by decide +kernel
theorem d_X_order_58 : decode b_X_order 58 = .ok (.if_icmp .ge 56, 3) := by decide +kernel
theorem d_X_order_61 : decode b_X_order 61 = .ok (.aload_n 0, 1) := by decide +kernel
theorem d_X_order_62 : decode b_X_order 62 = .ok (.iload 4, 2) := by decide +kernel
theorem d_X_order_64 : decode b_X_order 64 = .ok (.iload_n 3, 1) := by decide +kernel
theorem d_X_order_65 : decode b_X_order 65 = .ok (.aload_n 0, 1) := by decide +kernel
theorem d_X_order_66 : decode b_X_order 66 = .ok (.getfield 23, 3) := by decide +kernel
theorem d_X_order_69 : decode b_X_order 69 = .ok (.getfield 87, 3) := by decide +kernel
theorem d_X_order_72 : decode b_X_order 72 = .ok (.invokevirtual 181, 3) := by decide +kernel
theorem d_X_order_75 : decode b_X_order 75 = .ok (.aload_n 0, 1) := by decide +kernel
theorem d_X_order_76 : decode b_X_order 76 = .ok (.invokevirtual 185, 3) := by decide +kernel
theorem d_X_order_79 : decode b_X_order 79 = .ok (.istore 5, 2) := by decide +kernel
theorem d_X_order_81 : decode b_X_order 81 = .ok (.iload 5, 2) := by decide +kernel
theorem d_X_order_83 : decode b_X_order 83 = .ok (.iload_n 2, 1) := by decide +kernel
theorem d_X_order_84 : decode b_X_order 84 = .ok (.if_icmp .le 24, 3) := by decide +kernel
theorem d_X_order_87 : decode b_X_order 87 = .ok (.iload 5, 2) := by decide +kernel
theorem d_X_order_89 : decode b_X_order 89 = .ok (.istore_n 2, 1) := by decide +kernel
theorem d_X_order_90 : decode b_X_order 90 = .ok (.aload_n 0, 1) := by decide +kernel
theorem d_X_order_91 : decode b_X_order 91 = .ok (.getfield 62, 3) := by decide +kernel
theorem d_X_order_94 : decode b_X_order 94 = .ok (.iconst 0, 1) := by decide +kernel
theorem d_X_order_95 : decode b_X_order 95 = .ok (.aload_n 0, 1) := by decide +kernel
theorem d_X_order_96 : decode b_X_order 96 = .ok (.getfield 66, 3) := by decide +kernel
theorem d_X_order_99 : decode b_X_order 99 = .ok (.iconst 0, 1) := by decide +kernel
theorem d_X_order_100 : decode b_X_order 100 = .ok (.aload_n 0, 1) := by decide +kernel
theorem d_X_order_101 : decode b_X_order 101 = .ok (.getfield 66, 3) := by decide +kernel
theorem d_X_order_104 : decode b_X_order 104 = .ok (.arraylength, 1) := by decide +kernel
theorem d_X_order_105 : decode b_X_order 105 = .ok (.invokestatic 189, 3) := by decide +kernel
theorem d_X_order_108 : decode b_X_order 108 = .ok (.iinc 4 1, 3) := by decide +kernel
theorem d_X_order_111 : decode b_X_order 111 = .ok (.goto (-56), 3) := by decide +kernel
theorem d_X_order_114 : decode b_X_order 114 = .ok (.iload_n 1, 1) := by decide +kernel
theorem d_X_order_115 : decode b_X_order 115 = .ok (.ifCond .ge 7, 3) := by decide +kernel
theorem d_X_order_118 : decode b_X_order 118 = .ok (.iload_n 2, 1) := by decide +kernel
theorem d_X_order_119 : decode b_X_order 119 = .ok (.goto 9, 3) := by decide +kernel
theorem d_X_order_122 : decode b_X_order 122 = .ok (.aload_n 0, 1) := by decide +kernel
theorem d_X_order_123 : decode b_X_order 123 = .ok (.getfield 66, 3) := by decide +kernel
theorem d_X_order_126 : decode b_X_order 126 = .ok (.iload_n 1, 1) := by decide +kernel
theorem d_X_order_127 : decode b_X_order 127 = .ok (.iaload, 1) := by decide +kernel
theorem d_X_order_128 : decode b_X_order 128 = .ok (.ireturn, 1) := by decide +kernel
theorem d_X_without_0 : decode b_X_without 0 = .ok (.aload_n 0, 1) := by decide +kernel
theorem d_X_without_1 : decode b_X_without 1 = .ok (.iload_n 1, 1) := by decide +kernel
theorem d_X_without_2 : decode b_X_without 2 = .ok (.invokevirtual 94, 3) := by decide +kernel
theorem d_X_without_5 : decode b_X_without 5 = .ok (.ifCond .ne 7, 3) := by decide +kernel
theorem d_X_without_8 : decode b_X_without 8 = .ok (.sipush (-10001), 3) := by decide +kernel
theorem d_X_without_11 : decode b_X_without 11 = .ok (.ireturn, 1) := by decide +kernel
theorem d_X_without_12 : decode b_X_without 12 = .ok (.iload_n 2, 1) := by decide +kernel
theorem d_X_without_13 : decode b_X_without 13 = .ok (.iconst 0, 1) := by decide +kernel
theorem d_X_without_14 : decode b_X_without 14 = .ok (.bipush 30, 2) := by decide +kernel
theorem d_X_without_16 : decode b_X_without 16 = .ok (.invokestatic 83, 3) := by decide +kernel
theorem d_X_without_19 : decode b_X_without 19 = .ok (.ifCond .ne 7, 3) := by decide +kernel
theorem d_X_without_22 : decode b_X_without 22 = .ok (.sipush (-10002), 3) := by decide +kernel
theorem d_X_without_25 : decode b_X_without 25 = .ok (.ireturn, 1) := by decide +kernel
theorem d_X_without_26 : decode b_X_without 26 = .ok (.aload_n 0, 1) := by decide +kernel
theorem d_X_without_27 : decode b_X_without 27 = .ok (.getfield 30, 3) := by decide +kernel
theorem d_X_without_30 : decode b_X_without 30 = .ok (.aload_n 0, 1) := by decide +kernel
theorem d_X_without_31 : decode b_X_without 31 = .ok (.getfield 23, 3) := by decide +kernel
theorem d_X_without_34 : decode b_X_without 34 = .ok (.invokevirtual 165, 3) := by decide +kernel
theorem d_X_without_37 : decode b_X_without 37 = .ok (.aload_n 0, 1) := by decide +kernel
theorem d_X_without_38 : decode b_X_without 38 = .ok (.getfield 30, 3) := by decide +kernel
theorem d_X_without_41 : decode b_X_without 41 = .ok (.iload_n 2, 1) := by decide +kernel
theorem d_X_without_42 : decode b_X_without 42 = .ok (.iconst (-1), 1) := by decide +kernel
theorem d_X_without_43 : decode b_X_without 43 = .ok (.iconst (-1), 1) := by decide +kernel
theorem d_X_without_44 : decode b_X_without 44 = .ok (.invokevirtual 162, 3) := by decide +kernel
theorem d_X_without_47 : decode b_X_without 47 = .ok (.istore_n 3, 1) := by decide +kernel
theorem d_X_without_48 : decode b_X_without 48 = .ok (.aload_n 0, 1) := by decide +kernel
theorem d_X_without_49 : decode b_X_without 49 = .ok (.getfield 30, 3) := by decide +kernel
theorem d_X_without_52 : decode b_X_without 52 = .ok (.aload_n 0, 1) := by decide +kernel
theorem d_X_without_53 : decode b_X_without 53 = .ok (.getfield 23, 3) := by decide +kernel
theorem d_X_without_56 : decode b_X_without 56 = .ok (.invokevirtual 165, 3) := by decide +kernel
theorem d_X_without_59 : decode b_X_without 59 = .ok (.iload_n 3, 1) := by decide +kernel
theorem d_X_without_60 : decode b_X_without 60 = .ok (.aload_n 0, 1) := by decide +kernel
theorem d_X_without_61 : decode b_X_without 61 = .ok (.getfield 30, 3) := by decide +kernel
theorem d_X_without_64 : decode b_X_without 64 = .ok (.iload_n 2, 1) := by decide +kernel
theorem d_X_without_65 : decode b_X_without 65 = .ok (.iconst (-1), 1) := by decide +kernel
theorem d_X_without_66 : decode b_X_without 66 = .ok (.iload_n 1, 1) := by decide +kernel
theorem d_X_without_67 : decode b_X_without 67 = .ok (.invokevirtual 162, 3) := by decide +kernel
theorem d_X_without_70 : decode b_X_without 70 = .ok (.isub, 1) := by decide +kernel
theorem d_X_without_71 : decode b_X_without 71 = .ok (.ireturn, 1) := by decide +kernel
theorem d_X_few_0 : decode b_X_few 0 = .ok (.iload_n 2, 1) := by decide +kernel
theorem d_X_few_1 : decode b_X_few 1 = .ok (.iconst 0, 1) := by decide +kernel
theorem d_X_few_2 : decode b_X_few 2 = .ok (.iconst 1, 1) := by decide +kernel
theorem d_X_few_3 : decode b_X_few 3 = .ok (.invokestatic 83, 3) := by decide +kernel
theorem d_X_few_6 : decode b_X_few 6 = .ok (.ifCond .ne 5, 3) := by decide +kernel
theorem d_X_few_9 : decode b_X_few 9 = .ok (.iconst (-1), 1) := by decide +kernel
theorem d_X_few_10 : decode b_X_few 10 = .ok (.ireturn, 1) := by decide +kernel
theorem d_X_few_11 : decode b_X_few 11 = .ok (.iload_n 1, 1) := by decide +kernel
theorem d_X_few_12 : decode b_X_few 12 = .ok (.iconst 0, 1) := by decide +kernel
theorem d_X_few_13 : decode b_X_few 13 = .ok (.bipush 99, 2) := by decide +kernel
theorem d_X_few_15 : decode b_X_few 15 = .ok (.invokestatic 83, 3) := by decide +kernel
theorem d_X_few_18 : decode b_X_few 18 = .ok (.ifCond .ne 6, 3) := by decide +kernel
theorem d_X_few_21 : decode b_X_few 21 = .ok (.bipush (-2), 2) := by decide +kernel
theorem d_X_few_23 : decode b_X_few 23 = .ok (.ireturn, 1) := by decide +kernel
theorem d_X_few_24 : decode b_X_few 24 = .ok (.aload_n 0, 1) := by decide +kernel
theorem d_X_few_25 : decode b_X_few 25 = .ok (.getfield 30, 3) := by decide +kernel
theorem d_X_few_28 : decode b_X_few 28 = .ok (.aload_n 0, 1) := by decide +kernel
theorem d_X_few_29 : decode b_X_few 29 = .ok (.getfield 23, 3) := by decide +kernel
theorem d_X_few_32 : decode b_X_few 32 = .ok (.invokevirtual 165, 3) := by decide +kernel
theorem d_X_few_35 : decode b_X_few 35 = .ok (.iconst 0, 1) := by decide +kernel
theorem d_X_few_36 : decode b_X_few 36 = .ok (.istore_n 3, 1) := by decide +kernel
theorem d_X_few_37 : decode b_X_few 37 = .ok (.iconst 0, 1) := by decide +kernel
theorem d_X_few_38 : decode b_X_few 38 = .ok (.istore 4, 2) := by decide +kernel
theorem d_X_few_40 : decode b_X_few 40 = .ok (.iload 4, 2) := by decide +kernel
theorem d_X_few_42 : decode b_X_few 42 = .ok (.sipush 300, 3) := by decide +kernel
theorem d_X_few_45 : decode b_X_few 45 = .ok (.if_icmp .ge 83, 3) := by decide +kernel
theorem d_X_few_48 : decode b_X_few 48 = .ok (.aload_n 0, 1) := by decide +kernel
theorem d_X_few_49 : decode b_X_few 49 = .ok (.getfield 30, 3) := by decide +kernel
theorem d_X_few_52 : decode b_X_few 52 = .ok (.getfield 87, 3) := by decide +kernel
theorem d_X_few_55 : decode b_X_few 55 = .ok (.ifCond .le 73, 3) := by decide +kernel
theorem d_X_few_58 : decode b_X_few 58 = .ok (.aload_n 0, 1) := by decide +kernel
theorem d_X_few_59 : decode b_X_few 59 = .ok (.getfield 30, 3) := by decide +kernel
theorem d_X_few_62 : decode b_X_few 62 = .ok (.iload_n 3, 1) := by decide +kernel
theorem d_X_few_63 : decode b_X_few 63 = .ok (.invokevirtual 159, 3) := by decide +kernel
theorem d_X_few_66 : decode b_X_few 66 = .ok (.pop, 1) := by decide +kernel
theorem d_X_few_67 : decode b_X_few 67 = .ok (.aload_n 0, 1) := by decide +kernel
theorem d_X_few_68 : decode b_X_few 68 = .ok (.getfield 30, 3) := by decide +kernel
theorem d_X_few_71 : decode b_X_few 71 = .ok (.getfield 195, 3) := by decide +kernel
theorem d_X_few_74 : decode b_X_few 74 = .ok (.iconst 1, 1) := by decide +kernel
theorem d_X_few_75 : decode b_X_few 75 = .ok (.iload_n 1, 1) := by decide +kernel
theorem d_X_few_76 : decode b_X_few 76 = .ok (.invokestatic 83, 3) := by decide +kernel
theorem d_X_few_79 : decode b_X_few 79 = .ok (.ifCond .eq 14, 3) := by decide +kernel
theorem d_X_few_82 : decode b_X_few 82 = .ok (.iload_n 2, 1) := by decide +kernel
theorem d_X_few_83 : decode b_X_few 83 = .ok (.ifCond .ne 8, 3) := by decide +kernel
theorem d_X_few_86 : decode b_X_few 86 = .ok (.iload 4, 2) := by decide +kernel
theorem d_X_few_88 : decode b_X_few 88 = .ok (.goto 4, 3) := by decide +kernel
theorem d_X_few_91 : decode b_X_few 91 = .ok (.iload_n 3, 1) := by decide +kernel
theorem d_X_few_92 : decode b_X_few 92 = .ok (.ireturn, 1) := by decide +kernel
theorem d_X_few_93 : decode b_X_few 93 = .ok (.iinc 3 1, 3) := by decide +kernel
theorem d_X_few_96 : decode b_X_few 96 = .ok (.iload_n 3, 1) := by decide +kernel
theorem d_X_few_97 : decode b_X_few 97 = .ok (.aload_n 0, 1) := by decide +kernel
theorem d_X_few_98 : decode b_X_few 98 = .ok (.getfield 30, 3) := by decide +kernel
theorem d_X_few_101 : decode b_X_few 101 = .ok (.getfield 87, 3) := by decide +kernel
theorem d_X_few_104 : decode b_X_few 104 = .ok (.if_icmp .ne 18, 3) := by decide +kernel
theorem d_X_few_107 : decode b_X_few 107 = .ok (.iconst 0, 1) := by decide +kernel
theorem d_X_few_108 : decode b_X_few 108 = .ok (.istore_n 3, 1) := by decide +kernel
theorem d_X_few_109 : decode b_X_few 109 = .ok (.aload_n 0, 1) := by decide +kernel
theorem d_X_few_110 : decode b_X_few 110 = .ok (.getfield 30, 3) := by decide +kernel
theorem d_X_few_113 : decode b_X_few 113 = .ok (.dup, 1) := by decide +kernel
theorem d_X_few_114 : decode b_X_few 114 = .ok (.getfield 146, 3) := by decide +kernel
theorem d_X_few_117 : decode b_X_few 117 = .ok (.iconst 1, 1) := by decide +kernel
theorem d_X_few_118 : decode b_X_few 118 = .ok (.iadd, 1) := by decide +kernel
theorem d_X_few_119 : decode b_X_few 119 = .ok (.putfield 146, 3) := by decide +kernel
theorem d_X_few_122 : decode b_X_few 122 = .ok (.iinc 4 1, 3) := by decide +kernel
theorem d_X_few_125 : decode b_X_few 125 = .ok (.goto (-85), 3) := by decide +kernel
theorem d_X_few_128 : decode b_X_few 128 = .ok (.bipush (-5), 2) := by decide +kernel
theorem d_X_few_130 : decode b_X_few 130 = .ok (.ireturn, 1) := by decide +kernel
theorem d_X_pitied_0 : decode b_X_pitied 0 = .ok (.iload_n 1, 1) := by decide +kernel
theorem d_X_pitied_1 : decode b_X_pitied 1 = .ok (.iconst 1, 1) := by decide +kernel
theorem d_X_pitied_2 : decode b_X_pitied 2 = .ok (.bipush 60, 2) := by decide +kernel
theorem d_X_pitied_4 : decode b_X_pitied 4 = .ok (.invokestatic 83, 3) := by decide +kernel
theorem d_X_pitied_7 : decode b_X_pitied 7 = .ok (.ifCond .ne 6, 3) := by decide +kernel
theorem d_X_pitied_10 : decode b_X_pitied 10 = .ok (.bipush (-2), 2) := by decide +kernel
theorem d_X_pitied_12 : decode b_X_pitied 12 = .ok (.ireturn, 1) := by decide +kernel
theorem d_X_pitied_13 : decode b_X_pitied 13 = .ok (.aload_n 0, 1) := by decide +kernel
theorem d_X_pitied_14 : decode b_X_pitied 14 = .ok (.getfield 23, 3) := by decide +kernel
theorem d_X_pitied_17 : decode b_X_pitied 17 = .ok (.getfield 87, 3) := by decide +kernel
theorem d_X_pitied_20 : decode b_X_pitied 20 = .ok (.ifCond .ne 6, 3) := by decide +kernel
theorem d_X_pitied_23 : decode b_X_pitied 23 = .ok (.bipush (-5), 2) := by decide +kernel
theorem d_X_pitied_25 : decode b_X_pitied 25 = .ok (.ireturn, 1) := by decide +kernel
theorem d_X_pitied_26 : decode b_X_pitied 26 = .ok (.aload_n 0, 1) := by decide +kernel
theorem d_X_pitied_27 : decode b_X_pitied 27 = .ok (.getfield 30, 3) := by decide +kernel
theorem d_X_pitied_30 : decode b_X_pitied 30 = .ok (.aload_n 0, 1) := by decide +kernel
theorem d_X_pitied_31 : decode b_X_pitied 31 = .ok (.getfield 23, 3) := by decide +kernel
theorem d_X_pitied_34 : decode b_X_pitied 34 = .ok (.invokevirtual 165, 3) := by decide +kernel
theorem d_X_pitied_37 : decode b_X_pitied 37 = .ok (.aload_n 0, 1) := by decide +kernel
theorem d_X_pitied_38 : decode b_X_pitied 38 = .ok (.getfield 30, 3) := by decide +kernel
theorem d_X_pitied_41 : decode b_X_pitied 41 = .ok (.iload_n 1, 1) := by decide +kernel
theorem d_X_pitied_42 : decode b_X_pitied 42 = .ok (.iconst (-1), 1) := by decide +kernel
theorem d_X_pitied_43 : decode b_X_pitied 43 = .ok (.iconst (-1), 1) := by decide +kernel
theorem d_X_pitied_44 : decode b_X_pitied 44 = .ok (.invokevirtual 162, 3) := by decide +kernel
theorem d_X_pitied_47 : decode b_X_pitied 47 = .ok (.pop, 1) := by decide +kernel
theorem d_X_pitied_48 : decode b_X_pitied 48 = .ok (.iconst 0, 1) := by decide +kernel
theorem d_X_pitied_49 : decode b_X_pitied 49 = .ok (.istore_n 2, 1) := by decide +kernel
theorem d_X_pitied_50 : decode b_X_pitied 50 = .ok (.iconst 1, 1) := by decide +kernel
theorem d_X_pitied_51 : decode b_X_pitied 51 = .ok (.istore_n 3, 1) := by decide +kernel
theorem d_X_pitied_52 : decode b_X_pitied 52 = .ok (.iload_n 3, 1) := by decide +kernel
theorem d_X_pitied_53 : decode b_X_pitied 53 = .ok (.aload_n 0, 1) := by decide +kernel
theorem d_X_pitied_54 : decode b_X_pitied 54 = .ok (.getfield 23, 3) := by decide +kernel
theorem d_X_pitied_57 : decode b_X_pitied 57 = .ok (.getfield 87, 3) := by decide +kernel
theorem d_X_pitied_60 : decode b_X_pitied 60 = .ok (.if_icmp .ge 40, 3) := by decide +kernel
theorem d_X_pitied_63 : decode b_X_pitied 63 = .ok (.aload_n 0, 1) := by decide +kernel
theorem d_X_pitied_64 : decode b_X_pitied 64 = .ok (.iload_n 3, 1) := by decide +kernel
theorem d_X_pitied_65 : decode b_X_pitied 65 = .ok (.invokevirtual 172, 3) := by decide +kernel
theorem d_X_pitied_68 : decode b_X_pitied 68 = .ok (.aload_n 0, 1) := by decide +kernel
theorem d_X_pitied_69 : decode b_X_pitied 69 = .ok (.iload_n 2, 1) := by decide +kernel
theorem d_X_pitied_70 : decode b_X_pitied 70 = .ok (.invokevirtual 169, 3) := by decide +kernel
theorem d_X_pitied_73 : decode b_X_pitied 73 = .ok (.iconst 1, 1) := by decide +kernel
theorem d_X_pitied_74 : decode b_X_pitied 74 = .ok (.iadd, 1) := by decide +kernel
theorem d_X_pitied_75 : decode b_X_pitied 75 = .ok (.imul, 1) := by decide +kernel
theorem d_X_pitied_76 : decode b_X_pitied 76 = .ok (.aload_n 0, 1) := by decide +kernel
theorem d_X_pitied_77 : decode b_X_pitied 77 = .ok (.iload_n 2, 1) := by decide +kernel
theorem d_X_pitied_78 : decode b_X_pitied 78 = .ok (.invokevirtual 172, 3) := by decide +kernel
theorem d_X_pitied_81 : decode b_X_pitied 81 = .ok (.aload_n 0, 1) := by decide +kernel
theorem d_X_pitied_82 : decode b_X_pitied 82 = .ok (.iload_n 3, 1) := by decide +kernel
theorem d_X_pitied_83 : decode b_X_pitied 83 = .ok (.invokevirtual 169, 3) := by decide +kernel
theorem d_X_pitied_86 : decode b_X_pitied 86 = .ok (.iconst 1, 1) := by decide +kernel
theorem d_X_pitied_87 : decode b_X_pitied 87 = .ok (.iadd, 1) := by decide +kernel
theorem d_X_pitied_88 : decode b_X_pitied 88 = .ok (.imul, 1) := by decide +kernel
theorem d_X_pitied_89 : decode b_X_pitied 89 = .ok (.if_icmp .le 5, 3) := by decide +kernel
theorem d_X_pitied_92 : decode b_X_pitied 92 = .ok (.iload_n 3, 1) := by decide +kernel
theorem d_X_pitied_93 : decode b_X_pitied 93 = .ok (.istore_n 2, 1) := by decide +kernel
theorem d_X_pitied_94 : decode b_X_pitied 94 = .ok (.iinc 3 1, 3) := by decide +kernel
theorem d_X_pitied_97 : decode b_X_pitied 97 = .ok (.goto (-45), 3) := by decide +kernel
theorem d_X_pitied_100 : decode b_X_pitied 100 = .ok (.iload_n 2, 1) := by decide +kernel
theorem d_X_pitied_101 : decode b_X_pitied 101 = .ok (.ireturn, 1) := by decide +kernel
theorem d_X_see_0 : decode b_X_see 0 = .ok (.iload_n 1, 1) := by decide +kernel
theorem d_X_see_1 : decode b_X_see 1 = .ok (.iconst (-1), 1) := by decide +kernel
theorem d_X_see_2 : decode b_X_see 2 = .ok (.if_icmp .ne 13, 3) := by decide +kernel
theorem d_X_see_5 : decode b_X_see 5 = .ok (.aload_n 0, 1) := by decide +kernel
theorem d_X_see_6 : decode b_X_see 6 = .ok (.getfield 36, 3) := by decide +kernel
theorem d_X_see_9 : decode b_X_see 9 = .ok (.iconst 0, 1) := by decide +kernel
theorem d_X_see_10 : decode b_X_see 10 = .ok (.putfield 198, 3) := by decide +kernel
theorem d_X_see_13 : decode b_X_see 13 = .ok (.iconst 0, 1) := by decide +kernel
theorem d_X_see_14 : decode b_X_see 14 = .ok (.ireturn, 1) := by decide +kernel
theorem d_X_see_15 : decode b_X_see 15 = .ok (.iload_n 1, 1) := by decide +kernel
theorem d_X_see_16 : decode b_X_see 16 = .ok (.iconst 0, 1) := by decide +kernel
theorem d_X_see_17 : decode b_X_see 17 = .ok (.sipush 990, 3) := by decide +kernel
theorem d_X_see_20 : decode b_X_see 20 = .ok (.invokestatic 83, 3) := by decide +kernel
theorem d_X_see_23 : decode b_X_see 23 = .ok (.ifCond .eq 14, 3) := by decide +kernel
theorem d_X_see_26 : decode b_X_see 26 = .ok (.iload_n 2, 1) := by decide +kernel
theorem d_X_see_27 : decode b_X_see 27 = .ok (.iconst 0, 1) := by decide +kernel
theorem d_X_see_28 : decode b_X_see 28 = .ok (.sipush 990, 3) := by decide +kernel
theorem d_X_see_31 : decode b_X_see 31 = .ok (.invokestatic 83, 3) := by decide +kernel
theorem d_X_see_34 : decode b_X_see 34 = .ok (.ifCond .ne 6, 3) := by decide +kernel
theorem d_X_see_37 : decode b_X_see 37 = .ok (.bipush (-2), 2) := by decide +kernel
theorem d_X_see_39 : decode b_X_see 39 = .ok (.ireturn, 1) := by decide +kernel
theorem d_X_see_40 : decode b_X_see 40 = .ok (.aload_n 0, 1) := by decide +kernel
theorem d_X_see_41 : decode b_X_see 41 = .ok (.getfield 36, 3) := by decide +kernel
theorem d_X_see_44 : decode b_X_see 44 = .ok (.getfield 198, 3) := by decide +kernel
theorem d_X_see_47 : decode b_X_see 47 = .ok (.bipush 6, 2) := by decide +kernel
theorem d_X_see_49 : decode b_X_see 49 = .ok (.if_icmp .lt 6, 3) := by decide +kernel
theorem d_X_see_52 : decode b_X_see 52 = .ok (.bipush (-4), 2) := by decide +kernel
theorem d_X_see_54 : decode b_X_see 54 = .ok (.ireturn, 1) := by decide +kernel
theorem d_X_see_55 : decode b_X_see 55 = .ok (.aload_n 0, 1) := by decide +kernel
theorem d_X_see_56 : decode b_X_see 56 = .ok (.getfield 36, 3) := by decide +kernel
theorem d_X_see_59 : decode b_X_see 59 = .ok (.getfield 201, 3) := by decide +kernel
theorem d_X_see_62 : decode b_X_see 62 = .ok (.aload_n 0, 1) := by decide +kernel
theorem d_X_see_63 : decode b_X_see 63 = .ok (.getfield 36, 3) := by decide +kernel
theorem d_X_see_66 : decode b_X_see 66 = .ok (.getfield 198, 3) := by decide +kernel
theorem d_X_see_69 : decode b_X_see 69 = .ok (.iload_n 1, 1) := by decide +kernel
theorem d_X_see_70 : decode b_X_see 70 = .ok (.iastore, 1) := by decide +kernel
theorem d_X_see_71 : decode b_X_see 71 = .ok (.aload_n 0, 1) := by decide +kernel
theorem d_X_see_72 : decode b_X_see 72 = .ok (.getfield 36, 3) := by decide +kernel
theorem d_X_see_75 : decode b_X_see 75 = .ok (.getfield 204, 3) := by decide +kernel
theorem d_X_see_78 : decode b_X_see 78 = .ok (.aload_n 0, 1) := by decide +kernel
theorem d_X_see_79 : decode b_X_see 79 = .ok (.getfield 36, 3) := by decide +kernel
theorem d_X_see_82 : decode b_X_see 82 = .ok (.getfield 198, 3) := by decide +kernel
theorem d_X_see_85 : decode b_X_see 85 = .ok (.iload_n 2, 1) := by decide +kernel
theorem d_X_see_86 : decode b_X_see 86 = .ok (.iastore, 1) := by decide +kernel
theorem d_X_see_87 : decode b_X_see 87 = .ok (.aload_n 0, 1) := by decide +kernel
theorem d_X_see_88 : decode b_X_see 88 = .ok (.getfield 36, 3) := by decide +kernel
theorem d_X_see_91 : decode b_X_see 91 = .ok (.dup, 1) := by decide +kernel
theorem d_X_see_92 : decode b_X_see 92 = .ok (.getfield 198, 3) := by decide +kernel
theorem d_X_see_95 : decode b_X_see 95 = .ok (.iconst 1, 1) := by decide +kernel
theorem d_X_see_96 : decode b_X_see 96 = .ok (.iadd, 1) := by decide +kernel
theorem d_X_see_97 : decode b_X_see 97 = .ok (.putfield 198, 3) := by decide +kernel
theorem d_X_see_100 : decode b_X_see 100 = .ok (.aload_n 0, 1) := by decide +kernel
theorem d_X_see_101 : decode b_X_see 101 = .ok (.getfield 36, 3) := by decide +kernel
theorem d_X_see_104 : decode b_X_see 104 = .ok (.getfield 198, 3) := by decide +kernel
theorem d_X_see_107 : decode b_X_see 107 = .ok (.ireturn, 1) := by decide +kernel
theorem d_X_who_0 : decode b_X_who 0 = .ok (.iconst 0, 1) := by decide +kernel
theorem d_X_who_1 : decode b_X_who 1 = .ok (.istore_n 1, 1) := by decide +kernel
theorem d_X_who_2 : decode b_X_who 2 = .ok (.iconst 0, 1) := by decide +kernel
theorem d_X_who_3 : decode b_X_who 3 = .ok (.istore_n 2, 1) := by decide +kernel
theorem d_X_who_4 : decode b_X_who 4 = .ok (.iload_n 2, 1) := by decide +kernel
theorem d_X_who_5 : decode b_X_who 5 = .ok (.aload_n 0, 1) := by decide +kernel
theorem d_X_who_6 : decode b_X_who 6 = .ok (.getfield 23, 3) := by decide +kernel
theorem d_X_who_9 : decode b_X_who 9 = .ok (.getfield 87, 3) := by decide +kernel
theorem d_X_who_12 : decode b_X_who 12 = .ok (.if_icmp .ge 23, 3) := by decide +kernel
theorem d_X_who_15 : decode b_X_who 15 = .ok (.aload_n 0, 1) := by decide +kernel
theorem d_X_who_16 : decode b_X_who 16 = .ok (.iload_n 2, 1) := by decide +kernel
theorem d_X_who_17 : decode b_X_who 17 = .ok (.invokevirtual 206, 3) := by decide +kernel
theorem d_X_who_20 : decode b_X_who 20 = .ok (.ifCond .eq 9, 3) := by decide +kernel
theorem d_X_who_23 : decode b_X_who 23 = .ok (.iload_n 1, 1) := by decide +kernel
theorem d_X_who_24 : decode b_X_who 24 = .ok (.iconst 1, 1) := by decide +kernel
theorem d_X_who_25 : decode b_X_who 25 = .ok (.iload_n 2, 1) := by decide +kernel
theorem d_X_who_26 : decode b_X_who 26 = .ok (.ishl, 1) := by decide +kernel
theorem d_X_who_27 : decode b_X_who 27 = .ok (.ior, 1) := by decide +kernel
theorem d_X_who_28 : decode b_X_who 28 = .ok (.istore_n 1, 1) := by decide +kernel
theorem d_X_who_29 : decode b_X_who 29 = .ok (.iinc 2 1, 3) := by decide +kernel
theorem d_X_who_32 : decode b_X_who 32 = .ok (.goto (-28), 3) := by decide +kernel
theorem d_X_who_35 : decode b_X_who 35 = .ok (.iload_n 1, 1) := by decide +kernel
theorem d_X_who_36 : decode b_X_who 36 = .ok (.ireturn, 1) := by decide +kernel
theorem d_X_odds_0 : decode b_X_odds 0 = .ok (.aload_n 0, 1) := by decide +kernel
theorem d_X_odds_1 : decode b_X_odds 1 = .ok (.iload_n 1, 1) := by decide +kernel
theorem d_X_odds_2 : decode b_X_odds 2 = .ok (.invokevirtual 94, 3) := by decide +kernel
theorem d_X_odds_5 : decode b_X_odds 5 = .ok (.ifCond .eq 22, 3) := by decide +kernel
theorem d_X_odds_8 : decode b_X_odds 8 = .ok (.iload_n 2, 1) := by decide +kernel
theorem d_X_odds_9 : decode b_X_odds 9 = .ok (.iconst 0, 1) := by decide +kernel
theorem d_X_odds_10 : decode b_X_odds 10 = .ok (.bipush 30, 2) := by decide +kernel
theorem d_X_odds_12 : decode b_X_odds 12 = .ok (.invokestatic 83, 3) := by decide +kernel
theorem d_X_odds_15 : decode b_X_odds 15 = .ok (.ifCond .eq 12, 3) := by decide +kernel
theorem d_X_odds_18 : decode b_X_odds 18 = .ok (.iload_n 3, 1) := by decide +kernel
theorem d_X_odds_19 : decode b_X_odds 19 = .ok (.iconst 0, 1) := by decide +kernel
theorem d_X_odds_20 : decode b_X_odds 20 = .ok (.iconst 1, 1) := by decide +kernel
theorem d_X_odds_21 : decode b_X_odds 21 = .ok (.invokestatic 83, 3) := by decide +kernel
theorem d_X_odds_24 : decode b_X_odds 24 = .ok (.ifCond .ne 7, 3) := by decide +kernel
theorem d_X_odds_27 : decode b_X_odds 27 = .ok (.ldc2_w 209, 3) := by decide +kernel
theorem d_X_odds_30 : decode b_X_odds 30 = .ok (.lreturn, 1) := by decide +kernel
theorem d_X_odds_31 : decode b_X_odds 31 = .ok (.iconst 0, 1) := by decide +kernel
theorem d_X_odds_32 : decode b_X_odds 32 = .ok (.istore 4, 2) := by decide +kernel
theorem d_X_odds_34 : decode b_X_odds 34 = .ok (.iconst 0, 1) := by decide +kernel
theorem d_X_odds_35 : decode b_X_odds 35 = .ok (.istore 5, 2) := by decide +kernel
theorem d_X_odds_37 : decode b_X_odds 37 = .ok (.iload 5, 2) := by decide +kernel
theorem d_X_odds_39 : decode b_X_odds 39 = .ok (.aload_n 0, 1) := by decide +kernel
theorem d_X_odds_40 : decode b_X_odds 40 = .ok (.getfield 23, 3) := by decide +kernel
theorem d_X_odds_43 : decode b_X_odds 43 = .ok (.getfield 87, 3) := by decide +kernel
theorem d_X_odds_46 : decode b_X_odds 46 = .ok (.if_icmp .ge 43, 3) := by decide +kernel
theorem d_X_odds_49 : decode b_X_odds 49 = .ok (.aload_n 0, 1) := by decide +kernel
theorem d_X_odds_50 : decode b_X_odds 50 = .ok (.getfield 30, 3) := by decide +kernel
theorem d_X_odds_53 : decode b_X_odds 53 = .ok (.aload_n 0, 1) := by decide +kernel
theorem d_X_odds_54 : decode b_X_odds 54 = .ok (.getfield 23, 3) := by decide +kernel
theorem d_X_odds_57 : decode b_X_odds 57 = .ok (.invokevirtual 165, 3) := by decide +kernel
theorem d_X_odds_60 : decode b_X_odds 60 = .ok (.aload_n 0, 1) := by decide +kernel
theorem d_X_odds_61 : decode b_X_odds 61 = .ok (.getfield 30, 3) := by decide +kernel
theorem d_X_odds_64 : decode b_X_odds 64 = .ok (.iload_n 2, 1) := by decide +kernel
theorem d_X_odds_65 : decode b_X_odds 65 = .ok (.iload 5, 2) := by decide +kernel
theorem d_X_odds_67 : decode b_X_odds 67 = .ok (.iconst (-1), 1) := by decide +kernel
theorem d_X_odds_68 : decode b_X_odds 68 = .ok (.invokevirtual 162, 3) := by decide +kernel
theorem d_X_odds_71 : decode b_X_odds 71 = .ok (.pop, 1) := by decide +kernel
theorem d_X_odds_72 : decode b_X_odds 72 = .ok (.aload_n 0, 1) := by decide +kernel
theorem d_X_odds_73 : decode b_X_odds 73 = .ok (.iload_n 1, 1) := by decide +kernel
theorem d_X_odds_74 : decode b_X_odds 74 = .ok (.invokevirtual 172, 3) := by decide +kernel
theorem d_X_odds_77 : decode b_X_odds 77 = .ok (.ifCond .le 6, 3) := by decide +kernel
theorem d_X_odds_80 : decode b_X_odds 80 = .ok (.iinc 4 1, 3) := by decide +kernel
theorem d_X_odds_83 : decode b_X_odds 83 = .ok (.iinc 5 1, 3) := by decide +kernel
theorem d_X_odds_86 : decode b_X_odds 86 = .ok (.goto (-49), 3) := by decide +kernel
theorem d_X_odds_89 : decode b_X_odds 89 = .ok (.iload 4, 2) := by decide +kernel
theorem d_X_odds_91 : decode b_X_odds 91 = .ok (.aload_n 0, 1) := by decide +kernel
theorem d_X_odds_92 : decode b_X_odds 92 = .ok (.getfield 23, 3) := by decide +kernel
theorem d_X_odds_95 : decode b_X_odds 95 = .ok (.getfield 87, 3) := by decide +kernel
theorem d_X_odds_98 : decode b_X_odds 98 = .ok (.iload_n 3, 1) := by decide +kernel
theorem d_X_odds_99 : decode b_X_odds 99 = .ok (.invokestatic 211, 3) := by decide +kernel
theorem d_X_odds_102 : decode b_X_odds 102 = .ok (.lreturn, 1) := by decide +kernel
theorem d_X_mean_0 : decode b_X_mean 0 = .ok (.iload_n 1, 1) := by decide +kernel
theorem d_X_mean_1 : decode b_X_mean 1 = .ok (.iconst 1, 1) := by decide +kernel
theorem d_X_mean_2 : decode b_X_mean 2 = .ok (.bipush 60, 2) := by decide +kernel
theorem d_X_mean_4 : decode b_X_mean 4 = .ok (.invokestatic 83, 3) := by decide +kernel
theorem d_X_mean_7 : decode b_X_mean 7 = .ok (.ifCond .eq 12, 3) := by decide +kernel
theorem d_X_mean_10 : decode b_X_mean 10 = .ok (.iload_n 2, 1) := by decide +kernel
theorem d_X_mean_11 : decode b_X_mean 11 = .ok (.iconst 0, 1) := by decide +kernel
theorem d_X_mean_12 : decode b_X_mean 12 = .ok (.iconst 1, 1) := by decide +kernel
theorem d_X_mean_13 : decode b_X_mean 13 = .ok (.invokestatic 83, 3) := by decide +kernel
theorem d_X_mean_16 : decode b_X_mean 16 = .ok (.ifCond .ne 7, 3) := by decide +kernel
theorem d_X_mean_19 : decode b_X_mean 19 = .ok (.ldc2_w 209, 3) := by decide +kernel
theorem d_X_mean_22 : decode b_X_mean 22 = .ok (.lreturn, 1) := by decide +kernel
theorem d_X_mean_23 : decode b_X_mean 23 = .ok (.aload_n 0, 1) := by decide +kernel
theorem d_X_mean_24 : decode b_X_mean 24 = .ok (.getfield 30, 3) := by decide +kernel
theorem d_X_mean_27 : decode b_X_mean 27 = .ok (.aload_n 0, 1) := by decide +kernel
theorem d_X_mean_28 : decode b_X_mean 28 = .ok (.getfield 23, 3) := by decide +kernel
theorem d_X_mean_31 : decode b_X_mean 31 = .ok (.invokevirtual 165, 3) := by decide +kernel
theorem d_X_mean_34 : decode b_X_mean 34 = .ok (.iconst 0, 1) := by decide +kernel
theorem d_X_mean_35 : decode b_X_mean 35 = .ok (.istore_n 3, 1) := by decide +kernel
theorem d_X_mean_36 : decode b_X_mean 36 = .ok (.iconst 0, 1) := by decide +kernel
theorem d_X_mean_37 : decode b_X_mean 37 = .ok (.istore 4, 2) := by decide +kernel
theorem d_X_mean_39 : decode b_X_mean 39 = .ok (.iload 4, 2) := by decide +kernel
theorem d_X_mean_41 : decode b_X_mean 41 = .ok (.iload_n 1, 1) := by decide +kernel
theorem d_X_mean_42 : decode b_X_mean 42 = .ok (.if_icmp .ge 30, 3) := by decide +kernel
theorem d_X_mean_45 : decode b_X_mean 45 = .ok (.aload_n 0, 1) := by decide +kernel
theorem d_X_mean_46 : decode b_X_mean 46 = .ok (.getfield 30, 3) := by decide +kernel
theorem d_X_mean_49 : decode b_X_mean 49 = .ok (.iconst 1, 1) := by decide +kernel
theorem d_X_mean_50 : decode b_X_mean 50 = .ok (.iconst (-1), 1) := by decide +kernel
theorem d_X_mean_51 : decode b_X_mean 51 = .ok (.iconst (-1), 1) := by decide +kernel
theorem d_X_mean_52 : decode b_X_mean 52 = .ok (.invokevirtual 162, 3) := by decide +kernel
theorem d_X_mean_55 : decode b_X_mean 55 = .ok (.pop, 1) := by decide +kernel
theorem d_X_mean_56 : decode b_X_mean 56 = .ok (.iload_n 3, 1) := by decide +kernel
theorem d_X_mean_57 : decode b_X_mean 57 = .ok (.aload_n 0, 1) := by decide +kernel
theorem d_X_mean_58 : decode b_X_mean 58 = .ok (.getfield 30, 3) := by decide +kernel
theorem d_X_mean_61 : decode b_X_mean 61 = .ok (.getfield 123, 3) := by decide +kernel
theorem d_X_mean_64 : decode b_X_mean 64 = .ok (.iadd, 1) := by decide +kernel
theorem d_X_mean_65 : decode b_X_mean 65 = .ok (.istore_n 3, 1) := by decide +kernel
theorem d_X_mean_66 : decode b_X_mean 66 = .ok (.iinc 4 1, 3) := by decide +kernel
theorem d_X_mean_69 : decode b_X_mean 69 = .ok (.goto (-30), 3) := by decide +kernel
theorem d_X_mean_72 : decode b_X_mean 72 = .ok (.iload_n 3, 1) := by decide +kernel
theorem d_X_mean_73 : decode b_X_mean 73 = .ok (.iload_n 1, 1) := by decide +kernel
theorem d_X_mean_74 : decode b_X_mean 74 = .ok (.iload_n 2, 1) := by decide +kernel
theorem d_X_mean_75 : decode b_X_mean 75 = .ok (.invokestatic 211, 3) := by decide +kernel
theorem d_X_mean_78 : decode b_X_mean 78 = .ok (.lreturn, 1) := by decide +kernel
theorem d_X_book_0 : decode b_X_book 0 = .ok (.iload_n 1, 1) := by decide +kernel
theorem d_X_book_1 : decode b_X_book 1 = .ok (.iconst (-1), 1) := by decide +kernel
theorem d_X_book_2 : decode b_X_book 2 = .ok (.if_icmp .ne 13, 3) := by decide +kernel
theorem d_X_book_5 : decode b_X_book 5 = .ok (.aload_n 0, 1) := by decide +kernel
theorem d_X_book_6 : decode b_X_book 6 = .ok (.getfield 36, 3) := by decide +kernel
theorem d_X_book_9 : decode b_X_book 9 = .ok (.iconst 0, 1) := by decide +kernel
theorem d_X_book_10 : decode b_X_book 10 = .ok (.putfield 215, 3) := by decide +kernel
theorem d_X_book_13 : decode b_X_book 13 = .ok (.iconst 0, 1) := by decide +kernel
theorem d_X_book_14 : decode b_X_book 14 = .ok (.ireturn, 1) := by decide +kernel
theorem d_X_book_15 : decode b_X_book 15 = .ok (.iload_n 1, 1) := by decide +kernel
theorem d_X_book_16 : decode b_X_book 16 = .ok (.iconst 0, 1) := by decide +kernel
theorem d_X_book_17 : decode b_X_book 17 = .ok (.sipush 999, 3) := by decide +kernel
theorem d_X_book_20 : decode b_X_book 20 = .ok (.invokestatic 83, 3) := by decide +kernel
theorem d_X_book_23 : decode b_X_book 23 = .ok (.ifCond .ne 6, 3) := by decide +kernel
theorem d_X_book_26 : decode b_X_book 26 = .ok (.bipush (-2), 2) := by decide +kernel
theorem d_X_book_28 : decode b_X_book 28 = .ok (.ireturn, 1) := by decide +kernel
theorem d_X_book_29 : decode b_X_book 29 = .ok (.aload_n 0, 1) := by decide +kernel
theorem d_X_book_30 : decode b_X_book 30 = .ok (.getfield 36, 3) := by decide +kernel
theorem d_X_book_33 : decode b_X_book 33 = .ok (.getfield 215, 3) := by decide +kernel
theorem d_X_book_36 : decode b_X_book 36 = .ok (.bipush 12, 2) := by decide +kernel
theorem d_X_book_38 : decode b_X_book 38 = .ok (.if_icmp .lt 6, 3) := by decide +kernel
theorem d_X_book_41 : decode b_X_book 41 = .ok (.bipush (-4), 2) := by decide +kernel
theorem d_X_book_43 : decode b_X_book 43 = .ok (.ireturn, 1) := by decide +kernel
theorem d_X_book_44 : decode b_X_book 44 = .ok (.aload_n 0, 1) := by decide +kernel
theorem d_X_book_45 : decode b_X_book 45 = .ok (.getfield 36, 3) := by decide +kernel
theorem d_X_book_48 : decode b_X_book 48 = .ok (.getfield 218, 3) := by decide +kernel
theorem d_X_book_51 : decode b_X_book 51 = .ok (.aload_n 0, 1) := by decide +kernel
theorem d_X_book_52 : decode b_X_book 52 = .ok (.getfield 36, 3) := by decide +kernel
theorem d_X_book_55 : decode b_X_book 55 = .ok (.getfield 215, 3) := by decide +kernel
theorem d_X_book_58 : decode b_X_book 58 = .ok (.iload_n 1, 1) := by decide +kernel
theorem d_X_book_59 : decode b_X_book 59 = .ok (.iastore, 1) := by decide +kernel
theorem d_X_book_60 : decode b_X_book 60 = .ok (.aload_n 0, 1) := by decide +kernel
theorem d_X_book_61 : decode b_X_book 61 = .ok (.getfield 36, 3) := by decide +kernel
theorem d_X_book_64 : decode b_X_book 64 = .ok (.dup, 1) := by decide +kernel
theorem d_X_book_65 : decode b_X_book 65 = .ok (.getfield 215, 3) := by decide +kernel
theorem d_X_book_68 : decode b_X_book 68 = .ok (.iconst 1, 1) := by decide +kernel
theorem d_X_book_69 : decode b_X_book 69 = .ok (.iadd, 1) := by decide +kernel
theorem d_X_book_70 : decode b_X_book 70 = .ok (.putfield 215, 3) := by decide +kernel
theorem d_X_book_73 : decode b_X_book 73 = .ok (.aload_n 0, 1) := by decide +kernel
theorem d_X_book_74 : decode b_X_book 74 = .ok (.getfield 36, 3) := by decide +kernel
theorem d_X_book_77 : decode b_X_book 77 = .ok (.getfield 215, 3) := by decide +kernel
theorem d_X_book_80 : decode b_X_book 80 = .ok (.ireturn, 1) := by decide +kernel
theorem d_X_looked_0 : decode b_X_looked 0 = .ok (.aload_n 0, 1) := by decide +kernel
theorem d_X_looked_1 : decode b_X_looked 1 = .ok (.getfield 30, 3) := by decide +kernel
theorem d_X_looked_4 : decode b_X_looked 4 = .ok (.aload_n 0, 1) := by decide +kernel
theorem d_X_looked_5 : decode b_X_looked 5 = .ok (.getfield 23, 3) := by decide +kernel
theorem d_X_looked_8 : decode b_X_looked 8 = .ok (.invokevirtual 165, 3) := by decide +kernel
theorem d_X_looked_11 : decode b_X_looked 11 = .ok (.iconst 0, 1) := by decide +kernel
theorem d_X_looked_12 : decode b_X_looked 12 = .ok (.istore_n 1, 1) := by decide +kernel
theorem d_X_looked_13 : decode b_X_looked 13 = .ok (.iload_n 1, 1) := by decide +kernel
theorem d_X_looked_14 : decode b_X_looked 14 = .ok (.aload_n 0, 1) := by decide +kernel
theorem d_X_looked_15 : decode b_X_looked 15 = .ok (.getfield 36, 3) := by decide +kernel
theorem d_X_looked_18 : decode b_X_looked 18 = .ok (.getfield 215, 3) := by decide +kernel
theorem d_X_looked_21 : decode b_X_looked 21 = .ok (.if_icmp .ge 41, 3) := by decide +kernel
theorem d_X_looked_24 : decode b_X_looked 24 = .ok (.aload_n 0, 1) := by decide +kernel
theorem d_X_looked_25 : decode b_X_looked 25 = .ok (.getfield 30, 3) := by decide +kernel
theorem d_X_looked_28 : decode b_X_looked 28 = .ok (.iconst 1, 1) := by decide +kernel
theorem d_X_looked_29 : decode b_X_looked 29 = .ok (.iconst (-1), 1) := by decide +kernel
theorem d_X_looked_30 : decode b_X_looked 30 = .ok (.iconst (-1), 1) := by decide +kernel
theorem d_X_looked_31 : decode b_X_looked 31 = .ok (.invokevirtual 162, 3) := by decide +kernel
theorem d_X_looked_34 : decode b_X_looked 34 = .ok (.pop, 1) := by decide +kernel
theorem d_X_looked_35 : decode b_X_looked 35 = .ok (.aload_n 0, 1) := by decide +kernel
theorem d_X_looked_36 : decode b_X_looked 36 = .ok (.getfield 30, 3) := by decide +kernel
theorem d_X_looked_39 : decode b_X_looked 39 = .ok (.getfield 123, 3) := by decide +kernel
theorem d_X_looked_42 : decode b_X_looked 42 = .ok (.aload_n 0, 1) := by decide +kernel
theorem d_X_looked_43 : decode b_X_looked 43 = .ok (.getfield 36, 3) := by decide +kernel
theorem d_X_looked_46 : decode b_X_looked 46 = .ok (.getfield 218, 3) := by decide +kernel
theorem d_X_looked_49 : decode b_X_looked 49 = .ok (.iload_n 1, 1) := by decide +kernel
theorem d_X_looked_50 : decode b_X_looked 50 = .ok (.iaload, 1) := by decide +kernel
theorem d_X_looked_51 : decode b_X_looked 51 = .ok (.if_icmp .eq 5, 3) := by decide +kernel
theorem d_X_looked_54 : decode b_X_looked 54 = .ok (.iload_n 1, 1) := by decide +kernel
theorem d_X_looked_55 : decode b_X_looked 55 = .ok (.ireturn, 1) := by decide +kernel
theorem d_X_looked_56 : decode b_X_looked 56 = .ok (.iinc 1 1, 3) := by decide +kernel
theorem d_X_looked_59 : decode b_X_looked 59 = .ok (.goto (-46), 3) := by decide +kernel
theorem d_X_looked_62 : decode b_X_looked 62 = .ok (.bipush (-5), 2) := by decide +kernel
theorem d_X_looked_64 : decode b_X_looked 64 = .ok (.ireturn, 1) := by decide +kernel
theorem d_X_judge_0 : decode b_X_judge 0 = .ok (.iload_n 1, 1) := by decide +kernel
theorem d_X_judge_1 : decode b_X_judge 1 = .ok (.invokestatic 221, 3) := by decide +kernel
theorem d_X_judge_4 : decode b_X_judge 4 = .ok (.ifCond .ne 5, 3) := by decide +kernel
theorem d_X_judge_7 : decode b_X_judge 7 = .ok (.iconst (-1), 1) := by decide +kernel
theorem d_X_judge_8 : decode b_X_judge 8 = .ok (.ireturn, 1) := by decide +kernel
theorem d_X_judge_9 : decode b_X_judge 9 = .ok (.aload_n 0, 1) := by decide +kernel
theorem d_X_judge_10 : decode b_X_judge 10 = .ok (.getfield 78, 3) := by decide +kernel
theorem d_X_judge_13 : decode b_X_judge 13 = .ok (.iload_n 1, 1) := by decide +kernel
theorem d_X_judge_14 : decode b_X_judge 14 = .ok (.aaload, 1) := by decide +kernel
theorem d_X_judge_15 : decode b_X_judge 15 = .ok (.astore_n 3, 1) := by decide +kernel
theorem d_X_judge_16 : decode b_X_judge 16 = .ok (.aload_n 3, 1) := by decide +kernel
theorem d_X_judge_17 : decode b_X_judge 17 = .ok (.getfield 224, 3) := by decide +kernel
theorem d_X_judge_20 : decode b_X_judge 20 = .ok (.iconst (-1), 1) := by decide +kernel
theorem d_X_judge_21 : decode b_X_judge 21 = .ok (.if_icmp .eq 14, 3) := by decide +kernel
theorem d_X_judge_24 : decode b_X_judge 24 = .ok (.aload_n 3, 1) := by decide +kernel
theorem d_X_judge_25 : decode b_X_judge 25 = .ok (.getfield 224, 3) := by decide +kernel
theorem d_X_judge_28 : decode b_X_judge 28 = .ok (.iconst 2, 1) := by decide +kernel
theorem d_X_judge_29 : decode b_X_judge 29 = .ok (.if_icmp .eq 6, 3) := by decide +kernel
theorem d_X_judge_32 : decode b_X_judge 32 = .ok (.bipush (-12), 2) := by decide +kernel
theorem d_X_judge_34 : decode b_X_judge 34 = .ok (.ireturn, 1) := by decide +kernel
theorem d_X_judge_35 : decode b_X_judge 35 = .ok (.iconst 0, 1) := by decide +kernel
theorem d_X_judge_36 : decode b_X_judge 36 = .ok (.istore 4, 2) := by decide +kernel
theorem d_X_judge_38 : decode b_X_judge 38 = .ok (.iload 4, 2) := by decide +kernel
theorem d_X_judge_40 : decode b_X_judge 40 = .ok (.aload_n 0, 1) := by decide +kernel
theorem d_X_judge_41 : decode b_X_judge 41 = .ok (.getfield 23, 3) := by decide +kernel
theorem d_X_judge_44 : decode b_X_judge 44 = .ok (.getfield 87, 3) := by decide +kernel
theorem d_X_judge_47 : decode b_X_judge 47 = .ok (.if_icmp .ge 57, 3) := by decide +kernel
theorem d_X_judge_50 : decode b_X_judge 50 = .ok (.iload_n 2, 1) := by decide +kernel
theorem d_X_judge_51 : decode b_X_judge 51 = .ok (.ifCond .lt 14, 3) := by decide +kernel
theorem d_X_judge_54 : decode b_X_judge 54 = .ok (.iload_n 2, 1) := by decide +kernel
theorem d_X_judge_55 : decode b_X_judge 55 = .ok (.aload_n 3, 1) := by decide +kernel
theorem d_X_judge_56 : decode b_X_judge 56 = .ok (.getfield 227, 3) := by decide +kernel
theorem d_X_judge_59 : decode b_X_judge 59 = .ok (.iload 4, 2) := by decide +kernel
theorem d_X_judge_61 : decode b_X_judge 61 = .ok (.isub, 1) := by decide +kernel
theorem d_X_judge_62 : decode b_X_judge 62 = .ok (.if_icmp .lt 9, 3) := by decide +kernel
theorem d_X_judge_65 : decode b_X_judge 65 = .ok (.bipush 100, 2) := by decide +kernel
theorem d_X_judge_67 : decode b_X_judge 67 = .ok (.iload 4, 2) := by decide +kernel
theorem d_X_judge_69 : decode b_X_judge 69 = .ok (.iadd, 1) := by decide +kernel
theorem d_X_judge_70 : decode b_X_judge 70 = .ok (.ireturn, 1) := by decide +kernel
theorem d_X_judge_71 : decode b_X_judge 71 = .ok (.aload_n 3, 1) := by decide +kernel
theorem d_X_judge_72 : decode b_X_judge 72 = .ok (.getfield 230, 3) := by decide +kernel
theorem d_X_judge_75 : decode b_X_judge 75 = .ok (.iload_n 2, 1) := by decide +kernel
theorem d_X_judge_76 : decode b_X_judge 76 = .ok (.iload 4, 2) := by decide +kernel
theorem d_X_judge_78 : decode b_X_judge 78 = .ok (.iadd, 1) := by decide +kernel
theorem d_X_judge_79 : decode b_X_judge 79 = .ok (.laload, 1) := by decide +kernel
theorem d_X_judge_80 : decode b_X_judge 80 = .ok (.aload_n 0, 1) := by decide +kernel
theorem d_X_judge_81 : decode b_X_judge 81 = .ok (.getfield 23, 3) := by decide +kernel
theorem d_X_judge_84 : decode b_X_judge 84 = .ok (.getfield 110, 3) := by decide +kernel
theorem d_X_judge_87 : decode b_X_judge 87 = .ok (.iload 4, 2) := by decide +kernel
theorem d_X_judge_89 : decode b_X_judge 89 = .ok (.iaload, 1) := by decide +kernel
theorem d_X_judge_90 : decode b_X_judge 90 = .ok (.i2l, 1) := by decide +kernel
theorem d_X_judge_91 : decode b_X_judge 91 = .ok (.lcmp, 1) := by decide +kernel
theorem d_X_judge_92 : decode b_X_judge 92 = .ok (.ifCond .eq 6, 3) := by decide +kernel
theorem d_X_judge_95 : decode b_X_judge 95 = .ok (.iload 4, 2) := by decide +kernel
theorem d_X_judge_97 : decode b_X_judge 97 = .ok (.ireturn, 1) := by decide +kernel
theorem d_X_judge_98 : decode b_X_judge 98 = .ok (.iinc 4 1, 3) := by decide +kernel
theorem d_X_judge_101 : decode b_X_judge 101 = .ok (.goto (-63), 3) := by decide +kernel
theorem d_X_judge_104 : decode b_X_judge 104 = .ok (.bipush (-5), 2) := by decide +kernel
theorem d_X_judge_106 : decode b_X_judge 106 = .ok (.ireturn, 1) := by decide +kernel
theorem d_X_image_0 : decode b_X_image 0 = .ok (.aload_n 0, 1) := by decide +kernel
theorem d_X_image_1 : decode b_X_image 1 = .ok (.getfield 27, 3) := by decide +kernel
theorem d_X_image_4 : decode b_X_image 4 = .ok (.aload_n 0, 1) := by decide +kernel
theorem d_X_image_5 : decode b_X_image 5 = .ok (.getfield 23, 3) := by decide +kernel
theorem d_X_image_8 : decode b_X_image 8 = .ok (.invokevirtual 165, 3) := by decide +kernel
theorem d_X_image_11 : decode b_X_image 11 = .ok (.aload_n 0, 1) := by decide +kernel
theorem d_X_image_12 : decode b_X_image 12 = .ok (.getfield 40, 3) := by decide +kernel
theorem d_X_image_15 : decode b_X_image 15 = .ok (.aload_n 0, 1) := by decide +kernel
theorem d_X_image_16 : decode b_X_image 16 = .ok (.getfield 36, 3) := by decide +kernel
theorem d_X_image_19 : decode b_X_image 19 = .ok (.invokevirtual 234, 3) := by decide +kernel
theorem d_X_image_22 : decode b_X_image 22 = .ok (.aload_n 0, 1) := by decide +kernel
theorem d_X_image_23 : decode b_X_image 23 = .ok (.iconst 1, 1) := by decide +kernel
theorem d_X_image_24 : decode b_X_image 24 = .ok (.putfield 43, 3) := by decide +kernel
theorem d_X_image_27 : decode b_X_image 27 = .ok (.aload_n 0, 1) := by decide +kernel
theorem d_X_image_28 : decode b_X_image 28 = .ok (.getfield 23, 3) := by decide +kernel
theorem d_X_image_31 : decode b_X_image 31 = .ok (.getfield 87, 3) := by decide +kernel
theorem d_X_image_34 : decode b_X_image 34 = .ok (.ireturn, 1) := by decide +kernel
theorem d_X_undo_0 : decode b_X_undo 0 = .ok (.aload_n 0, 1) := by decide +kernel
theorem d_X_undo_1 : decode b_X_undo 1 = .ok (.getfield 43, 3) := by decide +kernel
theorem d_X_undo_4 : decode b_X_undo 4 = .ok (.ifCond .ne 6, 3) := by decide +kernel
theorem d_X_undo_7 : decode b_X_undo 7 = .ok (.bipush (-3), 2) := by decide +kernel
theorem d_X_undo_9 : decode b_X_undo 9 = .ok (.ireturn, 1) := by decide +kernel
theorem d_X_undo_10 : decode b_X_undo 10 = .ok (.aload_n 0, 1) := by decide +kernel
theorem d_X_undo_11 : decode b_X_undo 11 = .ok (.getfield 23, 3) := by decide +kernel
theorem d_X_undo_14 : decode b_X_undo 14 = .ok (.aload_n 0, 1) := by decide +kernel
theorem d_X_undo_15 : decode b_X_undo 15 = .ok (.getfield 27, 3) := by decide +kernel
theorem d_X_undo_18 : decode b_X_undo 18 = .ok (.invokevirtual 165, 3) := by decide +kernel
theorem d_X_undo_21 : decode b_X_undo 21 = .ok (.aload_n 0, 1) := by decide +kernel
theorem d_X_undo_22 : decode b_X_undo 22 = .ok (.getfield 36, 3) := by decide +kernel
theorem d_X_undo_25 : decode b_X_undo 25 = .ok (.aload_n 0, 1) := by decide +kernel
theorem d_X_undo_26 : decode b_X_undo 26 = .ok (.getfield 40, 3) := by decide +kernel
theorem d_X_undo_29 : decode b_X_undo 29 = .ok (.invokevirtual 234, 3) := by decide +kernel
theorem d_X_undo_32 : decode b_X_undo 32 = .ok (.aload_n 0, 1) := by decide +kernel
theorem d_X_undo_33 : decode b_X_undo 33 = .ok (.getfield 23, 3) := by decide +kernel
theorem d_X_undo_36 : decode b_X_undo 36 = .ok (.getfield 87, 3) := by decide +kernel
theorem d_X_undo_39 : decode b_X_undo 39 = .ok (.ireturn, 1) := by decide +kernel
theorem d_X_act_0 : decode b_X_act 0 = .ok (.aload_n 0, 1) := by decide +kernel
theorem d_X_act_1 : decode b_X_act 1 = .ok (.iload_n 1, 1) := by decide +kernel
theorem d_X_act_2 : decode b_X_act 2 = .ok (.invokevirtual 94, 3) := by decide +kernel
theorem d_X_act_5 : decode b_X_act 5 = .ok (.ifCond .eq 12, 3) := by decide +kernel
theorem d_X_act_8 : decode b_X_act 8 = .ok (.iload_n 2, 1) := by decide +kernel
theorem d_X_act_9 : decode b_X_act 9 = .ok (.iconst 0, 1) := by decide +kernel
theorem d_X_act_10 : decode b_X_act 10 = .ok (.iconst 2, 1) := by decide +kernel
theorem d_X_act_11 : decode b_X_act 11 = .ok (.invokestatic 83, 3) := by decide +kernel
theorem d_X_act_14 : decode b_X_act 14 = .ok (.ifCond .ne 13, 3) := by decide +kernel
theorem d_X_act_17 : decode b_X_act 17 = .ok (.aload_n 0, 1) := by decide +kernel
theorem d_X_act_18 : decode b_X_act 18 = .ok (.getfield 72, 3) := by decide +kernel
theorem d_X_act_21 : decode b_X_act 21 = .ok (.iconst 0, 1) := by decide +kernel
theorem d_X_act_22 : decode b_X_act 22 = .ok (.putfield 238, 3) := by decide +kernel
theorem d_X_act_25 : decode b_X_act 25 = .ok (.iconst 0, 1) := by decide +kernel
theorem d_X_act_26 : decode b_X_act 26 = .ok (.ireturn, 1) := by decide +kernel
theorem d_X_act_27 : decode b_X_act 27 = .ok (.aload_n 0, 1) := by decide +kernel
theorem d_X_act_28 : decode b_X_act 28 = .ok (.getfield 72, 3) := by decide +kernel
theorem d_X_act_31 : decode b_X_act 31 = .ok (.aload_n 0, 1) := by decide +kernel
theorem d_X_act_32 : decode b_X_act 32 = .ok (.getfield 23, 3) := by decide +kernel
theorem d_X_act_35 : decode b_X_act 35 = .ok (.getfield 98, 3) := by decide +kernel
theorem d_X_act_38 : decode b_X_act 38 = .ok (.iload_n 1, 1) := by decide +kernel
theorem d_X_act_39 : decode b_X_act 39 = .ok (.iaload, 1) := by decide +kernel
theorem d_X_act_40 : decode b_X_act 40 = .ok (.iload_n 1, 1) := by decide +kernel
theorem d_X_act_41 : decode b_X_act 41 = .ok (.aload_n 0, 1) := by decide +kernel
theorem d_X_act_42 : decode b_X_act 42 = .ok (.getfield 23, 3) := by decide +kernel
theorem d_X_act_45 : decode b_X_act 45 = .ok (.getfield 101, 3) := by decide +kernel
theorem d_X_act_48 : decode b_X_act 48 = .ok (.iload_n 1, 1) := by decide +kernel
theorem d_X_act_49 : decode b_X_act 49 = .ok (.iaload, 1) := by decide +kernel
theorem d_X_act_50 : decode b_X_act 50 = .ok (.iload_n 2, 1) := by decide +kernel
theorem d_X_act_51 : decode b_X_act 51 = .ok (.iload_n 3, 1) := by decide +kernel
theorem d_X_act_52 : decode b_X_act 52 = .ok (.invokevirtual 241, 3) := by decide +kernel
theorem d_X_act_55 : decode b_X_act 55 = .ok (.ireturn, 1) := by decide +kernel
theorem d_X_trace_0 : decode b_X_trace 0 = .ok (.iload_n 1, 1) := by decide +kernel
theorem d_X_trace_1 : decode b_X_trace 1 = .ok (.iconst 0, 1) := by decide +kernel
theorem d_X_trace_2 : decode b_X_trace 2 = .ok (.aload_n 0, 1) := by decide +kernel
theorem d_X_trace_3 : decode b_X_trace 3 = .ok (.getfield 72, 3) := by decide +kernel
theorem d_X_trace_6 : decode b_X_trace 6 = .ok (.getfield 238, 3) := by decide +kernel
theorem d_X_trace_9 : decode b_X_trace 9 = .ok (.bipush 20, 2) := by decide +kernel
theorem d_X_trace_11 : decode b_X_trace 11 = .ok (.invokestatic 245, 3) := by decide +kernel
theorem d_X_trace_14 : decode b_X_trace 14 = .ok (.iconst 1, 1) := by decide +kernel
theorem d_X_trace_15 : decode b_X_trace 15 = .ok (.isub, 1) := by decide +kernel
theorem d_X_trace_16 : decode b_X_trace 16 = .ok (.invokestatic 83, 3) := by decide +kernel
theorem d_X_trace_19 : decode b_X_trace 19 = .ok (.ifCond .eq 15, 3) := by decide +kernel
theorem d_X_trace_22 : decode b_X_trace 22 = .ok (.aload_n 0, 1) := by decide +kernel
theorem d_X_trace_23 : decode b_X_trace 23 = .ok (.getfield 72, 3) := by decide +kernel
theorem d_X_trace_26 : decode b_X_trace 26 = .ok (.getfield 251, 3) := by decide +kernel
theorem d_X_trace_29 : decode b_X_trace 29 = .ok (.iload_n 1, 1) := by decide +kernel
theorem d_X_trace_30 : decode b_X_trace 30 = .ok (.iaload, 1) := by decide +kernel
theorem d_X_trace_31 : decode b_X_trace 31 = .ok (.goto 4, 3) := by decide +kernel
theorem d_X_trace_34 : decode b_X_trace 34 = .ok (.iconst (-1), 1) := by decide +kernel
theorem d_X_trace_35 : decode b_X_trace 35 = .ok (.ireturn, 1) := by decide +kernel
theorem d_X_taken_0 : decode b_X_taken 0 = .ok (.iload_n 2, 1) := by decide +kernel
theorem d_X_taken_1 : decode b_X_taken 1 = .ok (.iconst 0, 1) := by decide +kernel
theorem d_X_taken_2 : decode b_X_taken 2 = .ok (.bipush 6, 2) := by decide +kernel
theorem d_X_taken_4 : decode b_X_taken 4 = .ok (.invokestatic 83, 3) := by decide +kernel
theorem d_X_taken_7 : decode b_X_taken 7 = .ok (.ifCond .ne 6, 3) := by decide +kernel
theorem d_X_taken_10 : decode b_X_taken 10 = .ok (.bipush (-2), 2) := by decide +kernel
theorem d_X_taken_12 : decode b_X_taken 12 = .ok (.ireturn, 1) := by decide +kernel
theorem d_X_taken_13 : decode b_X_taken 13 = .ok (.aload_n 0, 1) := by decide +kernel
theorem d_X_taken_14 : decode b_X_taken 14 = .ok (.iload_n 1, 1) := by decide +kernel
theorem d_X_taken_15 : decode b_X_taken 15 = .ok (.invokevirtual 94, 3) := by decide +kernel
theorem d_X_taken_18 : decode b_X_taken 18 = .ok (.ifCond .ne 6, 3) := by decide +kernel
theorem d_X_taken_21 : decode b_X_taken 21 = .ok (.bipush (-11), 2) := by decide +kernel
theorem d_X_taken_23 : decode b_X_taken 23 = .ok (.ireturn, 1) := by decide +kernel
theorem d_X_taken_24 : decode b_X_taken 24 = .ok (.aload_n 0, 1) := by decide +kernel
theorem d_X_taken_25 : decode b_X_taken 25 = .ok (.getfield 23, 3) := by decide +kernel
theorem d_X_taken_28 : decode b_X_taken 28 = .ok (.getfield 98, 3) := by decide +kernel
theorem d_X_taken_31 : decode b_X_taken 31 = .ok (.iload_n 1, 1) := by decide +kernel
theorem d_X_taken_32 : decode b_X_taken 32 = .ok (.iaload, 1) := by decide +kernel
theorem d_X_taken_33 : decode b_X_taken 33 = .ok (.iload_n 2, 1) := by decide +kernel
theorem d_X_taken_34 : decode b_X_taken 34 = .ok (.invokestatic 254, 3) := by decide +kernel
theorem d_X_taken_37 : decode b_X_taken 37 = .ok (.ifCond .eq 15, 3) := by decide +kernel
theorem d_X_taken_40 : decode b_X_taken 40 = .ok (.aload_n 0, 1) := by decide +kernel
theorem d_X_taken_41 : decode b_X_taken 41 = .ok (.getfield 23, 3) := by decide +kernel
theorem d_X_taken_44 : decode b_X_taken 44 = .ok (.getfield 98, 3) := by decide +kernel
theorem d_X_taken_47 : decode b_X_taken 47 = .ok (.iload_n 1, 1) := by decide +kernel
theorem d_X_taken_48 : decode b_X_taken 48 = .ok (.iaload, 1) := by decide +kernel
theorem d_X_taken_49 : decode b_X_taken 49 = .ok (.goto 5, 3) := by decide +kernel
theorem d_X_taken_52 : decode b_X_taken 52 = .ok (.bipush (-12), 2) := by decide +kernel
theorem d_X_taken_54 : decode b_X_taken 54 = .ok (.ireturn, 1) := by decide +kernel
theorem d_X_count_0 : decode b_X_count 0 = .ok (.iload_n 1, 1) := by decide +kernel
theorem d_X_count_1 : decode b_X_count 1 = .ok (.tableswitch 84 0 5 #[39, 47, 52, 60, 68, 76], 39) := by decide +kernel
theorem d_X_count_40 : decode b_X_count 40 = .ok (.aload_n 0, 1) := by decide +kernel
theorem d_X_count_41 : decode b_X_count 41 = .ok (.getfield 23, 3) := by decide +kernel
theorem d_X_count_44 : decode b_X_count 44 = .ok (.getfield 87, 3) := by decide +kernel
theorem d_X_count_47 : decode b_X_count 47 = .ok (.ireturn, 1) := by decide +kernel
theorem d_X_count_48 : decode b_X_count 48 = .ok (.aload_n 0, 1) := by decide +kernel
theorem d_X_count_49 : decode b_X_count 49 = .ok (.getfield 58, 3) := by decide +kernel
theorem d_X_count_52 : decode b_X_count 52 = .ok (.ireturn, 1) := by decide +kernel
theorem d_X_count_53 : decode b_X_count 53 = .ok (.aload_n 0, 1) := by decide +kernel
theorem d_X_count_54 : decode b_X_count 54 = .ok (.getfield 36, 3) := by decide +kernel
theorem d_X_count_57 : decode b_X_count 57 = .ok (.getfield 198, 3) := by decide +kernel
theorem d_X_count_60 : decode b_X_count 60 = .ok (.ireturn, 1) := by decide +kernel
theorem d_X_count_61 : decode b_X_count 61 = .ok (.aload_n 0, 1) := by decide +kernel
theorem d_X_count_62 : decode b_X_count 62 = .ok (.getfield 36, 3) := by decide +kernel
theorem d_X_count_65 : decode b_X_count 65 = .ok (.getfield 215, 3) := by decide +kernel
theorem d_X_count_68 : decode b_X_count 68 = .ok (.ireturn, 1) := by decide +kernel
theorem d_X_count_69 : decode b_X_count 69 = .ok (.aload_n 0, 1) := by decide +kernel
theorem d_X_count_70 : decode b_X_count 70 = .ok (.getfield 50, 3) := by decide +kernel
theorem d_X_count_73 : decode b_X_count 73 = .ok (.getfield 129, 3) := by decide +kernel
theorem d_X_count_76 : decode b_X_count 76 = .ok (.ireturn, 1) := by decide +kernel
theorem d_X_count_77 : decode b_X_count 77 = .ok (.aload_n 0, 1) := by decide +kernel
theorem d_X_count_78 : decode b_X_count 78 = .ok (.getfield 72, 3) := by decide +kernel
theorem d_X_count_81 : decode b_X_count 81 = .ok (.getfield 238, 3) := by decide +kernel
theorem d_X_count_84 : decode b_X_count 84 = .ok (.ireturn, 1) := by decide +kernel
theorem d_X_count_85 : decode b_X_count 85 = .ok (.bipush (-2), 2) := by decide +kernel
theorem d_X_count_87 : decode b_X_count 87 = .ok (.ireturn, 1) := by decide +kernel
theorem d_X_tape_0 : decode b_X_tape 0 = .ok (.iload_n 1, 1) := by decide +kernel
theorem d_X_tape_1 : decode b_X_tape 1 = .ok (.invokestatic 221, 3) := by decide +kernel
theorem d_X_tape_4 : decode b_X_tape 4 = .ok (.ifCond .ne 5, 3) := by decide +kernel
theorem d_X_tape_7 : decode b_X_tape 7 = .ok (.iconst (-1), 1) := by decide +kernel
theorem d_X_tape_8 : decode b_X_tape 8 = .ok (.ireturn, 1) := by decide +kernel
theorem d_X_tape_9 : decode b_X_tape 9 = .ok (.iload_n 2, 1) := by decide +kernel
theorem d_X_tape_10 : decode b_X_tape 10 = .ok (.iconst (-1), 1) := by decide +kernel
theorem d_X_tape_11 : decode b_X_tape 11 = .ok (.if_icmp .ne 16, 3) := by decide +kernel
theorem d_X_tape_14 : decode b_X_tape 14 = .ok (.aload_n 0, 1) := by decide +kernel
theorem d_X_tape_15 : decode b_X_tape 15 = .ok (.getfield 78, 3) := by decide +kernel
theorem d_X_tape_18 : decode b_X_tape 18 = .ok (.iload_n 1, 1) := by decide +kernel
theorem d_X_tape_19 : decode b_X_tape 19 = .ok (.aaload, 1) := by decide +kernel
theorem d_X_tape_20 : decode b_X_tape 20 = .ok (.iload_n 2, 1) := by decide +kernel
theorem d_X_tape_21 : decode b_X_tape 21 = .ok (.iconst 0, 1) := by decide +kernel
theorem d_X_tape_22 : decode b_X_tape 22 = .ok (.invokevirtual 258, 3) := by decide +kernel
theorem d_X_tape_25 : decode b_X_tape 25 = .ok (.iconst 1, 1) := by decide +kernel
theorem d_X_tape_26 : decode b_X_tape 26 = .ok (.ireturn, 1) := by decide +kernel
theorem d_X_tape_27 : decode b_X_tape 27 = .ok (.iload_n 2, 1) := by decide +kernel
theorem d_X_tape_28 : decode b_X_tape 28 = .ok (.iconst 0, 1) := by decide +kernel
theorem d_X_tape_29 : decode b_X_tape 29 = .ok (.iconst 4, 1) := by decide +kernel
theorem d_X_tape_30 : decode b_X_tape 30 = .ok (.invokestatic 83, 3) := by decide +kernel
theorem d_X_tape_33 : decode b_X_tape 33 = .ok (.ifCond .eq 9, 3) := by decide +kernel
theorem d_X_tape_36 : decode b_X_tape 36 = .ok (.iload_n 3, 1) := by decide +kernel
theorem d_X_tape_37 : decode b_X_tape 37 = .ok (.bipush 60, 2) := by decide +kernel
theorem d_X_tape_39 : decode b_X_tape 39 = .ok (.if_icmp .le 6, 3) := by decide +kernel
theorem d_X_tape_42 : decode b_X_tape 42 = .ok (.bipush (-2), 2) := by decide +kernel
theorem d_X_tape_44 : decode b_X_tape 44 = .ok (.ireturn, 1) := by decide +kernel
theorem d_X_tape_45 : decode b_X_tape 45 = .ok (.iload_n 3, 1) := by decide +kernel
theorem d_X_tape_46 : decode b_X_tape 46 = .ok (.ifCond .ge 6, 3) := by decide +kernel
theorem d_X_tape_49 : decode b_X_tape 49 = .ok (.bipush (-14), 2) := by decide +kernel
theorem d_X_tape_51 : decode b_X_tape 51 = .ok (.ireturn, 1) := by decide +kernel
theorem d_X_tape_52 : decode b_X_tape 52 = .ok (.aload_n 0, 1) := by decide +kernel
theorem d_X_tape_53 : decode b_X_tape 53 = .ok (.getfield 78, 3) := by decide +kernel
theorem d_X_tape_56 : decode b_X_tape 56 = .ok (.iload_n 1, 1) := by decide +kernel
theorem d_X_tape_57 : decode b_X_tape 57 = .ok (.aaload, 1) := by decide +kernel
theorem d_X_tape_58 : decode b_X_tape 58 = .ok (.iload_n 2, 1) := by decide +kernel
theorem d_X_tape_59 : decode b_X_tape 59 = .ok (.iload_n 3, 1) := by decide +kernel
theorem d_X_tape_60 : decode b_X_tape 60 = .ok (.invokevirtual 258, 3) := by decide +kernel
theorem d_X_tape_63 : decode b_X_tape 63 = .ok (.iconst 1, 1) := by decide +kernel
theorem d_X_tape_64 : decode b_X_tape 64 = .ok (.ireturn, 1) := by decide +kernel
theorem d_X_item_0 : decode b_X_item 0 = .ok (.iload_n 1, 1) := by decide +kernel
theorem d_X_item_1 : decode b_X_item 1 = .ok (.invokestatic 221, 3) := by decide +kernel
theorem d_X_item_4 : decode b_X_item 4 = .ok (.ifCond .ne 5, 3) := by decide +kernel
theorem d_X_item_7 : decode b_X_item 7 = .ok (.iconst (-1), 1) := by decide +kernel
theorem d_X_item_8 : decode b_X_item 8 = .ok (.ireturn, 1) := by decide +kernel
theorem d_X_item_9 : decode b_X_item 9 = .ok (.aload_n 0, 1) := by decide +kernel
theorem d_X_item_10 : decode b_X_item 10 = .ok (.getfield 78, 3) := by decide +kernel
theorem d_X_item_13 : decode b_X_item 13 = .ok (.iload_n 1, 1) := by decide +kernel
theorem d_X_item_14 : decode b_X_item 14 = .ok (.aaload, 1) := by decide +kernel
theorem d_X_item_15 : decode b_X_item 15 = .ok (.astore 5, 2) := by decide +kernel
theorem d_X_item_17 : decode b_X_item 17 = .ok (.aload 5, 2) := by decide +kernel
theorem d_X_item_19 : decode b_X_item 19 = .ok (.getfield 224, 3) := by decide +kernel
theorem d_X_item_22 : decode b_X_item 22 = .ok (.iconst (-1), 1) := by decide +kernel
theorem d_X_item_23 : decode b_X_item 23 = .ok (.if_icmp .ne 6, 3) := by decide +kernel
theorem d_X_item_26 : decode b_X_item 26 = .ok (.bipush (-11), 2) := by decide +kernel
theorem d_X_item_28 : decode b_X_item 28 = .ok (.ireturn, 1) := by decide +kernel
theorem d_X_item_29 : decode b_X_item 29 = .ok (.iload_n 2, 1) := by decide +kernel
theorem d_X_item_30 : decode b_X_item 30 = .ok (.iconst 0, 1) := by decide +kernel
theorem d_X_item_31 : decode b_X_item 31 = .ok (.aload 5, 2) := by decide +kernel
theorem d_X_item_33 : decode b_X_item 33 = .ok (.getfield 227, 3) := by decide +kernel
theorem d_X_item_36 : decode b_X_item 36 = .ok (.iconst 1, 1) := by decide +kernel
theorem d_X_item_37 : decode b_X_item 37 = .ok (.isub, 1) := by decide +kernel
theorem d_X_item_38 : decode b_X_item 38 = .ok (.invokestatic 83, 3) := by decide +kernel
theorem d_X_item_41 : decode b_X_item 41 = .ok (.ifCond .ne 6, 3) := by decide +kernel
theorem d_X_item_44 : decode b_X_item 44 = .ok (.bipush (-13), 2) := by decide +kernel
theorem d_X_item_46 : decode b_X_item 46 = .ok (.ireturn, 1) := by decide +kernel
theorem d_X_item_47 : decode b_X_item 47 = .ok (.aload 5, 2) := by decide +kernel
theorem d_X_item_49 : decode b_X_item 49 = .ok (.getfield 230, 3) := by decide +kernel
theorem d_X_item_52 : decode b_X_item 52 = .ok (.iload_n 2, 1) := by decide +kernel
theorem d_X_item_53 : decode b_X_item 53 = .ok (.aload 5, 2) := by decide +kernel
theorem d_X_item_55 : decode b_X_item 55 = .ok (.lload_n 3, 1) := by decide +kernel
theorem d_X_item_56 : decode b_X_item 56 = .ok (.invokevirtual 261, 3) := by decide +kernel
theorem d_X_item_59 : decode b_X_item 59 = .ok (.lastore, 1) := by decide +kernel
theorem d_X_item_60 : decode b_X_item 60 = .ok (.iconst 1, 1) := by decide +kernel
theorem d_X_item_61 : decode b_X_item 61 = .ok (.ireturn, 1) := by decide +kernel
theorem d_X_read_0 : decode b_X_read 0 = .ok (.iload_n 1, 1) := by decide +kernel
theorem d_X_read_1 : decode b_X_read 1 = .ok (.invokestatic 221, 3) := by decide +kernel
theorem d_X_read_4 : decode b_X_read 4 = .ok (.ifCond .ne 7, 3) := by decide +kernel
theorem d_X_read_7 : decode b_X_read 7 = .ok (.ldc2_w 209, 3) := by decide +kernel
theorem d_X_read_10 : decode b_X_read 10 = .ok (.lreturn, 1) := by decide +kernel
theorem d_X_read_11 : decode b_X_read 11 = .ok (.aload_n 0, 1) := by decide +kernel
theorem d_X_read_12 : decode b_X_read 12 = .ok (.getfield 78, 3) := by decide +kernel
theorem d_X_read_15 : decode b_X_read 15 = .ok (.iload_n 1, 1) := by decide +kernel
theorem d_X_read_16 : decode b_X_read 16 = .ok (.aaload, 1) := by decide +kernel
theorem d_X_read_17 : decode b_X_read 17 = .ok (.astore_n 3, 1) := by decide +kernel
theorem d_X_read_18 : decode b_X_read 18 = .ok (.aload_n 3, 1) := by decide +kernel
theorem d_X_read_19 : decode b_X_read 19 = .ok (.getfield 224, 3) := by decide +kernel
theorem d_X_read_22 : decode b_X_read 22 = .ok (.iconst (-1), 1) := by decide +kernel
theorem d_X_read_23 : decode b_X_read 23 = .ok (.if_icmp .eq 26, 3) := by decide +kernel
theorem d_X_read_26 : decode b_X_read 26 = .ok (.iload_n 2, 1) := by decide +kernel
theorem d_X_read_27 : decode b_X_read 27 = .ok (.iconst 0, 1) := by decide +kernel
theorem d_X_read_28 : decode b_X_read 28 = .ok (.aload_n 3, 1) := by decide +kernel
theorem d_X_read_29 : decode b_X_read 29 = .ok (.getfield 227, 3) := by decide +kernel
theorem d_X_read_32 : decode b_X_read 32 = .ok (.iconst 1, 1) := by decide +kernel
theorem d_X_read_33 : decode b_X_read 33 = .ok (.isub, 1) := by decide +kernel
theorem d_X_read_34 : decode b_X_read 34 = .ok (.invokestatic 83, 3) := by decide +kernel
theorem d_X_read_37 : decode b_X_read 37 = .ok (.ifCond .eq 12, 3) := by decide +kernel
theorem d_X_read_40 : decode b_X_read 40 = .ok (.aload_n 3, 1) := by decide +kernel
theorem d_X_read_41 : decode b_X_read 41 = .ok (.getfield 230, 3) := by decide +kernel
theorem d_X_read_44 : decode b_X_read 44 = .ok (.iload_n 2, 1) := by decide +kernel
theorem d_X_read_45 : decode b_X_read 45 = .ok (.laload, 1) := by decide +kernel
theorem d_X_read_46 : decode b_X_read 46 = .ok (.goto 6, 3) := by decide +kernel
theorem d_X_read_49 : decode b_X_read 49 = .ok (.ldc2_w 209, 3) := by decide +kernel
theorem d_X_read_52 : decode b_X_read 52 = .ok (.lreturn, 1) := by decide +kernel
theorem d_X_shift_0 : decode b_X_shift 0 = .ok (.iload_n 1, 1) := by decide +kernel
theorem d_X_shift_1 : decode b_X_shift 1 = .ok (.invokestatic 221, 3) := by decide +kernel
theorem d_X_shift_4 : decode b_X_shift 4 = .ok (.ifCond .eq 10, 3) := by decide +kernel
theorem d_X_shift_7 : decode b_X_shift 7 = .ok (.iload_n 3, 1) := by decide +kernel
theorem d_X_shift_8 : decode b_X_shift 8 = .ok (.invokestatic 221, 3) := by decide +kernel
theorem d_X_shift_11 : decode b_X_shift 11 = .ok (.ifCond .ne 5, 3) := by decide +kernel
theorem d_X_shift_14 : decode b_X_shift 14 = .ok (.iconst (-1), 1) := by decide +kernel
theorem d_X_shift_15 : decode b_X_shift 15 = .ok (.ireturn, 1) := by decide +kernel
theorem d_X_shift_16 : decode b_X_shift 16 = .ok (.aload_n 0, 1) := by decide +kernel
theorem d_X_shift_17 : decode b_X_shift 17 = .ok (.getfield 78, 3) := by decide +kernel
theorem d_X_shift_20 : decode b_X_shift 20 = .ok (.iload_n 1, 1) := by decide +kernel
theorem d_X_shift_21 : decode b_X_shift 21 = .ok (.aaload, 1) := by decide +kernel
theorem d_X_shift_22 : decode b_X_shift 22 = .ok (.astore 6, 2) := by decide +kernel
theorem d_X_shift_24 : decode b_X_shift 24 = .ok (.aload_n 0, 1) := by decide +kernel
theorem d_X_shift_25 : decode b_X_shift 25 = .ok (.getfield 78, 3) := by decide +kernel
theorem d_X_shift_28 : decode b_X_shift 28 = .ok (.iload_n 3, 1) := by decide +kernel
theorem d_X_shift_29 : decode b_X_shift 29 = .ok (.aaload, 1) := by decide +kernel
theorem d_X_shift_30 : decode b_X_shift 30 = .ok (.astore 7, 2) := by decide +kernel
theorem d_X_shift_32 : decode b_X_shift 32 = .ok (.aload 6, 2) := by decide +kernel
theorem d_X_shift_34 : decode b_X_shift 34 = .ok (.getfield 224, 3) := by decide +kernel
theorem d_X_shift_37 : decode b_X_shift 37 = .ok (.iconst (-1), 1) := by decide +kernel
theorem d_X_shift_38 : decode b_X_shift 38 = .ok (.if_icmp .eq 12, 3) := by decide +kernel
theorem d_X_shift_41 : decode b_X_shift 41 = .ok (.aload 7, 2) := by decide +kernel
theorem d_X_shift_43 : decode b_X_shift 43 = .ok (.getfield 224, 3) := by decide +kernel
theorem d_X_shift_46 : decode b_X_shift 46 = .ok (.iconst (-1), 1) := by decide +kernel
theorem d_X_shift_47 : decode b_X_shift 47 = .ok (.if_icmp .ne 6, 3) := by decide +kernel
theorem d_X_shift_50 : decode b_X_shift 50 = .ok (.bipush (-11), 2) := by decide +kernel
theorem d_X_shift_52 : decode b_X_shift 52 = .ok (.ireturn, 1) := by decide +kernel
theorem d_X_shift_53 : decode b_X_shift 53 = .ok (.aload 6, 2) := by decide +kernel
theorem d_X_shift_55 : decode b_X_shift 55 = .ok (.getfield 224, 3) := by decide +kernel
theorem d_X_shift_58 : decode b_X_shift 58 = .ok (.aload 7, 2) := by decide +kernel
theorem d_X_shift_60 : decode b_X_shift 60 = .ok (.getfield 224, 3) := by decide +kernel
theorem d_X_shift_63 : decode b_X_shift 63 = .ok (.if_icmp .eq 6, 3) := by decide +kernel
theorem d_X_shift_66 : decode b_X_shift 66 = .ok (.bipush (-12), 2) := by decide +kernel
theorem d_X_shift_68 : decode b_X_shift 68 = .ok (.ireturn, 1) := by decide +kernel
theorem d_X_shift_69 : decode b_X_shift 69 = .ok (.iload 5, 2) := by decide +kernel
theorem d_X_shift_71 : decode b_X_shift 71 = .ok (.ifCond .lt 36, 3) := by decide +kernel
theorem d_X_shift_74 : decode b_X_shift 74 = .ok (.iload_n 2, 1) := by decide +kernel
theorem d_X_shift_75 : decode b_X_shift 75 = .ok (.iconst 0, 1) := by decide +kernel
theorem d_X_shift_76 : decode b_X_shift 76 = .ok (.aload 6, 2) := by decide +kernel
theorem d_X_shift_78 : decode b_X_shift 78 = .ok (.getfield 227, 3) := by decide +kernel
theorem d_X_shift_81 : decode b_X_shift 81 = .ok (.iload 5, 2) := by decide +kernel
theorem d_X_shift_83 : decode b_X_shift 83 = .ok (.isub, 1) := by decide +kernel
theorem d_X_shift_84 : decode b_X_shift 84 = .ok (.invokestatic 83, 3) := by decide +kernel
theorem d_X_shift_87 : decode b_X_shift 87 = .ok (.ifCond .eq 20, 3) := by decide +kernel
theorem d_X_shift_90 : decode b_X_shift 90 = .ok (.iload 4, 2) := by decide +kernel
theorem d_X_shift_92 : decode b_X_shift 92 = .ok (.iconst 0, 1) := by decide +kernel
theorem d_X_shift_93 : decode b_X_shift 93 = .ok (.aload 7, 2) := by decide +kernel
theorem d_X_shift_95 : decode b_X_shift 95 = .ok (.getfield 227, 3) := by decide +kernel
theorem d_X_shift_98 : decode b_X_shift 98 = .ok (.iload 5, 2) := by decide +kernel
theorem d_X_shift_100 : decode b_X_shift 100 = .ok (.isub, 1) := by decide +kernel
theorem d_X_shift_101 : decode b_X_shift 101 = .ok (.invokestatic 83, 3) := by decide +kernel
theorem d_X_shift_104 : decode b_X_shift 104 = .ok (.ifCond .ne 6, 3) := by decide +kernel
theorem d_X_shift_107 : decode b_X_shift 107 = .ok (.bipush (-13), 2) := by decide +kernel
theorem d_X_shift_109 : decode b_X_shift 109 = .ok (.ireturn, 1) := by decide +kernel
theorem d_X_shift_110 : decode b_X_shift 110 = .ok (.aload 6, 2) := by decide +kernel
theorem d_X_shift_112 : decode b_X_shift 112 = .ok (.getfield 230, 3) := by decide +kernel
theorem d_X_shift_115 : decode b_X_shift 115 = .ok (.iload_n 2, 1) := by decide +kernel
theorem d_X_shift_116 : decode b_X_shift 116 = .ok (.aload 7, 2) := by decide +kernel
theorem d_X_shift_118 : decode b_X_shift 118 = .ok (.getfield 230, 3) := by decide +kernel
theorem d_X_shift_121 : decode b_X_shift 121 = .ok (.iload 4, 2) := by decide +kernel
theorem d_X_shift_123 : decode b_X_shift 123 = .ok (.iload 5, 2) := by decide +kernel
theorem d_X_shift_125 : decode b_X_shift 125 = .ok (.invokestatic 189, 3) := by decide +kernel
theorem d_X_shift_128 : decode b_X_shift 128 = .ok (.iload 5, 2) := by decide +kernel
theorem d_X_shift_130 : decode b_X_shift 130 = .ok (.ireturn, 1) := by decide +kernel
theorem d_X_inside_0 : decode b_X_inside 0 = .ok (.iload_n 0, 1) := by decide +kernel
theorem d_X_inside_1 : decode b_X_inside 1 = .ok (.iload_n 1, 1) := by decide +kernel
theorem d_X_inside_2 : decode b_X_inside 2 = .ok (.if_icmp .lt 12, 3) := by decide +kernel
theorem d_X_inside_5 : decode b_X_inside 5 = .ok (.iload_n 0, 1) := by decide +kernel
theorem d_X_inside_6 : decode b_X_inside 6 = .ok (.iload_n 2, 1) := by decide +kernel
theorem d_X_inside_7 : decode b_X_inside 7 = .ok (.if_icmp .gt 7, 3) := by decide +kernel
theorem d_X_inside_10 : decode b_X_inside 10 = .ok (.iconst 1, 1) := by decide +kernel
theorem d_X_inside_11 : decode b_X_inside 11 = .ok (.goto 4, 3) := by decide +kernel
theorem d_X_inside_14 : decode b_X_inside 14 = .ok (.iconst 0, 1) := by decide +kernel
theorem d_X_inside_15 : decode b_X_inside 15 = .ok (.ireturn, 1) := by decide +kernel
theorem d_X_isTaker_0 : decode b_X_isTaker 0 = .ok (.iload_n 1, 1) := by decide +kernel
theorem d_X_isTaker_1 : decode b_X_isTaker 1 = .ok (.iconst 0, 1) := by decide +kernel
theorem d_X_isTaker_2 : decode b_X_isTaker 2 = .ok (.aload_n 0, 1) := by decide +kernel
theorem d_X_isTaker_3 : decode b_X_isTaker 3 = .ok (.getfield 23, 3) := by decide +kernel
theorem d_X_isTaker_6 : decode b_X_isTaker 6 = .ok (.getfield 87, 3) := by decide +kernel
theorem d_X_isTaker_9 : decode b_X_isTaker 9 = .ok (.iconst 1, 1) := by decide +kernel
theorem d_X_isTaker_10 : decode b_X_isTaker 10 = .ok (.isub, 1) := by decide +kernel
theorem d_X_isTaker_11 : decode b_X_isTaker 11 = .ok (.invokestatic 83, 3) := by decide +kernel
theorem d_X_isTaker_14 : decode b_X_isTaker 14 = .ok (.ireturn, 1) := by decide +kernel
theorem d_X_isTape_0 : decode b_X_isTape 0 = .ok (.iload_n 0, 1) := by decide +kernel
theorem d_X_isTape_1 : decode b_X_isTape 1 = .ok (.iconst 0, 1) := by decide +kernel
theorem d_X_isTape_2 : decode b_X_isTape 2 = .ok (.iconst 5, 1) := by decide +kernel
theorem d_X_isTape_3 : decode b_X_isTape 3 = .ok (.invokestatic 83, 3) := by decide +kernel
theorem d_X_isTape_6 : decode b_X_isTape 6 = .ok (.ireturn, 1) := by decide +kernel
theorem d_X_sum_0 : decode b_X_sum 0 = .ok (.iconst 0, 1) := by decide +kernel
theorem d_X_sum_1 : decode b_X_sum 1 = .ok (.istore_n 2, 1) := by decide +kernel
theorem d_X_sum_2 : decode b_X_sum 2 = .ok (.iconst 0, 1) := by decide +kernel
theorem d_X_sum_3 : decode b_X_sum 3 = .ok (.istore_n 3, 1) := by decide +kernel
theorem d_X_sum_4 : decode b_X_sum 4 = .ok (.iload_n 3, 1) := by decide +kernel
theorem d_X_sum_5 : decode b_X_sum 5 = .ok (.iload_n 1, 1) := by decide +kernel
theorem d_X_sum_6 : decode b_X_sum 6 = .ok (.if_icmp .ge 21, 3) := by decide +kernel
theorem d_X_sum_9 : decode b_X_sum 9 = .ok (.iload_n 3, 1) := by decide +kernel
theorem d_X_sum_10 : decode b_X_sum 10 = .ok (.aload_n 0, 1) := by decide +kernel
theorem d_X_sum_11 : decode b_X_sum 11 = .ok (.arraylength, 1) := by decide +kernel
theorem d_X_sum_12 : decode b_X_sum 12 = .ok (.if_icmp .ge 15, 3) := by decide +kernel
theorem d_X_sum_15 : decode b_X_sum 15 = .ok (.iload_n 2, 1) := by decide +kernel
theorem d_X_sum_16 : decode b_X_sum 16 = .ok (.aload_n 0, 1) := by decide +kernel
theorem d_X_sum_17 : decode b_X_sum 17 = .ok (.iload_n 3, 1) := by decide +kernel
theorem d_X_sum_18 : decode b_X_sum 18 = .ok (.iaload, 1) := by decide +kernel
theorem d_X_sum_19 : decode b_X_sum 19 = .ok (.iadd, 1) := by decide +kernel
theorem d_X_sum_20 : decode b_X_sum 20 = .ok (.istore_n 2, 1) := by decide +kernel
theorem d_X_sum_21 : decode b_X_sum 21 = .ok (.iinc 3 1, 3) := by decide +kernel
theorem d_X_sum_24 : decode b_X_sum 24 = .ok (.goto (-20), 3) := by decide +kernel
theorem d_X_sum_27 : decode b_X_sum 27 = .ok (.iload_n 2, 1) := by decide +kernel
theorem d_X_sum_28 : decode b_X_sum 28 = .ok (.ireturn, 1) := by decide +kernel
theorem d_X_cupsMore_0 : decode b_X_cupsMore 0 = .ok (.aload_n 0, 1) := by decide +kernel
theorem d_X_cupsMore_1 : decode b_X_cupsMore 1 = .ok (.getfield 30, 3) := by decide +kernel
theorem d_X_cupsMore_4 : decode b_X_cupsMore 4 = .ok (.getfield 107, 3) := by decide +kernel
theorem d_X_cupsMore_7 : decode b_X_cupsMore 7 = .ok (.iload_n 1, 1) := by decide +kernel
theorem d_X_cupsMore_8 : decode b_X_cupsMore 8 = .ok (.iaload, 1) := by decide +kernel
theorem d_X_cupsMore_9 : decode b_X_cupsMore 9 = .ok (.aload_n 0, 1) := by decide +kernel
theorem d_X_cupsMore_10 : decode b_X_cupsMore 10 = .ok (.getfield 23, 3) := by decide +kernel
theorem d_X_cupsMore_13 : decode b_X_cupsMore 13 = .ok (.getfield 107, 3) := by decide +kernel
theorem d_X_cupsMore_16 : decode b_X_cupsMore 16 = .ok (.iload_n 1, 1) := by decide +kernel
theorem d_X_cupsMore_17 : decode b_X_cupsMore 17 = .ok (.iaload, 1) := by decide +kernel
theorem d_X_cupsMore_18 : decode b_X_cupsMore 18 = .ok (.isub, 1) := by decide +kernel
theorem d_X_cupsMore_19 : decode b_X_cupsMore 19 = .ok (.ireturn, 1) := by decide +kernel
theorem d_X_fetchesMore_0 : decode b_X_fetchesMore 0 = .ok (.aload_n 0, 1) := by decide +kernel
theorem d_X_fetchesMore_1 : decode b_X_fetchesMore 1 = .ok (.getfield 30, 3) := by decide +kernel
theorem d_X_fetchesMore_4 : decode b_X_fetchesMore 4 = .ok (.getfield 110, 3) := by decide +kernel
theorem d_X_fetchesMore_7 : decode b_X_fetchesMore 7 = .ok (.iload_n 1, 1) := by decide +kernel
theorem d_X_fetchesMore_8 : decode b_X_fetchesMore 8 = .ok (.iaload, 1) := by decide +kernel
theorem d_X_fetchesMore_9 : decode b_X_fetchesMore 9 = .ok (.aload_n 0, 1) := by decide +kernel
theorem d_X_fetchesMore_10 : decode b_X_fetchesMore 10 = .ok (.getfield 23, 3) := by decide +kernel
theorem d_X_fetchesMore_13 : decode b_X_fetchesMore 13 = .ok (.getfield 110, 3) := by decide +kernel
theorem d_X_fetchesMore_16 : decode b_X_fetchesMore 16 = .ok (.iload_n 1, 1) := by decide +kernel
theorem d_X_fetchesMore_17 : decode b_X_fetchesMore 17 = .ok (.iaload, 1) := by decide +kernel
theorem d_X_fetchesMore_18 : decode b_X_fetchesMore 18 = .ok (.isub, 1) := by decide +kernel
theorem d_X_fetchesMore_19 : decode b_X_fetchesMore 19 = .ok (.ireturn, 1) := by decide +kernel
theorem d_X_leavesWhatIsSeen_0 : decode b_X_leavesWhatIsSeen 0 = .ok (.iconst 0, 1) := by decide +kernel
theorem d_X_leavesWhatIsSeen_1 : decode b_X_leavesWhatIsSeen 1 = .ok (.istore_n 2, 1) := by decide +kernel
theorem d_X_leavesWhatIsSeen_2 : decode b_X_leavesWhatIsSeen 2 = .ok (.iload_n 2, 1) := by decide +kernel
theorem d_X_leavesWhatIsSeen_3 : decode b_X_leavesWhatIsSeen 3 = .ok (.aload_n 0, 1) := by decide +kernel
theorem d_X_leavesWhatIsSeen_4 : decode b_X_leavesWhatIsSeen 4 = .ok (.getfield 36, 3) := by decide +kernel
theorem d_X_leavesWhatIsSeen_7 : decode b_X_leavesWhatIsSeen 7 = .ok (.getfield 198, 3) := by decide +kernel
theorem d_X_leavesWhatIsSeen_10 : decode b_X_leavesWhatIsSeen 10 = .ok (.if_icmp .ge 66, 3) := by decide +kernel
theorem d_X_leavesWhatIsSeen_13 : decode b_X_leavesWhatIsSeen 13 = .ok (.aload_n 0, 1) := by decide +kernel
theorem d_X_leavesWhatIsSeen_14 : decode b_X_leavesWhatIsSeen 14 = .ok (.getfield 30, 3) := by decide +kernel
theorem d_X_leavesWhatIsSeen_17 : decode b_X_leavesWhatIsSeen 17 = .ok (.aload_n 0, 1) := by decide +kernel
theorem d_X_leavesWhatIsSeen_18 : decode b_X_leavesWhatIsSeen 18 = .ok (.getfield 23, 3) := by decide +kernel
theorem d_X_leavesWhatIsSeen_21 : decode b_X_leavesWhatIsSeen 21 = .ok (.invokevirtual 165, 3) := by decide +kernel
theorem d_X_leavesWhatIsSeen_24 : decode b_X_leavesWhatIsSeen 24 = .ok (.aload_n 0, 1) := by decide +kernel
theorem d_X_leavesWhatIsSeen_25 : decode b_X_leavesWhatIsSeen 25 = .ok (.getfield 30, 3) := by decide +kernel
theorem d_X_leavesWhatIsSeen_28 : decode b_X_leavesWhatIsSeen 28 = .ok (.aload_n 0, 1) := by decide +kernel
theorem d_X_leavesWhatIsSeen_29 : decode b_X_leavesWhatIsSeen 29 = .ok (.getfield 36, 3) := by decide +kernel
theorem d_X_leavesWhatIsSeen_32 : decode b_X_leavesWhatIsSeen 32 = .ok (.getfield 201, 3) := by decide +kernel
theorem d_X_leavesWhatIsSeen_35 : decode b_X_leavesWhatIsSeen 35 = .ok (.iload_n 2, 1) := by decide +kernel
theorem d_X_leavesWhatIsSeen_36 : decode b_X_leavesWhatIsSeen 36 = .ok (.iaload, 1) := by decide +kernel
theorem d_X_leavesWhatIsSeen_37 : decode b_X_leavesWhatIsSeen 37 = .ok (.putfield 123, 3) := by decide +kernel
theorem d_X_leavesWhatIsSeen_40 : decode b_X_leavesWhatIsSeen 40 = .ok (.aload_n 0, 1) := by decide +kernel
theorem d_X_leavesWhatIsSeen_41 : decode b_X_leavesWhatIsSeen 41 = .ok (.getfield 30, 3) := by decide +kernel
theorem d_X_leavesWhatIsSeen_44 : decode b_X_leavesWhatIsSeen 44 = .ok (.iload_n 1, 1) := by decide +kernel
theorem d_X_leavesWhatIsSeen_45 : decode b_X_leavesWhatIsSeen 45 = .ok (.invokevirtual 159, 3) := by decide +kernel
theorem d_X_leavesWhatIsSeen_48 : decode b_X_leavesWhatIsSeen 48 = .ok (.pop, 1) := by decide +kernel
theorem d_X_leavesWhatIsSeen_49 : decode b_X_leavesWhatIsSeen 49 = .ok (.aload_n 0, 1) := by decide +kernel
theorem d_X_leavesWhatIsSeen_50 : decode b_X_leavesWhatIsSeen 50 = .ok (.getfield 30, 3) := by decide +kernel
theorem d_X_leavesWhatIsSeen_53 : decode b_X_leavesWhatIsSeen 53 = .ok (.getfield 123, 3) := by decide +kernel
theorem d_X_leavesWhatIsSeen_56 : decode b_X_leavesWhatIsSeen 56 = .ok (.aload_n 0, 1) := by decide +kernel
theorem d_X_leavesWhatIsSeen_57 : decode b_X_leavesWhatIsSeen 57 = .ok (.getfield 36, 3) := by decide +kernel
theorem d_X_leavesWhatIsSeen_60 : decode b_X_leavesWhatIsSeen 60 = .ok (.getfield 204, 3) := by decide +kernel
theorem d_X_leavesWhatIsSeen_63 : decode b_X_leavesWhatIsSeen 63 = .ok (.iload_n 2, 1) := by decide +kernel
theorem d_X_leavesWhatIsSeen_64 : decode b_X_leavesWhatIsSeen 64 = .ok (.iaload, 1) := by decide +kernel
theorem d_X_leavesWhatIsSeen_65 : decode b_X_leavesWhatIsSeen 65 = .ok (.if_icmp .eq 5, 3) := by decide +kernel
theorem d_X_leavesWhatIsSeen_68 : decode b_X_leavesWhatIsSeen 68 = .ok (.iconst 0, 1) := by decide +kernel
theorem d_X_leavesWhatIsSeen_69 : decode b_X_leavesWhatIsSeen 69 = .ok (.ireturn, 1) := by decide +kernel
theorem d_X_leavesWhatIsSeen_70 : decode b_X_leavesWhatIsSeen 70 = .ok (.iinc 2 1, 3) := by decide +kernel
theorem d_X_leavesWhatIsSeen_73 : decode b_X_leavesWhatIsSeen 73 = .ok (.goto (-71), 3) := by decide +kernel
theorem d_X_leavesWhatIsSeen_76 : decode b_X_leavesWhatIsSeen 76 = .ok (.iconst 1, 1) := by decide +kernel
theorem d_X_leavesWhatIsSeen_77 : decode b_X_leavesWhatIsSeen 77 = .ok (.ireturn, 1) := by decide +kernel
theorem d_X_ordersOf_0 : decode b_X_ordersOf 0 = .ok (.iconst 1, 1) := by decide +kernel
theorem d_X_ordersOf_1 : decode b_X_ordersOf 1 = .ok (.istore_n 1, 1) := by decide +kernel
theorem d_X_ordersOf_2 : decode b_X_ordersOf 2 = .ok (.iconst 2, 1) := by decide +kernel
theorem d_X_ordersOf_3 : decode b_X_ordersOf 3 = .ok (.istore_n 2, 1) := by decide +kernel
theorem d_X_ordersOf_4 : decode b_X_ordersOf 4 = .ok (.iload_n 2, 1) := by decide +kernel
theorem d_X_ordersOf_5 : decode b_X_ordersOf 5 = .ok (.iload_n 0, 1) := by decide +kernel
theorem d_X_ordersOf_6 : decode b_X_ordersOf 6 = .ok (.if_icmp .gt 13, 3) := by decide +kernel
theorem d_X_ordersOf_9 : decode b_X_ordersOf 9 = .ok (.iload_n 1, 1) := by decide +kernel
theorem d_X_ordersOf_10 : decode b_X_ordersOf 10 = .ok (.iload_n 2, 1) := by decide +kernel
theorem d_X_ordersOf_11 : decode b_X_ordersOf 11 = .ok (.imul, 1) := by decide +kernel
theorem d_X_ordersOf_12 : decode b_X_ordersOf 12 = .ok (.istore_n 1, 1) := by decide +kernel
theorem d_X_ordersOf_13 : decode b_X_ordersOf 13 = .ok (.iinc 2 1, 3) := by decide +kernel
theorem d_X_ordersOf_16 : decode b_X_ordersOf 16 = .ok (.goto (-12), 3) := by decide +kernel
theorem d_X_ordersOf_19 : decode b_X_ordersOf 19 = .ok (.iload_n 1, 1) := by decide +kernel
theorem d_X_ordersOf_20 : decode b_X_ordersOf 20 = .ok (.ireturn, 1) := by decide +kernel
theorem d_X_putOrder_0 : decode b_X_putOrder 0 = .ok (.iconst 0, 1) := by decide +kernel
theorem d_X_putOrder_1 : decode b_X_putOrder 1 = .ok (.istore 4, 2) := by decide +kernel
theorem d_X_putOrder_3 : decode b_X_putOrder 3 = .ok (.iload_n 1, 1) := by decide +kernel
theorem d_X_putOrder_4 : decode b_X_putOrder 4 = .ok (.istore 5, 2) := by decide +kernel
theorem d_X_putOrder_6 : decode b_X_putOrder 6 = .ok (.iload_n 2, 1) := by decide +kernel
theorem d_X_putOrder_7 : decode b_X_putOrder 7 = .ok (.istore 6, 2) := by decide +kernel
theorem d_X_putOrder_9 : decode b_X_putOrder 9 = .ok (.iconst 0, 1) := by decide +kernel
theorem d_X_putOrder_10 : decode b_X_putOrder 10 = .ok (.istore 7, 2) := by decide +kernel
theorem d_X_putOrder_12 : decode b_X_putOrder 12 = .ok (.iload 7, 2) := by decide +kernel
theorem d_X_putOrder_14 : decode b_X_putOrder 14 = .ok (.iload_n 3, 1) := by decide +kernel
theorem d_X_putOrder_15 : decode b_X_putOrder 15 = .ok (.if_icmp .ge 74, 3) := by decide +kernel
theorem d_X_putOrder_18 : decode b_X_putOrder 18 = .ok (.iload 7, 2) := by decide +kernel
theorem d_X_putOrder_20 : decode b_X_putOrder 20 = .ok (.aload_n 0, 1) := by decide +kernel
theorem d_X_putOrder_21 : decode b_X_putOrder 21 = .ok (.getfield 62, 3) := by decide +kernel
theorem d_X_putOrder_24 : decode b_X_putOrder 24 = .ok (.arraylength, 1) := by decide +kernel
theorem d_X_putOrder_25 : decode b_X_putOrder 25 = .ok (.if_icmp .ge 64, 3) := by decide +kernel
theorem d_X_putOrder_28 : decode b_X_putOrder 28 = .ok (.iload 6, 2) := by decide +kernel
theorem d_X_putOrder_30 : decode b_X_putOrder 30 = .ok (.iload_n 3, 1) := by decide +kernel
theorem d_X_putOrder_31 : decode b_X_putOrder 31 = .ok (.iload 7, 2) := by decide +kernel
theorem d_X_putOrder_33 : decode b_X_putOrder 33 = .ok (.isub, 1) := by decide +kernel
theorem d_X_putOrder_34 : decode b_X_putOrder 34 = .ok (.idiv, 1) := by decide +kernel
theorem d_X_putOrder_35 : decode b_X_putOrder 35 = .ok (.istore 6, 2) := by decide +kernel
theorem d_X_putOrder_37 : decode b_X_putOrder 37 = .ok (.iload 6, 2) := by decide +kernel
theorem d_X_putOrder_39 : decode b_X_putOrder 39 = .ok (.iconst 1, 1) := by decide +kernel
theorem d_X_putOrder_40 : decode b_X_putOrder 40 = .ok (.if_icmp .ge 4, 3) := by decide +kernel
theorem d_X_putOrder_43 : decode b_X_putOrder 43 = .ok (.return_, 1) := by decide +kernel
theorem d_X_putOrder_44 : decode b_X_putOrder 44 = .ok (.aload_n 0, 1) := by decide +kernel
theorem d_X_putOrder_45 : decode b_X_putOrder 45 = .ok (.getfield 62, 3) := by decide +kernel
theorem d_X_putOrder_48 : decode b_X_putOrder 48 = .ok (.iload 7, 2) := by decide +kernel
theorem d_X_putOrder_50 : decode b_X_putOrder 50 = .ok (.iload 4, 2) := by decide +kernel
theorem d_X_putOrder_52 : decode b_X_putOrder 52 = .ok (.iload 5, 2) := by decide +kernel
theorem d_X_putOrder_54 : decode b_X_putOrder 54 = .ok (.iload 6, 2) := by decide +kernel
theorem d_X_putOrder_56 : decode b_X_putOrder 56 = .ok (.idiv, 1) := by decide +kernel
theorem d_X_putOrder_57 : decode b_X_putOrder 57 = .ok (.iload_n 3, 1) := by decide +kernel
theorem d_X_putOrder_58 : decode b_X_putOrder 58 = .ok (.invokestatic 265, 3) := by decide +kernel
theorem d_X_putOrder_61 : decode b_X_putOrder 61 = .ok (.iastore, 1) := by decide +kernel
theorem d_X_putOrder_62 : decode b_X_putOrder 62 = .ok (.iload 4, 2) := by decide +kernel
theorem d_X_putOrder_64 : decode b_X_putOrder 64 = .ok (.iconst 1, 1) := by decide +kernel
theorem d_X_putOrder_65 : decode b_X_putOrder 65 = .ok (.aload_n 0, 1) := by decide +kernel
theorem d_X_putOrder_66 : decode b_X_putOrder 66 = .ok (.getfield 62, 3) := by decide +kernel
theorem d_X_putOrder_69 : decode b_X_putOrder 69 = .ok (.iload 7, 2) := by decide +kernel
theorem d_X_putOrder_71 : decode b_X_putOrder 71 = .ok (.iaload, 1) := by decide +kernel
theorem d_X_putOrder_72 : decode b_X_putOrder 72 = .ok (.ishl, 1) := by decide +kernel
theorem d_X_putOrder_73 : decode b_X_putOrder 73 = .ok (.ior, 1) := by decide +kernel
theorem d_X_putOrder_74 : decode b_X_putOrder 74 = .ok (.istore 4, 2) := by decide +kernel
theorem d_X_putOrder_76 : decode b_X_putOrder 76 = .ok (.iload 5, 2) := by decide +kernel
theorem d_X_putOrder_78 : decode b_X_putOrder 78 = .ok (.iload 6, 2) := by decide +kernel
theorem d_X_putOrder_80 : decode b_X_putOrder 80 = .ok (.irem, 1) := by decide +kernel
theorem d_X_putOrder_81 : decode b_X_putOrder 81 = .ok (.istore 5, 2) := by decide +kernel
theorem d_X_putOrder_83 : decode b_X_putOrder 83 = .ok (.iinc 7 1, 3) := by decide +kernel
theorem d_X_putOrder_86 : decode b_X_putOrder 86 = .ok (.goto (-74), 3) := by decide +kernel
theorem d_X_putOrder_89 : decode b_X_putOrder 89 = .ok (.return_, 1) := by decide +kernel
theorem d_X_unused_0 : decode b_X_unused 0 = .ok (.iload_n 1, 1) := by decide +kernel
theorem d_X_unused_1 : decode b_X_unused 1 = .ok (.istore_n 3, 1) := by decide +kernel
theorem d_X_unused_2 : decode b_X_unused 2 = .ok (.iconst 0, 1) := by decide +kernel
theorem d_X_unused_3 : decode b_X_unused 3 = .ok (.istore 4, 2) := by decide +kernel
theorem d_X_unused_5 : decode b_X_unused 5 = .ok (.iload 4, 2) := by decide +kernel
theorem d_X_unused_7 : decode b_X_unused 7 = .ok (.iload_n 2, 1) := by decide +kernel
theorem d_X_unused_8 : decode b_X_unused 8 = .ok (.if_icmp .ge 28, 3) := by decide +kernel
theorem d_X_unused_11 : decode b_X_unused 11 = .ok (.iload_n 0, 1) := by decide +kernel
theorem d_X_unused_12 : decode b_X_unused 12 = .ok (.iload 4, 2) := by decide +kernel
theorem d_X_unused_14 : decode b_X_unused 14 = .ok (.ishr, 1) := by decide +kernel
theorem d_X_unused_15 : decode b_X_unused 15 = .ok (.iconst 1, 1) := by decide +kernel
theorem d_X_unused_16 : decode b_X_unused 16 = .ok (.iand, 1) := by decide +kernel
theorem d_X_unused_17 : decode b_X_unused 17 = .ok (.ifCond .ne 13, 3) := by decide +kernel
theorem d_X_unused_20 : decode b_X_unused 20 = .ok (.iload_n 3, 1) := by decide +kernel
theorem d_X_unused_21 : decode b_X_unused 21 = .ok (.ifCond .ne 6, 3) := by decide +kernel
theorem d_X_unused_24 : decode b_X_unused 24 = .ok (.iload 4, 2) := by decide +kernel
theorem d_X_unused_26 : decode b_X_unused 26 = .ok (.ireturn, 1) := by decide +kernel
theorem d_X_unused_27 : decode b_X_unused 27 = .ok (.iinc 3 (-1), 3) := by decide +kernel
theorem d_X_unused_30 : decode b_X_unused 30 = .ok (.iinc 4 1, 3) := by decide +kernel
theorem d_X_unused_33 : decode b_X_unused 33 = .ok (.goto (-28), 3) := by decide +kernel
theorem d_X_unused_36 : decode b_X_unused 36 = .ok (.iconst 0, 1) := by decide +kernel
theorem d_X_unused_37 : decode b_X_unused 37 = .ok (.ireturn, 1) := by decide +kernel
theorem d_X_takenByOrder_0 : decode b_X_takenByOrder 0 = .ok (.aload_n 0, 1) := by decide +kernel
theorem d_X_takenByOrder_1 : decode b_X_takenByOrder 1 = .ok (.getfield 30, 3) := by decide +kernel
theorem d_X_takenByOrder_4 : decode b_X_takenByOrder 4 = .ok (.aload_n 0, 1) := by decide +kernel
theorem d_X_takenByOrder_5 : decode b_X_takenByOrder 5 = .ok (.getfield 23, 3) := by decide +kernel
theorem d_X_takenByOrder_8 : decode b_X_takenByOrder 8 = .ok (.invokevirtual 165, 3) := by decide +kernel
theorem d_X_takenByOrder_11 : decode b_X_takenByOrder 11 = .ok (.iconst 0, 1) := by decide +kernel
theorem d_X_takenByOrder_12 : decode b_X_takenByOrder 12 = .ok (.istore_n 1, 1) := by decide +kernel
theorem d_X_takenByOrder_13 : decode b_X_takenByOrder 13 = .ok (.iconst 0, 1) := by decide +kernel
theorem d_X_takenByOrder_14 : decode b_X_takenByOrder 14 = .ok (.istore_n 2, 1) := by decide +kernel
theorem d_X_takenByOrder_15 : decode b_X_takenByOrder 15 = .ok (.iload_n 2, 1) := by decide +kernel
theorem d_X_takenByOrder_16 : decode b_X_takenByOrder 16 = .ok (.aload_n 0, 1) := by decide +kernel
theorem d_X_takenByOrder_17 : decode b_X_takenByOrder 17 = .ok (.getfield 30, 3) := by decide +kernel
theorem d_X_takenByOrder_20 : decode b_X_takenByOrder 20 = .ok (.getfield 87, 3) := by decide +kernel
theorem d_X_takenByOrder_23 : decode b_X_takenByOrder 23 = .ok (.if_icmp .ge 34, 3) := by decide +kernel
theorem d_X_takenByOrder_26 : decode b_X_takenByOrder 26 = .ok (.iload_n 2, 1) := by decide +kernel
theorem d_X_takenByOrder_27 : decode b_X_takenByOrder 27 = .ok (.aload_n 0, 1) := by decide +kernel
theorem d_X_takenByOrder_28 : decode b_X_takenByOrder 28 = .ok (.getfield 62, 3) := by decide +kernel
theorem d_X_takenByOrder_31 : decode b_X_takenByOrder 31 = .ok (.arraylength, 1) := by decide +kernel
theorem d_X_takenByOrder_32 : decode b_X_takenByOrder 32 = .ok (.if_icmp .ge 25, 3) := by decide +kernel
theorem d_X_takenByOrder_35 : decode b_X_takenByOrder 35 = .ok (.iload_n 1, 1) := by decide +kernel
theorem d_X_takenByOrder_36 : decode b_X_takenByOrder 36 = .ok (.aload_n 0, 1) := by decide +kernel
theorem d_X_takenByOrder_37 : decode b_X_takenByOrder 37 = .ok (.getfield 30, 3) := by decide +kernel
theorem d_X_takenByOrder_40 : decode b_X_takenByOrder 40 = .ok (.aload_n 0, 1) := by decide +kernel
theorem d_X_takenByOrder_41 : decode b_X_takenByOrder 41 = .ok (.getfield 62, 3) := by decide +kernel
theorem d_X_takenByOrder_44 : decode b_X_takenByOrder 44 = .ok (.iload_n 2, 1) := by decide +kernel
theorem d_X_takenByOrder_45 : decode b_X_takenByOrder 45 = .ok (.iaload, 1) := by decide +kernel
theorem d_X_takenByOrder_46 : decode b_X_takenByOrder 46 = .ok (.invokevirtual 159, 3) := by decide +kernel
theorem d_X_takenByOrder_49 : decode b_X_takenByOrder 49 = .ok (.iadd, 1) := by decide +kernel
theorem d_X_takenByOrder_50 : decode b_X_takenByOrder 50 = .ok (.istore_n 1, 1) := by decide +kernel
theorem d_X_takenByOrder_51 : decode b_X_takenByOrder 51 = .ok (.iinc 2 1, 3) := by decide +kernel
theorem d_X_takenByOrder_54 : decode b_X_takenByOrder 54 = .ok (.goto (-39), 3) := by decide +kernel
theorem d_X_takenByOrder_57 : decode b_X_takenByOrder 57 = .ok (.iload_n 1, 1) := by decide +kernel
theorem d_X_takenByOrder_58 : decode b_X_takenByOrder 58 = .ok (.ireturn, 1) := by decide +kernel
theorem d_X_lowest_0 : decode b_X_lowest 0 = .ok (.iload_n 1, 1) := by decide +kernel
theorem d_X_lowest_1 : decode b_X_lowest 1 = .ok (.istore_n 3, 1) := by decide +kernel
theorem d_X_lowest_2 : decode b_X_lowest 2 = .ok (.iload_n 3, 1) := by decide +kernel
theorem d_X_lowest_3 : decode b_X_lowest 3 = .ok (.iconst 1, 1) := by decide +kernel
theorem d_X_lowest_4 : decode b_X_lowest 4 = .ok (.if_icmp .le 37, 3) := by decide +kernel
theorem d_X_lowest_7 : decode b_X_lowest 7 = .ok (.iload_n 0, 1) := by decide +kernel
theorem d_X_lowest_8 : decode b_X_lowest 8 = .ok (.iload_n 3, 1) := by decide +kernel
theorem d_X_lowest_9 : decode b_X_lowest 9 = .ok (.irem, 1) := by decide +kernel
theorem d_X_lowest_10 : decode b_X_lowest 10 = .ok (.ifCond .ne 25, 3) := by decide +kernel
theorem d_X_lowest_13 : decode b_X_lowest 13 = .ok (.iload_n 1, 1) := by decide +kernel
theorem d_X_lowest_14 : decode b_X_lowest 14 = .ok (.iload_n 3, 1) := by decide +kernel
theorem d_X_lowest_15 : decode b_X_lowest 15 = .ok (.irem, 1) := by decide +kernel
theorem d_X_lowest_16 : decode b_X_lowest 16 = .ok (.ifCond .ne 19, 3) := by decide +kernel
theorem d_X_lowest_19 : decode b_X_lowest 19 = .ok (.iload_n 2, 1) := by decide +kernel
theorem d_X_lowest_20 : decode b_X_lowest 20 = .ok (.ifCond .ne 10, 3) := by decide +kernel
theorem d_X_lowest_23 : decode b_X_lowest 23 = .ok (.iload_n 0, 1) := by decide +kernel
theorem d_X_lowest_24 : decode b_X_lowest 24 = .ok (.iload_n 3, 1) := by decide +kernel
theorem d_X_lowest_25 : decode b_X_lowest 25 = .ok (.idiv, 1) := by decide +kernel
theorem d_X_lowest_26 : decode b_X_lowest 26 = .ok (.i2l, 1) := by decide +kernel
theorem d_X_lowest_27 : decode b_X_lowest 27 = .ok (.goto 7, 3) := by decide +kernel
theorem d_X_lowest_30 : decode b_X_lowest 30 = .ok (.iload_n 1, 1) := by decide +kernel
theorem d_X_lowest_31 : decode b_X_lowest 31 = .ok (.iload_n 3, 1) := by decide +kernel
theorem d_X_lowest_32 : decode b_X_lowest 32 = .ok (.idiv, 1) := by decide +kernel
theorem d_X_lowest_33 : decode b_X_lowest 33 = .ok (.i2l, 1) := by decide +kernel
theorem d_X_lowest_34 : decode b_X_lowest 34 = .ok (.lreturn, 1) := by decide +kernel
theorem d_X_lowest_35 : decode b_X_lowest 35 = .ok (.iinc 3 (-1), 3) := by decide +kernel
theorem d_X_lowest_38 : decode b_X_lowest 38 = .ok (.goto (-36), 3) := by decide +kernel
theorem d_X_lowest_41 : decode b_X_lowest 41 = .ok (.iload_n 2, 1) := by decide +kernel
theorem d_X_lowest_42 : decode b_X_lowest 42 = .ok (.ifCond .ne 8, 3) := by decide +kernel
theorem d_X_lowest_45 : decode b_X_lowest 45 = .ok (.iload_n 0, 1) := by decide +kernel
theorem d_X_lowest_46 : decode b_X_lowest 46 = .ok (.i2l, 1) := by decide +kernel
theorem d_X_lowest_47 : decode b_X_lowest 47 = .ok (.goto 5, 3) := by decide +kernel
theorem d_X_lowest_50 : decode b_X_lowest 50 = .ok (.iload_n 1, 1) := by decide +kernel
theorem d_X_lowest_51 : decode b_X_lowest 51 = .ok (.i2l, 1) := by decide +kernel
theorem d_X_lowest_52 : decode b_X_lowest 52 = .ok (.lreturn, 1) := by decide +kernel
theorem d_X_isUnder_0 : decode b_X_isUnder 0 = .ok (.iload_n 0, 1) := by decide +kernel
theorem d_X_isUnder_1 : decode b_X_isUnder 1 = .ok (.istore_n 2, 1) := by decide +kernel
theorem d_X_isUnder_2 : decode b_X_isUnder 2 = .ok (.iconst 0, 1) := by decide +kernel
theorem d_X_isUnder_3 : decode b_X_isUnder 3 = .ok (.istore_n 3, 1) := by decide +kernel
theorem d_X_isUnder_4 : decode b_X_isUnder 4 = .ok (.iload_n 3, 1) := by decide +kernel
theorem d_X_isUnder_5 : decode b_X_isUnder 5 = .ok (.getstatic 268, 3) := by decide +kernel
theorem d_X_isUnder_8 : decode b_X_isUnder 8 = .ok (.arraylength, 1) := by decide +kernel
theorem d_X_isUnder_9 : decode b_X_isUnder 9 = .ok (.if_icmp .ge 32, 3) := by decide +kernel
theorem d_X_isUnder_12 : decode b_X_isUnder 12 = .ok (.iload_n 2, 1) := by decide +kernel
theorem d_X_isUnder_13 : decode b_X_isUnder 13 = .ok (.iconst 0, 1) := by decide +kernel
theorem d_X_isUnder_14 : decode b_X_isUnder 14 = .ok (.bipush 6, 2) := by decide +kernel
theorem d_X_isUnder_16 : decode b_X_isUnder 16 = .ok (.invokestatic 83, 3) := by decide +kernel
theorem d_X_isUnder_19 : decode b_X_isUnder 19 = .ok (.ifCond .eq 22, 3) := by decide +kernel
theorem d_X_isUnder_22 : decode b_X_isUnder 22 = .ok (.iload_n 2, 1) := by decide +kernel
theorem d_X_isUnder_23 : decode b_X_isUnder 23 = .ok (.iload_n 1, 1) := by decide +kernel
theorem d_X_isUnder_24 : decode b_X_isUnder 24 = .ok (.if_icmp .ne 5, 3) := by decide +kernel
theorem d_X_isUnder_27 : decode b_X_isUnder 27 = .ok (.iconst 1, 1) := by decide +kernel
theorem d_X_isUnder_28 : decode b_X_isUnder 28 = .ok (.ireturn, 1) := by decide +kernel
theorem d_X_isUnder_29 : decode b_X_isUnder 29 = .ok (.getstatic 268, 3) := by decide +kernel
theorem d_X_isUnder_32 : decode b_X_isUnder 32 = .ok (.iload_n 2, 1) := by decide +kernel
theorem d_X_isUnder_33 : decode b_X_isUnder 33 = .ok (.iaload, 1) := by decide +kernel
theorem d_X_isUnder_34 : decode b_X_isUnder 34 = .ok (.istore_n 2, 1) := by decide +kernel
theorem d_X_isUnder_35 : decode b_X_isUnder 35 = .ok (.iinc 3 1, 3) := by decide +kernel
theorem d_X_isUnder_38 : decode b_X_isUnder 38 = .ok (.goto (-34), 3) := by decide +kernel
theorem d_X_isUnder_41 : decode b_X_isUnder 41 = .ok (.iconst 0, 1) := by decide +kernel
theorem d_X_isUnder_42 : decode b_X_isUnder 42 = .ok (.ireturn, 1) := by decide +kernel
theorem d_M_init_0 : decode b_M_init 0 = .ok (.aload_n 0, 1) := by decide +kernel
theorem d_M_init_1 : decode b_M_init 1 = .ok (.invokespecial 1, 3) := by decide +kernel
theorem d_M_init_4 : decode b_M_init 4 = .ok (.aload_n 0, 1) := by decide +kernel
theorem d_M_init_5 : decode b_M_init 5 = .ok (.iconst 0, 1) := by decide +kernel
theorem d_M_init_6 : decode b_M_init 6 = .ok (.putfield 7, 3) := by decide +kernel
theorem d_M_init_9 : decode b_M_init 9 = .ok (.aload_n 0, 1) := by decide +kernel
theorem d_M_init_10 : decode b_M_init 10 = .ok (.bipush 100, 2) := by decide +kernel
theorem d_M_init_12 : decode b_M_init 12 = .ok (.putfield 13, 3) := by decide +kernel
theorem d_M_init_15 : decode b_M_init 15 = .ok (.aload_n 0, 1) := by decide +kernel
theorem d_M_init_16 : decode b_M_init 16 = .ok (.iconst 0, 1) := by decide +kernel
theorem d_M_init_17 : decode b_M_init 17 = .ok (.putfield 16, 3) := by decide +kernel
theorem d_M_init_20 : decode b_M_init 20 = .ok (.aload_n 0, 1) := by decide +kernel
theorem d_M_init_21 : decode b_M_init 21 = .ok (.bipush 6, 2) := by decide +kernel
theorem d_M_init_23 : decode b_M_init 23 = .ok (.newarray .int, 2) := by decide +kernel
theorem d_M_init_25 : decode b_M_init 25 = .ok (.putfield 19, 3) := by decide +kernel
theorem d_M_init_28 : decode b_M_init 28 = .ok (.aload_n 0, 1) := by decide +kernel
theorem d_M_init_29 : decode b_M_init 29 = .ok (.bipush 6, 2) := by decide +kernel
theorem d_M_init_31 : decode b_M_init 31 = .ok (.newarray .int, 2) := by decide +kernel
theorem d_M_init_33 : decode b_M_init 33 = .ok (.putfield 23, 3) := by decide +kernel
theorem d_M_init_36 : decode b_M_init 36 = .ok (.aload_n 0, 1) := by decide +kernel
theorem d_M_init_37 : decode b_M_init 37 = .ok (.bipush 6, 2) := by decide +kernel
theorem d_M_init_39 : decode b_M_init 39 = .ok (.newarray .int, 2) := by decide +kernel
theorem d_M_init_41 : decode b_M_init 41 = .ok (.putfield 26, 3) := by decide +kernel
theorem d_M_init_44 : decode b_M_init 44 = .ok (.aload_n 0, 1) := by decide +kernel
theorem d_M_init_45 : decode b_M_init 45 = .ok (.bipush 6, 2) := by decide +kernel
theorem d_M_init_47 : decode b_M_init 47 = .ok (.newarray .int, 2) := by decide +kernel
theorem d_M_init_49 : decode b_M_init 49 = .ok (.putfield 29, 3) := by decide +kernel
theorem d_M_init_52 : decode b_M_init 52 = .ok (.aload_n 0, 1) := by decide +kernel
theorem d_M_init_53 : decode b_M_init 53 = .ok (.bipush 6, 2) := by decide +kernel
theorem d_M_init_55 : decode b_M_init 55 = .ok (.newarray .int, 2) := by decide +kernel
theorem d_M_init_57 : decode b_M_init 57 = .ok (.putfield 32, 3) := by decide +kernel
theorem d_M_init_60 : decode b_M_init 60 = .ok (.aload_n 0, 1) := by decide +kernel
theorem d_M_init_61 : decode b_M_init 61 = .ok (.bipush 6, 2) := by decide +kernel
theorem d_M_init_63 : decode b_M_init 63 = .ok (.newarray .int, 2) := by decide +kernel
theorem d_M_init_65 : decode b_M_init 65 = .ok (.putfield 35, 3) := by decide +kernel
theorem d_M_init_68 : decode b_M_init 68 = .ok (.aload_n 0, 1) := by decide +kernel
theorem d_M_init_69 : decode b_M_init 69 = .ok (.bipush 24, 2) := by decide +kernel
theorem d_M_init_71 : decode b_M_init 71 = .ok (.newarray .int, 2) := by decide +kernel
theorem d_M_init_73 : decode b_M_init 73 = .ok (.putfield 38, 3) := by decide +kernel
theorem d_M_init_76 : decode b_M_init 76 = .ok (.aload_n 0, 1) := by decide +kernel
theorem d_M_init_77 : decode b_M_init 77 = .ok (.iconst 0, 1) := by decide +kernel
theorem d_M_init_78 : decode b_M_init 78 = .ok (.putfield 41, 3) := by decide +kernel
theorem d_M_init_81 : decode b_M_init 81 = .ok (.aload_n 0, 1) := by decide +kernel
theorem d_M_init_82 : decode b_M_init 82 = .ok (.iconst (-1), 1) := by decide +kernel
theorem d_M_init_83 : decode b_M_init 83 = .ok (.putfield 44, 3) := by decide +kernel
theorem d_M_init_86 : decode b_M_init 86 = .ok (.aload_n 0, 1) := by decide +kernel
theorem d_M_init_87 : decode b_M_init 87 = .ok (.iconst 0, 1) := by decide +kernel
theorem d_M_init_88 : decode b_M_init 88 = .ok (.putfield 47, 3) := by decide +kernel
theorem d_M_init_91 : decode b_M_init 91 = .ok (.aload_n 0, 1) := by decide +kernel
theorem d_M_init_92 : decode b_M_init 92 = .ok (.iconst 0, 1) := by decide +kernel
theorem d_M_init_93 : decode b_M_init 93 = .ok (.putfield 50, 3) := by decide +kernel
theorem d_M_init_96 : decode b_M_init 96 = .ok (.aload_n 0, 1) := by decide +kernel
theorem d_M_init_97 : decode b_M_init 97 = .ok (.iconst 0, 1) := by decide +kernel
theorem d_M_init_98 : decode b_M_init 98 = .ok (.putfield 53, 3) := by decide +kernel
theorem d_M_init_101 : decode b_M_init 101 = .ok (.aload_n 0, 1) := by decide +kernel
theorem d_M_init_102 : decode b_M_init 102 = .ok (.bipush 100, 2) := by decide +kernel
theorem d_M_init_104 : decode b_M_init 104 = .ok (.newarray .int, 2) := by decide +kernel
theorem d_M_init_106 : decode b_M_init 106 = .ok (.putfield 56, 3) := by decide +kernel
theorem d_M_init_109 : decode b_M_init 109 = .ok (.aload_n 0, 1) := by decide +kernel
theorem d_M_init_110 : decode b_M_init 110 = .ok (.bipush 6, 2) := by decide +kernel
theorem d_M_init_112 : decode b_M_init 112 = .ok (.newarray .int, 2) := by decide +kernel
theorem d_M_init_114 : decode b_M_init 114 = .ok (.putfield 59, 3) := by decide +kernel
theorem d_M_init_117 : decode b_M_init 117 = .ok (.aload_n 0, 1) := by decide +kernel
theorem d_M_init_118 : decode b_M_init 118 = .ok (.bipush 60, 2) := by decide +kernel
theorem d_M_init_120 : decode b_M_init 120 = .ok (.newarray .int, 2) := by decide +kernel
theorem d_M_init_122 : decode b_M_init 122 = .ok (.putfield 62, 3) := by decide +kernel
theorem d_M_init_125 : decode b_M_init 125 = .ok (.aload_n 0, 1) := by decide +kernel
theorem d_M_init_126 : decode b_M_init 126 = .ok (.bipush 60, 2) := by decide +kernel
theorem d_M_init_128 : decode b_M_init 128 = .ok (.newarray .int, 2) := by decide +kernel
theorem d_M_init_130 : decode b_M_init 130 = .ok (.putfield 65, 3) := by decide +kernel
theorem d_M_init_133 : decode b_M_init 133 = .ok (.aload_n 0, 1) := by decide +kernel
theorem d_M_init_134 : decode b_M_init 134 = .ok (.bipush 60, 2) := by decide +kernel
theorem d_M_init_136 : decode b_M_init 136 = .ok (.newarray .int, 2) := by decide +kernel
theorem d_M_init_138 : decode b_M_init 138 = .ok (.putfield 68, 3) := by decide +kernel
theorem d_M_init_141 : decode b_M_init 141 = .ok (.aload_n 0, 1) := by decide +kernel
theorem d_M_init_142 : decode b_M_init 142 = .ok (.bipush 60, 2) := by decide +kernel
theorem d_M_init_144 : decode b_M_init 144 = .ok (.newarray .int, 2) := by decide +kernel
theorem d_M_init_146 : decode b_M_init 146 = .ok (.putfield 71, 3) := by decide +kernel
theorem d_M_init_149 : decode b_M_init 149 = .ok (.aload_n 0, 1) := by decide +kernel
theorem d_M_init_150 : decode b_M_init 150 = .ok (.sipush 600, 3) := by decide +kernel
theorem d_M_init_153 : decode b_M_init 153 = .ok (.newarray .int, 2) := by decide +kernel
theorem d_M_init_155 : decode b_M_init 155 = .ok (.putfield 74, 3) := by decide +kernel
theorem d_M_init_158 : decode b_M_init 158 = .ok (.aload_n 0, 1) := by decide +kernel
theorem d_M_init_159 : decode b_M_init 159 = .ok (.bipush 101, 2) := by decide +kernel
theorem d_M_init_161 : decode b_M_init 161 = .ok (.newarray .int, 2) := by decide +kernel
theorem d_M_init_163 : decode b_M_init 163 = .ok (.putfield 77, 3) := by decide +kernel
theorem d_M_init_166 : decode b_M_init 166 = .ok (.aload_n 0, 1) := by decide +kernel
theorem d_M_init_167 : decode b_M_init 167 = .ok (.iconst 0, 1) := by decide +kernel
theorem d_M_init_168 : decode b_M_init 168 = .ok (.putfield 80, 3) := by decide +kernel
theorem d_M_init_171 : decode b_M_init 171 = .ok (.aload_n 0, 1) := by decide +kernel
theorem d_M_init_172 : decode b_M_init 172 = .ok (.iconst 0, 1) := by decide +kernel
theorem d_M_init_173 : decode b_M_init 173 = .ok (.putfield 83, 3) := by decide +kernel
theorem d_M_init_176 : decode b_M_init 176 = .ok (.aload_n 0, 1) := by decide +kernel
theorem d_M_init_177 : decode b_M_init 177 = .ok (.iconst 0, 1) := by decide +kernel
theorem d_M_init_178 : decode b_M_init 178 = .ok (.putfield 86, 3) := by decide +kernel
theorem d_M_init_181 : decode b_M_init 181 = .ok (.aload_n 0, 1) := by decide +kernel
theorem d_M_init_182 : decode b_M_init 182 = .ok (.bipush 16, 2) := by decide +kernel
theorem d_M_init_184 : decode b_M_init 184 = .ok (.newarray .int, 2) := by decide +kernel
theorem d_M_init_186 : decode b_M_init 186 = .ok (.dup, 1) := by decide +kernel
theorem d_M_init_187 : decode b_M_init 187 = .ok (.iconst 0, 1) := by decide +kernel
theorem d_M_init_188 : decode b_M_init 188 = .ok (.bipush 119, 2) := by decide +kernel
theorem d_M_init_190 : decode b_M_init 190 = .ok (.iastore, 1) := by decide +kernel
theorem d_M_init_191 : decode b_M_init 191 = .ok (.dup, 1) := by decide +kernel
theorem d_M_init_192 : decode b_M_init 192 = .ok (.iconst 1, 1) := by decide +kernel
theorem d_M_init_193 : decode b_M_init 193 = .ok (.bipush 97, 2) := by decide +kernel
theorem d_M_init_195 : decode b_M_init 195 = .ok (.iastore, 1) := by decide +kernel
theorem d_M_init_196 : decode b_M_init 196 = .ok (.dup, 1) := by decide +kernel
theorem d_M_init_197 : decode b_M_init 197 = .ok (.iconst 2, 1) := by decide +kernel
theorem d_M_init_198 : decode b_M_init 198 = .ok (.bipush 110, 2) := by decide +kernel
theorem d_M_init_200 : decode b_M_init 200 = .ok (.iastore, 1) := by decide +kernel
theorem d_M_init_201 : decode b_M_init 201 = .ok (.dup, 1) := by decide +kernel
theorem d_M_init_202 : decode b_M_init 202 = .ok (.iconst 3, 1) := by decide +kernel
theorem d_M_init_203 : decode b_M_init 203 = .ok (.bipush 116, 2) := by decide +kernel
theorem d_M_init_205 : decode b_M_init 205 = .ok (.iastore, 1) := by decide +kernel
theorem d_M_init_206 : decode b_M_init 206 = .ok (.dup, 1) := by decide +kernel
theorem d_M_init_207 : decode b_M_init 207 = .ok (.iconst 4, 1) := by decide +kernel
theorem d_M_init_208 : decode b_M_init 208 = .ok (.bipush 108, 2) := by decide +kernel
theorem d_M_init_210 : decode b_M_init 210 = .ok (.iastore, 1) := by decide +kernel
theorem d_M_init_211 : decode b_M_init 211 = .ok (.dup, 1) := by decide +kernel
theorem d_M_init_212 : decode b_M_init 212 = .ok (.iconst 5, 1) := by decide +kernel
theorem d_M_init_213 : decode b_M_init 213 = .ok (.bipush 101, 2) := by decide +kernel
theorem d_M_init_215 : decode b_M_init 215 = .ok (.iastore, 1) := by decide +kernel
theorem d_M_init_216 : decode b_M_init 216 = .ok (.dup, 1) := by decide +kernel
theorem d_M_init_217 : decode b_M_init 217 = .ok (.bipush 6, 2) := by decide +kernel
theorem d_M_init_219 : decode b_M_init 219 = .ok (.bipush 97, 2) := by decide +kernel
theorem d_M_init_221 : decode b_M_init 221 = .ok (.iastore, 1) := by decide +kernel
theorem d_M_init_222 : decode b_M_init 222 = .ok (.dup, 1) := by decide +kernel
theorem d_M_init_223 : decode b_M_init 223 = .ok (.bipush 7, 2) := by decide +kernel
theorem d_M_init_225 : decode b_M_init 225 = .ok (.bipush 115, 2) := by decide +kernel
theorem d_M_init_227 : decode b_M_init 227 = .ok (.iastore, 1) := by decide +kernel
theorem d_M_init_228 : decode b_M_init 228 = .ok (.dup, 1) := by decide +kernel
theorem d_M_init_229 : decode b_M_init 229 = .ok (.bipush 8, 2) := by decide +kernel
theorem d_M_init_231 : decode b_M_init 231 = .ok (.bipush 116, 2) := by decide +kernel
theorem d_M_init_233 : decode b_M_init 233 = .ok (.iastore, 1) := by decide +kernel
theorem d_M_init_234 : decode b_M_init 234 = .ok (.dup, 1) := by decide +kernel
theorem d_M_init_235 : decode b_M_init 235 = .ok (.bipush 9, 2) := by decide +kernel
theorem d_M_init_237 : decode b_M_init 237 = .ok (.bipush 102, 2) := by decide +kernel
theorem d_M_init_239 : decode b_M_init 239 = .ok (.iastore, 1) := by decide +kernel
theorem d_M_init_240 : decode b_M_init 240 = .ok (.dup, 1) := by decide +kernel
theorem d_M_init_241 : decode b_M_init 241 = .ok (.bipush 10, 2) := by decide +kernel
theorem d_M_init_243 : decode b_M_init 243 = .ok (.bipush 117, 2) := by decide +kernel
theorem d_M_init_245 : decode b_M_init 245 = .ok (.iastore, 1) := by decide +kernel
theorem d_M_init_246 : decode b_M_init 246 = .ok (.dup, 1) := by decide +kernel
theorem d_M_init_247 : decode b_M_init 247 = .ok (.bipush 11, 2) := by decide +kernel
theorem d_M_init_249 : decode b_M_init 249 = .ok (.bipush 108, 2) := by decide +kernel
theorem d_M_init_251 : decode b_M_init 251 = .ok (.iastore, 1) := by decide +kernel
theorem d_M_init_252 : decode b_M_init 252 = .ok (.dup, 1) := by decide +kernel
theorem d_M_init_253 : decode b_M_init 253 = .ok (.bipush 12, 2) := by decide +kernel
theorem d_M_init_255 : decode b_M_init 255 = .ok (.bipush 108, 2) := by decide +kernel
theorem d_M_init_257 : decode b_M_init 257 = .ok (.iastore, 1) := by decide +kernel
theorem d_M_init_258 : decode b_M_init 258 = .ok (.dup, 1) := by decide +kernel
theorem d_M_init_259 : decode b_M_init 259 = .ok (.bipush 13, 2) := by decide +kernel
theorem d_M_init_261 : decode b_M_init 261 = .ok (.bipush 112, 2) := by decide +kernel
theorem d_M_init_263 : decode b_M_init 263 = .ok (.iastore, 1) := by decide +kernel
theorem d_M_init_264 : decode b_M_init 264 = .ok (.dup, 1) := by decide +kernel
theorem d_M_init_265 : decode b_M_init 265 = .ok (.bipush 14, 2) := by decide +kernel
theorem d_M_init_267 : decode b_M_init 267 = .ok (.bipush 97, 2) := by decide +kernel
theorem d_M_init_269 : decode b_M_init 269 = .ok (.iastore, 1) := by decide +kernel
theorem d_M_init_270 : decode b_M_init 270 = .ok (.dup, 1) := by decide +kernel
theorem d_M_init_271 : decode b_M_init 271 = .ok (.bipush 15, 2) := by decide +kernel
theorem d_M_init_273 : decode b_M_init 273 = .ok (.bipush 121, 2) := by decide +kernel
theorem d_M_init_275 : decode b_M_init 275 = .ok (.iastore, 1) := by decide +kernel
theorem d_M_init_276 : decode b_M_init 276 = .ok (.putfield 89, 3) := by decide +kernel
theorem d_M_init_279 : decode b_M_init 279 = .ok (.aload_n 0, 1) := by decide +kernel
theorem d_M_init_280 : decode b_M_init 280 = .ok (.iconst (-1), 1) := by decide +kernel
theorem d_M_init_281 : decode b_M_init 281 = .ok (.putfield 92, 3) := by decide +kernel
theorem d_M_init_284 : decode b_M_init 284 = .ok (.aload_n 0, 1) := by decide +kernel
theorem d_M_init_285 : decode b_M_init 285 = .ok (.iconst (-1), 1) := by decide +kernel
theorem d_M_init_286 : decode b_M_init 286 = .ok (.putfield 95, 3) := by decide +kernel
theorem d_M_init_289 : decode b_M_init 289 = .ok (.aload_n 0, 1) := by decide +kernel
theorem d_M_init_290 : decode b_M_init 290 = .ok (.bipush 100, 2) := by decide +kernel
theorem d_M_init_292 : decode b_M_init 292 = .ok (.newarray .boolean, 2) := by decide +kernel
theorem d_M_init_294 : decode b_M_init 294 = .ok (.putfield 98, 3) := by decide +kernel
theorem d_M_init_297 : decode b_M_init 297 = .ok (.aload_n 0, 1) := by decide +kernel
theorem d_M_init_298 : decode b_M_init 298 = .ok (.iconst 0, 1) := by decide +kernel
theorem d_M_init_299 : decode b_M_init 299 = .ok (.putfield 102, 3) := by decide +kernel
theorem d_M_init_302 : decode b_M_init 302 = .ok (.aload_n 0, 1) := by decide +kernel
theorem d_M_init_303 : decode b_M_init 303 = .ok (.iconst (-1), 1) := by decide +kernel
theorem d_M_init_304 : decode b_M_init 304 = .ok (.putfield 105, 3) := by decide +kernel
theorem d_M_init_307 : decode b_M_init 307 = .ok (.aload_n 0, 1) := by decide +kernel
theorem d_M_init_308 : decode b_M_init 308 = .ok (.iconst (-1), 1) := by decide +kernel
theorem d_M_init_309 : decode b_M_init 309 = .ok (.putfield 108, 3) := by decide +kernel
theorem d_M_init_312 : decode b_M_init 312 = .ok (.aload_n 0, 1) := by decide +kernel
theorem d_M_init_313 : decode b_M_init 313 = .ok (.iconst 0, 1) := by decide +kernel
theorem d_M_init_314 : decode b_M_init 314 = .ok (.putfield 111, 3) := by decide +kernel
theorem d_M_init_317 : decode b_M_init 317 = .ok (.aload_n 0, 1) := by decide +kernel
theorem d_M_init_318 : decode b_M_init 318 = .ok (.iconst 0, 1) := by decide +kernel
theorem d_M_init_319 : decode b_M_init 319 = .ok (.putfield 114, 3) := by decide +kernel
theorem d_M_init_322 : decode b_M_init 322 = .ok (.aload_n 0, 1) := by decide +kernel
theorem d_M_init_323 : decode b_M_init 323 = .ok (.bipush 6, 2) := by decide +kernel
theorem d_M_init_325 : decode b_M_init 325 = .ok (.newarray .int, 2) := by decide +kernel
theorem d_M_init_327 : decode b_M_init 327 = .ok (.putfield 117, 3) := by decide +kernel
theorem d_M_init_330 : decode b_M_init 330 = .ok (.aload_n 0, 1) := by decide +kernel
theorem d_M_init_331 : decode b_M_init 331 = .ok (.bipush 6, 2) := by decide +kernel
theorem d_M_init_333 : decode b_M_init 333 = .ok (.newarray .int, 2) := by decide +kernel
theorem d_M_init_335 : decode b_M_init 335 = .ok (.putfield 120, 3) := by decide +kernel
theorem d_M_init_338 : decode b_M_init 338 = .ok (.aload_n 0, 1) := by decide +kernel
theorem d_M_init_339 : decode b_M_init 339 = .ok (.bipush 6, 2) := by decide +kernel
theorem d_M_init_341 : decode b_M_init 341 = .ok (.newarray .int, 2) := by decide +kernel
theorem d_M_init_343 : decode b_M_init 343 = .ok (.putfield 123, 3) := by decide +kernel
theorem d_M_init_346 : decode b_M_init 346 = .ok (.aload_n 0, 1) := by decide +kernel
theorem d_M_init_347 : decode b_M_init 347 = .ok (.iconst 5, 1) := by decide +kernel
theorem d_M_init_348 : decode b_M_init 348 = .ok (.newarray .int, 2) := by decide +kernel
theorem d_M_init_350 : decode b_M_init 350 = .ok (.putfield 126, 3) := by decide +kernel
theorem d_M_init_353 : decode b_M_init 353 = .ok (.aload_n 0, 1) := by decide +kernel
theorem d_M_init_354 : decode b_M_init 354 = .ok (.iconst 5, 1) := by decide +kernel
theorem d_M_init_355 : decode b_M_init 355 = .ok (.newarray .int, 2) := by decide +kernel
theorem d_M_init_357 : decode b_M_init 357 = .ok (.putfield 129, 3) := by decide +kernel
theorem d_M_init_360 : decode b_M_init 360 = .ok (.aload_n 0, 1) := by decide +kernel
theorem d_M_init_361 : decode b_M_init 361 = .ok (.iconst 0, 1) := by decide +kernel
theorem d_M_init_362 : decode b_M_init 362 = .ok (.putfield 132, 3) := by decide +kernel
theorem d_M_init_365 : decode b_M_init 365 = .ok (.aload_n 0, 1) := by decide +kernel
theorem d_M_init_366 : decode b_M_init 366 = .ok (.bipush 6, 2) := by decide +kernel
theorem d_M_init_368 : decode b_M_init 368 = .ok (.newarray .int, 2) := by decide +kernel
theorem d_M_init_370 : decode b_M_init 370 = .ok (.putfield 135, 3) := by decide +kernel
theorem d_M_init_373 : decode b_M_init 373 = .ok (.aload_n 0, 1) := by decide +kernel
theorem d_M_init_374 : decode b_M_init 374 = .ok (.bipush 6, 2) := by decide +kernel
theorem d_M_init_376 : decode b_M_init 376 = .ok (.newarray .int, 2) := by decide +kernel
theorem d_M_init_378 : decode b_M_init 378 = .ok (.putfield 138, 3) := by decide +kernel
theorem d_M_init_381 : decode b_M_init 381 = .ok (.aload_n 0, 1) := by decide +kernel
theorem d_M_init_382 : decode b_M_init 382 = .ok (.iconst 0, 1) := by decide +kernel
theorem d_M_init_383 : decode b_M_init 383 = .ok (.putfield 141, 3) := by decide +kernel
theorem d_M_init_386 : decode b_M_init 386 = .ok (.aload_n 0, 1) := by decide +kernel
theorem d_M_init_387 : decode b_M_init 387 = .ok (.bipush 12, 2) := by decide +kernel
theorem d_M_init_389 : decode b_M_init 389 = .ok (.newarray .int, 2) := by decide +kernel
theorem d_M_init_391 : decode b_M_init 391 = .ok (.putfield 144, 3) := by decide +kernel
theorem d_M_init_394 : decode b_M_init 394 = .ok (.aload_n 0, 1) := by decide +kernel
theorem d_M_init_395 : decode b_M_init 395 = .ok (.iconst 0, 1) := by decide +kernel
theorem d_M_init_396 : decode b_M_init 396 = .ok (.putfield 147, 3) := by decide +kernel
theorem d_M_init_399 : decode b_M_init 399 = .ok (.aload_n 0, 1) := by decide +kernel
theorem d_M_init_400 : decode b_M_init 400 = .ok (.iconst (-1), 1) := by decide +kernel
theorem d_M_init_401 : decode b_M_init 401 = .ok (.putfield 151, 3) := by decide +kernel
theorem d_M_init_404 : decode b_M_init 404 = .ok (.aload_n 0, 1) := by decide +kernel
theorem d_M_init_405 : decode b_M_init 405 = .ok (.iconst 0, 1) := by decide +kernel
theorem d_M_init_406 : decode b_M_init 406 = .ok (.putfield 154, 3) := by decide +kernel
theorem d_M_init_409 : decode b_M_init 409 = .ok (.aload_n 0, 1) := by decide +kernel
theorem d_M_init_410 : decode b_M_init 410 = .ok (.bipush 100, 2) := by decide +kernel
theorem d_M_init_412 : decode b_M_init 412 = .ok (.putfield 157, 3) := by decide +kernel
theorem d_M_init_415 : decode b_M_init 415 = .ok (.aload_n 0, 1) := by decide +kernel
theorem d_M_init_416 : decode b_M_init 416 = .ok (.iconst 0, 1) := by decide +kernel
theorem d_M_init_417 : decode b_M_init 417 = .ok (.putfield 160, 3) := by decide +kernel
theorem d_M_init_420 : decode b_M_init 420 = .ok (.aload_n 0, 1) := by decide +kernel
theorem d_M_init_421 : decode b_M_init 421 = .ok (.iconst 0, 1) := by decide +kernel
theorem d_M_init_422 : decode b_M_init 422 = .ok (.putfield 163, 3) := by decide +kernel
theorem d_M_init_425 : decode b_M_init 425 = .ok (.aload_n 0, 1) := by decide +kernel
theorem d_M_init_426 : decode b_M_init 426 = .ok (.iconst 0, 1) := by decide +kernel
theorem d_M_init_427 : decode b_M_init 427 = .ok (.putfield 166, 3) := by decide +kernel
theorem d_M_init_430 : decode b_M_init 430 = .ok (.aload_n 0, 1) := by decide +kernel
theorem d_M_init_431 : decode b_M_init 431 = .ok (.bipush 6, 2) := by decide +kernel
theorem d_M_init_433 : decode b_M_init 433 = .ok (.newarray .int, 2) := by decide +kernel
theorem d_M_init_435 : decode b_M_init 435 = .ok (.putfield 169, 3) := by decide +kernel
theorem d_M_init_438 : decode b_M_init 438 = .ok (.aload_n 0, 1) := by decide +kernel
theorem d_M_init_439 : decode b_M_init 439 = .ok (.bipush 6, 2) := by decide +kernel
theorem d_M_init_441 : decode b_M_init 441 = .ok (.newarray .int, 2) := by decide +kernel
theorem d_M_init_443 : decode b_M_init 443 = .ok (.putfield 172, 3) := by decide +kernel
theorem d_M_init_446 : decode b_M_init 446 = .ok (.aload_n 0, 1) := by decide +kernel
theorem d_M_init_447 : decode b_M_init 447 = .ok (.bipush 6, 2) := by decide +kernel
theorem d_M_init_449 : decode b_M_init 449 = .ok (.newarray .int, 2) := by decide +kernel
theorem d_M_init_451 : decode b_M_init 451 = .ok (.putfield 175, 3) := by decide +kernel
theorem d_M_init_454 : decode b_M_init 454 = .ok (.aload_n 0, 1) := by decide +kernel
theorem d_M_init_455 : decode b_M_init 455 = .ok (.bipush 6, 2) := by decide +kernel
theorem d_M_init_457 : decode b_M_init 457 = .ok (.newarray .int, 2) := by decide +kernel
theorem d_M_init_459 : decode b_M_init 459 = .ok (.putfield 178, 3) := by decide +kernel
theorem d_M_init_462 : decode b_M_init 462 = .ok (.aload_n 0, 1) := by decide +kernel
theorem d_M_init_463 : decode b_M_init 463 = .ok (.bipush 6, 2) := by decide +kernel
theorem d_M_init_465 : decode b_M_init 465 = .ok (.newarray .int, 2) := by decide +kernel
theorem d_M_init_467 : decode b_M_init 467 = .ok (.putfield 181, 3) := by decide +kernel
theorem d_M_init_470 : decode b_M_init 470 = .ok (.aload_n 0, 1) := by decide +kernel
theorem d_M_init_471 : decode b_M_init 471 = .ok (.bipush 6, 2) := by decide +kernel
theorem d_M_init_473 : decode b_M_init 473 = .ok (.newarray .int, 2) := by decide +kernel
theorem d_M_init_475 : decode b_M_init 475 = .ok (.putfield 184, 3) := by decide +kernel
theorem d_M_init_478 : decode b_M_init 478 = .ok (.aload_n 0, 1) := by decide +kernel
theorem d_M_init_479 : decode b_M_init 479 = .ok (.bipush 24, 2) := by decide +kernel
theorem d_M_init_481 : decode b_M_init 481 = .ok (.newarray .int, 2) := by decide +kernel
theorem d_M_init_483 : decode b_M_init 483 = .ok (.putfield 187, 3) := by decide +kernel
theorem d_M_init_486 : decode b_M_init 486 = .ok (.aload_n 0, 1) := by decide +kernel
theorem d_M_init_487 : decode b_M_init 487 = .ok (.bipush 6, 2) := by decide +kernel
theorem d_M_init_489 : decode b_M_init 489 = .ok (.newarray .int, 2) := by decide +kernel
theorem d_M_init_491 : decode b_M_init 491 = .ok (.putfield 190, 3) := by decide +kernel
theorem d_M_init_494 : decode b_M_init 494 = .ok (.aload_n 0, 1) := by decide +kernel
theorem d_M_init_495 : decode b_M_init 495 = .ok (.bipush 6, 2) := by decide +kernel
theorem d_M_init_497 : decode b_M_init 497 = .ok (.newarray .int, 2) := by decide +kernel
theorem d_M_init_499 : decode b_M_init 499 = .ok (.putfield 193, 3) := by decide +kernel
theorem d_M_init_502 : decode b_M_init 502 = .ok (.aload_n 0, 1) := by decide +kernel
theorem d_M_init_503 : decode b_M_init 503 = .ok (.bipush 12, 2) := by decide +kernel
theorem d_M_init_505 : decode b_M_init 505 = .ok (.newarray .int, 2) := by decide +kernel
theorem d_M_init_507 : decode b_M_init 507 = .ok (.putfield 196, 3) := by decide +kernel
theorem d_M_init_510 : decode b_M_init 510 = .ok (.aload_n 0, 1) := by decide +kernel
theorem d_M_init_511 : decode b_M_init 511 = .ok (.iconst 0, 1) := by decide +kernel
theorem d_M_init_512 : decode b_M_init 512 = .ok (.putfield 199, 3) := by decide +kernel
theorem d_M_init_515 : decode b_M_init 515 = .ok (.aload_n 0, 1) := by decide +kernel
theorem d_M_init_516 : decode b_M_init 516 = .ok (.bipush 20, 2) := by decide +kernel
theorem d_M_init_518 : decode b_M_init 518 = .ok (.newarray .int, 2) := by decide +kernel
theorem d_M_init_520 : decode b_M_init 520 = .ok (.putfield 202, 3) := by decide +kernel
theorem d_M_init_523 : decode b_M_init 523 = .ok (.aload_n 0, 1) := by decide +kernel
theorem d_M_init_524 : decode b_M_init 524 = .ok (.bipush 6, 2) := by decide +kernel
theorem d_M_init_526 : decode b_M_init 526 = .ok (.newarray .int, 2) := by decide +kernel
theorem d_M_init_528 : decode b_M_init 528 = .ok (.dup, 1) := by decide +kernel
theorem d_M_init_529 : decode b_M_init 529 = .ok (.iconst 0, 1) := by decide +kernel
theorem d_M_init_530 : decode b_M_init 530 = .ok (.iconst (-1), 1) := by decide +kernel
theorem d_M_init_531 : decode b_M_init 531 = .ok (.iastore, 1) := by decide +kernel
theorem d_M_init_532 : decode b_M_init 532 = .ok (.dup, 1) := by decide +kernel
theorem d_M_init_533 : decode b_M_init 533 = .ok (.iconst 1, 1) := by decide +kernel
theorem d_M_init_534 : decode b_M_init 534 = .ok (.iconst (-1), 1) := by decide +kernel
theorem d_M_init_535 : decode b_M_init 535 = .ok (.iastore, 1) := by decide +kernel
theorem d_M_init_536 : decode b_M_init 536 = .ok (.dup, 1) := by decide +kernel
theorem d_M_init_537 : decode b_M_init 537 = .ok (.iconst 2, 1) := by decide +kernel
theorem d_M_init_538 : decode b_M_init 538 = .ok (.iconst (-1), 1) := by decide +kernel
theorem d_M_init_539 : decode b_M_init 539 = .ok (.iastore, 1) := by decide +kernel
theorem d_M_init_540 : decode b_M_init 540 = .ok (.dup, 1) := by decide +kernel
theorem d_M_init_541 : decode b_M_init 541 = .ok (.iconst 3, 1) := by decide +kernel
theorem d_M_init_542 : decode b_M_init 542 = .ok (.iconst (-1), 1) := by decide +kernel
theorem d_M_init_543 : decode b_M_init 543 = .ok (.iastore, 1) := by decide +kernel
theorem d_M_init_544 : decode b_M_init 544 = .ok (.dup, 1) := by decide +kernel
theorem d_M_init_545 : decode b_M_init 545 = .ok (.iconst 4, 1) := by decide +kernel
theorem d_M_init_546 : decode b_M_init 546 = .ok (.iconst (-1), 1) := by decide +kernel
theorem d_M_init_547 : decode b_M_init 547 = .ok (.iastore, 1) := by decide +kernel
theorem d_M_init_548 : decode b_M_init 548 = .ok (.dup, 1) := by decide +kernel
theorem d_M_init_549 : decode b_M_init 549 = .ok (.iconst 5, 1) := by decide +kernel
theorem d_M_init_550 : decode b_M_init 550 = .ok (.iconst (-1), 1) := by decide +kernel
theorem d_M_init_551 : decode b_M_init 551 = .ok (.iastore, 1) := by decide +kernel
theorem d_M_init_552 : decode b_M_init 552 = .ok (.putfield 205, 3) := by decide +kernel
theorem d_M_init_555 : decode b_M_init 555 = .ok (.aload_n 0, 1) := by decide +kernel
theorem d_M_init_556 : decode b_M_init 556 = .ok (.bipush 6, 2) := by decide +kernel
theorem d_M_init_558 : decode b_M_init 558 = .ok (.newarray .int, 2) := by decide +kernel
theorem d_M_init_560 : decode b_M_init 560 = .ok (.putfield 208, 3) := by decide +kernel
theorem d_M_init_563 : decode b_M_init 563 = .ok (.aload_n 0, 1) := by decide +kernel
theorem d_M_init_564 : decode b_M_init 564 = .ok (.sipush 360, 3) := by decide +kernel
theorem d_M_init_567 : decode b_M_init 567 = .ok (.newarray .long, 2) := by decide +kernel
theorem d_M_init_569 : decode b_M_init 569 = .ok (.putfield 211, 3) := by decide +kernel
theorem d_M_init_572 : decode b_M_init 572 = .ok (.aload_n 0, 1) := by decide +kernel
theorem d_M_init_573 : decode b_M_init 573 = .ok (.bipush 60, 2) := by decide +kernel
theorem d_M_init_575 : decode b_M_init 575 = .ok (.newarray .long, 2) := by decide +kernel
theorem d_M_init_577 : decode b_M_init 577 = .ok (.putfield 215, 3) := by decide +kernel
theorem d_M_init_580 : decode b_M_init 580 = .ok (.return_, 1) := by decide +kernel
theorem d_M_in_0 : decode b_M_in 0 = .ok (.iload_n 1, 1) := by decide +kernel
theorem d_M_in_1 : decode b_M_in 1 = .ok (.iload_n 2, 1) := by decide +kernel
theorem d_M_in_2 : decode b_M_in 2 = .ok (.if_icmp .lt 12, 3) := by decide +kernel
theorem d_M_in_5 : decode b_M_in 5 = .ok (.iload_n 1, 1) := by decide +kernel
theorem d_M_in_6 : decode b_M_in 6 = .ok (.iload_n 3, 1) := by decide +kernel
theorem d_M_in_7 : decode b_M_in 7 = .ok (.if_icmp .gt 7, 3) := by decide +kernel
theorem d_M_in_10 : decode b_M_in 10 = .ok (.iconst 1, 1) := by decide +kernel
theorem d_M_in_11 : decode b_M_in 11 = .ok (.goto 4, 3) := by decide +kernel
theorem d_M_in_14 : decode b_M_in 14 = .ok (.iconst 0, 1) := by decide +kernel
theorem d_M_in_15 : decode b_M_in 15 = .ok (.ireturn, 1) := by decide +kernel
theorem d_M_has_0 : decode b_M_has 0 = .ok (.iload_n 1, 1) := by decide +kernel
theorem d_M_has_1 : decode b_M_has 1 = .ok (.iload_n 2, 1) := by decide +kernel
theorem d_M_has_2 : decode b_M_has 2 = .ok (.ishr, 1) := by decide +kernel
theorem d_M_has_3 : decode b_M_has 3 = .ok (.iconst 1, 1) := by decide +kernel
theorem d_M_has_4 : decode b_M_has 4 = .ok (.iand, 1) := by decide +kernel
theorem d_M_has_5 : decode b_M_has 5 = .ok (.iconst 1, 1) := by decide +kernel
theorem d_M_has_6 : decode b_M_has 6 = .ok (.if_icmp .ne 7, 3) := by decide +kernel
theorem d_M_has_9 : decode b_M_has 9 = .ok (.iconst 1, 1) := by decide +kernel
theorem d_M_has_10 : decode b_M_has 10 = .ok (.goto 4, 3) := by decide +kernel
theorem d_M_has_13 : decode b_M_has 13 = .ok (.iconst 0, 1) := by decide +kernel
theorem d_M_has_14 : decode b_M_has 14 = .ok (.ireturn, 1) := by decide +kernel
theorem d_M_isTaker_0 : decode b_M_isTaker 0 = .ok (.aload_n 0, 1) := by decide +kernel
theorem d_M_isTaker_1 : decode b_M_isTaker 1 = .ok (.iload_n 1, 1) := by decide +kernel
theorem d_M_isTaker_2 : decode b_M_isTaker 2 = .ok (.iconst 0, 1) := by decide +kernel
theorem d_M_isTaker_3 : decode b_M_isTaker 3 = .ok (.aload_n 0, 1) := by decide +kernel
theorem d_M_isTaker_4 : decode b_M_isTaker 4 = .ok (.getfield 7, 3) := by decide +kernel
theorem d_M_isTaker_7 : decode b_M_isTaker 7 = .ok (.iconst 1, 1) := by decide +kernel
theorem d_M_isTaker_8 : decode b_M_isTaker 8 = .ok (.isub, 1) := by decide +kernel
theorem d_M_isTaker_9 : decode b_M_isTaker 9 = .ok (.invokevirtual 218, 3) := by decide +kernel
theorem d_M_isTaker_12 : decode b_M_isTaker 12 = .ok (.ireturn, 1) := by decide +kernel
theorem d_M_taker_0 : decode b_M_taker 0 = .ok (.aload_n 0, 1) := by decide +kernel
theorem d_M_taker_1 : decode b_M_taker 1 = .ok (.iload_n 1, 1) := by decide +kernel
theorem d_M_taker_2 : decode b_M_taker 2 = .ok (.iconst 0, 1) := by decide +kernel
theorem d_M_taker_3 : decode b_M_taker 3 = .ok (.bipush 6, 2) := by decide +kernel
theorem d_M_taker_5 : decode b_M_taker 5 = .ok (.invokevirtual 218, 3) := by decide +kernel
theorem d_M_taker_8 : decode b_M_taker 8 = .ok (.ifCond .ne 5, 3) := by decide +kernel
theorem d_M_taker_11 : decode b_M_taker 11 = .ok (.iconst (-1), 1) := by decide +kernel
theorem d_M_taker_12 : decode b_M_taker 12 = .ok (.ireturn, 1) := by decide +kernel
theorem d_M_taker_13 : decode b_M_taker 13 = .ok (.aload_n 0, 1) := by decide +kernel
theorem d_M_taker_14 : decode b_M_taker 14 = .ok (.iload_n 2, 1) := by decide +kernel
theorem d_M_taker_15 : decode b_M_taker 15 = .ok (.iconst 0, 1) := by decide +kernel
theorem d_M_taker_16 : decode b_M_taker 16 = .ok (.bipush 9, 2) := by decide +kernel
theorem d_M_taker_18 : decode b_M_taker 18 = .ok (.invokevirtual 218, 3) := by decide +kernel
theorem d_M_taker_21 : decode b_M_taker 21 = .ok (.ifCond .eq 14, 3) := by decide +kernel
theorem d_M_taker_24 : decode b_M_taker 24 = .ok (.aload_n 0, 1) := by decide +kernel
theorem d_M_taker_25 : decode b_M_taker 25 = .ok (.iload_n 3, 1) := by decide +kernel
theorem d_M_taker_26 : decode b_M_taker 26 = .ok (.iconst 1, 1) := by decide +kernel
theorem d_M_taker_27 : decode b_M_taker 27 = .ok (.bipush 60, 2) := by decide +kernel
theorem d_M_taker_29 : decode b_M_taker 29 = .ok (.invokevirtual 218, 3) := by decide +kernel
theorem d_M_taker_32 : decode b_M_taker 32 = .ok (.ifCond .ne 6, 3) := by decide +kernel
theorem d_M_taker_35 : decode b_M_taker 35 = .ok (.bipush (-2), 2) := by decide +kernel
theorem d_M_taker_37 : decode b_M_taker 37 = .ok (.ireturn, 1) := by decide +kernel
theorem d_M_taker_38 : decode b_M_taker 38 = .ok (.aload_n 0, 1) := by decide +kernel
theorem d_M_taker_39 : decode b_M_taker 39 = .ok (.getfield 7, 3) := by decide +kernel
theorem d_M_taker_42 : decode b_M_taker 42 = .ok (.bipush 6, 2) := by decide +kernel
theorem d_M_taker_44 : decode b_M_taker 44 = .ok (.if_icmp .ne 6, 3) := by decide +kernel
theorem d_M_taker_47 : decode b_M_taker 47 = .ok (.bipush (-4), 2) := by decide +kernel
theorem d_M_taker_49 : decode b_M_taker 49 = .ok (.ireturn, 1) := by decide +kernel
theorem d_M_taker_50 : decode b_M_taker 50 = .ok (.aload_n 0, 1) := by decide +kernel
theorem d_M_taker_51 : decode b_M_taker 51 = .ok (.getfield 19, 3) := by decide +kernel
theorem d_M_taker_54 : decode b_M_taker 54 = .ok (.aload_n 0, 1) := by decide +kernel
theorem d_M_taker_55 : decode b_M_taker 55 = .ok (.getfield 7, 3) := by decide +kernel
theorem d_M_taker_58 : decode b_M_taker 58 = .ok (.iload_n 1, 1) := by decide +kernel
theorem d_M_taker_59 : decode b_M_taker 59 = .ok (.iastore, 1) := by decide +kernel
theorem d_M_taker_60 : decode b_M_taker 60 = .ok (.aload_n 0, 1) := by decide +kernel
theorem d_M_taker_61 : decode b_M_taker 61 = .ok (.getfield 23, 3) := by decide +kernel
theorem d_M_taker_64 : decode b_M_taker 64 = .ok (.aload_n 0, 1) := by decide +kernel
theorem d_M_taker_65 : decode b_M_taker 65 = .ok (.getfield 7, 3) := by decide +kernel
theorem d_M_taker_68 : decode b_M_taker 68 = .ok (.iload_n 2, 1) := by decide +kernel
theorem d_M_taker_69 : decode b_M_taker 69 = .ok (.iastore, 1) := by decide +kernel
theorem d_M_taker_70 : decode b_M_taker 70 = .ok (.aload_n 0, 1) := by decide +kernel
theorem d_M_taker_71 : decode b_M_taker 71 = .ok (.getfield 26, 3) := by decide +kernel
theorem d_M_taker_74 : decode b_M_taker 74 = .ok (.aload_n 0, 1) := by decide +kernel
theorem d_M_taker_75 : decode b_M_taker 75 = .ok (.getfield 7, 3) := by decide +kernel
theorem d_M_taker_78 : decode b_M_taker 78 = .ok (.iload_n 3, 1) := by decide +kernel
theorem d_M_taker_79 : decode b_M_taker 79 = .ok (.iastore, 1) := by decide +kernel
theorem d_M_taker_80 : decode b_M_taker 80 = .ok (.aload_n 0, 1) := by decide +kernel
theorem d_M_taker_81 : decode b_M_taker 81 = .ok (.getfield 29, 3) := by decide +kernel
theorem d_M_taker_84 : decode b_M_taker 84 = .ok (.aload_n 0, 1) := by decide +kernel
theorem d_M_taker_85 : decode b_M_taker 85 = .ok (.getfield 7, 3) := by decide +kernel
theorem d_M_taker_88 : decode b_M_taker 88 = .ok (.iconst 0, 1) := by decide +kernel
theorem d_M_taker_89 : decode b_M_taker 89 = .ok (.iastore, 1) := by decide +kernel
theorem d_M_taker_90 : decode b_M_taker 90 = .ok (.aload_n 0, 1) := by decide +kernel
theorem d_M_taker_91 : decode b_M_taker 91 = .ok (.getfield 32, 3) := by decide +kernel
theorem d_M_taker_94 : decode b_M_taker 94 = .ok (.aload_n 0, 1) := by decide +kernel
theorem d_M_taker_95 : decode b_M_taker 95 = .ok (.getfield 7, 3) := by decide +kernel
theorem d_M_taker_98 : decode b_M_taker 98 = .ok (.iconst 0, 1) := by decide +kernel
theorem d_M_taker_99 : decode b_M_taker 99 = .ok (.iastore, 1) := by decide +kernel
theorem d_M_taker_100 : decode b_M_taker 100 = .ok (.aload_n 0, 1) := by decide +kernel
theorem d_M_taker_101 : decode b_M_taker 101 = .ok (.getfield 35, 3) := by decide +kernel
theorem d_M_taker_104 : decode b_M_taker 104 = .ok (.aload_n 0, 1) := by decide +kernel
theorem d_M_taker_105 : decode b_M_taker 105 = .ok (.getfield 7, 3) := by decide +kernel
theorem d_M_taker_108 : decode b_M_taker 108 = .ok (.iconst 0, 1) := by decide +kernel
theorem d_M_taker_109 : decode b_M_taker 109 = .ok (.iastore, 1) := by decide +kernel
theorem d_M_taker_110 : decode b_M_taker 110 = .ok (.iconst 0, 1) := by decide +kernel
theorem d_M_taker_111 : decode b_M_taker 111 = .ok (.istore 4, 2) := by decide +kernel
theorem d_M_taker_113 : decode b_M_taker 113 = .ok (.iload 4, 2) := by decide +kernel
theorem d_M_taker_115 : decode b_M_taker 115 = .ok (.iconst 4, 1) := by decide +kernel
theorem d_M_taker_116 : decode b_M_taker 116 = .ok (.if_icmp .ge 24, 3) := by decide +kernel
theorem d_M_taker_119 : decode b_M_taker 119 = .ok (.aload_n 0, 1) := by decide +kernel
theorem d_M_taker_120 : decode b_M_taker 120 = .ok (.getfield 38, 3) := by decide +kernel
theorem d_M_taker_123 : decode b_M_taker 123 = .ok (.iconst 4, 1) := by decide +kernel
theorem d_M_taker_124 : decode b_M_taker 124 = .ok (.aload_n 0, 1) := by decide +kernel
theorem d_M_taker_125 : decode b_M_taker 125 = .ok (.getfield 7, 3) := by decide +kernel
theorem d_M_taker_128 : decode b_M_taker 128 = .ok (.imul, 1) := by decide +kernel
theorem d_M_taker_129 : decode b_M_taker 129 = .ok (.iload 4, 2) := by decide +kernel
theorem d_M_taker_131 : decode b_M_taker 131 = .ok (.iadd, 1) := by decide +kernel
theorem d_M_taker_132 : decode b_M_taker 132 = .ok (.iconst 0, 1) := by decide +kernel
theorem d_M_taker_133 : decode b_M_taker 133 = .ok (.iastore, 1) := by decide +kernel
theorem d_M_taker_134 : decode b_M_taker 134 = .ok (.iinc 4 1, 3) := by decide +kernel
theorem d_M_taker_137 : decode b_M_taker 137 = .ok (.goto (-24), 3) := by decide +kernel
theorem d_M_taker_140 : decode b_M_taker 140 = .ok (.aload_n 0, 1) := by decide +kernel
theorem d_M_taker_141 : decode b_M_taker 141 = .ok (.dup, 1) := by decide +kernel
theorem d_M_taker_142 : decode b_M_taker 142 = .ok (.getfield 7, 3) := by decide +kernel
theorem d_M_taker_145 : decode b_M_taker 145 = .ok (.iconst 1, 1) := by decide +kernel
theorem d_M_taker_146 : decode b_M_taker 146 = .ok (.iadd, 1) := by decide +kernel
theorem d_M_taker_147 : decode b_M_taker 147 = .ok (.putfield 7, 3) := by decide +kernel
theorem d_M_taker_150 : decode b_M_taker 150 = .ok (.aload_n 0, 1) := by decide +kernel
theorem d_M_taker_151 : decode b_M_taker 151 = .ok (.getfield 7, 3) := by decide +kernel
theorem d_M_taker_154 : decode b_M_taker 154 = .ok (.iconst 1, 1) := by decide +kernel
theorem d_M_taker_155 : decode b_M_taker 155 = .ok (.isub, 1) := by decide +kernel
theorem d_M_taker_156 : decode b_M_taker 156 = .ok (.ireturn, 1) := by decide +kernel
theorem d_M_portion_0 : decode b_M_portion 0 = .ok (.aload_n 0, 1) := by decide +kernel
theorem d_M_portion_1 : decode b_M_portion 1 = .ok (.iload_n 1, 1) := by decide +kernel
theorem d_M_portion_2 : decode b_M_portion 2 = .ok (.invokevirtual 222, 3) := by decide +kernel
theorem d_M_portion_5 : decode b_M_portion 5 = .ok (.ifCond .ne 5, 3) := by decide +kernel
theorem d_M_portion_8 : decode b_M_portion 8 = .ok (.iconst (-1), 1) := by decide +kernel
theorem d_M_portion_9 : decode b_M_portion 9 = .ok (.ireturn, 1) := by decide +kernel
theorem d_M_portion_10 : decode b_M_portion 10 = .ok (.aload_n 0, 1) := by decide +kernel
theorem d_M_portion_11 : decode b_M_portion 11 = .ok (.iload_n 2, 1) := by decide +kernel
theorem d_M_portion_12 : decode b_M_portion 12 = .ok (.iconst 1, 1) := by decide +kernel
theorem d_M_portion_13 : decode b_M_portion 13 = .ok (.bipush 60, 2) := by decide +kernel
theorem d_M_portion_15 : decode b_M_portion 15 = .ok (.invokevirtual 218, 3) := by decide +kernel
theorem d_M_portion_18 : decode b_M_portion 18 = .ok (.ifCond .ne 6, 3) := by decide +kernel
theorem d_M_portion_21 : decode b_M_portion 21 = .ok (.bipush (-2), 2) := by decide +kernel
theorem d_M_portion_23 : decode b_M_portion 23 = .ok (.ireturn, 1) := by decide +kernel
theorem d_M_portion_24 : decode b_M_portion 24 = .ok (.aload_n 0, 1) := by decide +kernel
theorem d_M_portion_25 : decode b_M_portion 25 = .ok (.getfield 26, 3) := by decide +kernel
theorem d_M_portion_28 : decode b_M_portion 28 = .ok (.iload_n 1, 1) := by decide +kernel
theorem d_M_portion_29 : decode b_M_portion 29 = .ok (.iaload, 1) := by decide +kernel
theorem d_M_portion_30 : decode b_M_portion 30 = .ok (.istore_n 3, 1) := by decide +kernel
theorem d_M_portion_31 : decode b_M_portion 31 = .ok (.aload_n 0, 1) := by decide +kernel
theorem d_M_portion_32 : decode b_M_portion 32 = .ok (.getfield 26, 3) := by decide +kernel
theorem d_M_portion_35 : decode b_M_portion 35 = .ok (.iload_n 1, 1) := by decide +kernel
theorem d_M_portion_36 : decode b_M_portion 36 = .ok (.iload_n 2, 1) := by decide +kernel
theorem d_M_portion_37 : decode b_M_portion 37 = .ok (.iastore, 1) := by decide +kernel
theorem d_M_portion_38 : decode b_M_portion 38 = .ok (.iload_n 3, 1) := by decide +kernel
theorem d_M_portion_39 : decode b_M_portion 39 = .ok (.ireturn, 1) := by decide +kernel
theorem d_M_fill_0 : decode b_M_fill 0 = .ok (.aload_n 0, 1) := by decide +kernel
theorem d_M_fill_1 : decode b_M_fill 1 = .ok (.iload_n 1, 1) := by decide +kernel
theorem d_M_fill_2 : decode b_M_fill 2 = .ok (.iconst 0, 1) := by decide +kernel
theorem d_M_fill_3 : decode b_M_fill 3 = .ok (.sipush 990, 3) := by decide +kernel
theorem d_M_fill_6 : decode b_M_fill 6 = .ok (.invokevirtual 218, 3) := by decide +kernel
theorem d_M_fill_9 : decode b_M_fill 9 = .ok (.ifCond .ne 6, 3) := by decide +kernel
theorem d_M_fill_12 : decode b_M_fill 12 = .ok (.bipush (-2), 2) := by decide +kernel
theorem d_M_fill_14 : decode b_M_fill 14 = .ok (.ireturn, 1) := by decide +kernel
theorem d_M_fill_15 : decode b_M_fill 15 = .ok (.aload_n 0, 1) := by decide +kernel
theorem d_M_fill_16 : decode b_M_fill 16 = .ok (.getfield 13, 3) := by decide +kernel
theorem d_M_fill_19 : decode b_M_fill 19 = .ok (.istore_n 2, 1) := by decide +kernel
theorem d_M_fill_20 : decode b_M_fill 20 = .ok (.aload_n 0, 1) := by decide +kernel
theorem d_M_fill_21 : decode b_M_fill 21 = .ok (.iload_n 1, 1) := by decide +kernel
theorem d_M_fill_22 : decode b_M_fill 22 = .ok (.putfield 13, 3) := by decide +kernel
theorem d_M_fill_25 : decode b_M_fill 25 = .ok (.iload_n 2, 1) := by decide +kernel
theorem d_M_fill_26 : decode b_M_fill 26 = .ok (.ireturn, 1) := by decide +kernel
theorem d_M_row_0 : decode b_M_row 0 = .ok (.aload_n 0, 1) := by decide +kernel
theorem d_M_row_1 : decode b_M_row 1 = .ok (.iload_n 1, 1) := by decide +kernel
theorem d_M_row_2 : decode b_M_row 2 = .ok (.invokevirtual 222, 3) := by decide +kernel
theorem d_M_row_5 : decode b_M_row 5 = .ok (.ifCond .eq 13, 3) := by decide +kernel
theorem d_M_row_8 : decode b_M_row 8 = .ok (.aload_n 0, 1) := by decide +kernel
theorem d_M_row_9 : decode b_M_row 9 = .ok (.iload_n 2, 1) := by decide +kernel
theorem d_M_row_10 : decode b_M_row 10 = .ok (.iconst 0, 1) := by decide +kernel
theorem d_M_row_11 : decode b_M_row 11 = .ok (.iconst 3, 1) := by decide +kernel
theorem d_M_row_12 : decode b_M_row 12 = .ok (.invokevirtual 218, 3) := by decide +kernel
theorem d_M_row_15 : decode b_M_row 15 = .ok (.ifCond .ne 5, 3) := by decide +kernel
theorem d_M_row_18 : decode b_M_row 18 = .ok (.iconst (-1), 1) := by decide +kernel
theorem d_M_row_19 : decode b_M_row 19 = .ok (.ireturn, 1) := by decide +kernel
theorem d_M_row_20 : decode b_M_row 20 = .ok (.aload_n 0, 1) := by decide +kernel
theorem d_M_row_21 : decode b_M_row 21 = .ok (.iload_n 3, 1) := by decide +kernel
theorem d_M_row_22 : decode b_M_row 22 = .ok (.iconst 0, 1) := by decide +kernel
theorem d_M_row_23 : decode b_M_row 23 = .ok (.bipush 9, 2) := by decide +kernel
theorem d_M_row_25 : decode b_M_row 25 = .ok (.invokevirtual 218, 3) := by decide +kernel
theorem d_M_row_28 : decode b_M_row 28 = .ok (.ifCond .ne 6, 3) := by decide +kernel
theorem d_M_row_31 : decode b_M_row 31 = .ok (.bipush (-2), 2) := by decide +kernel
theorem d_M_row_33 : decode b_M_row 33 = .ok (.ireturn, 1) := by decide +kernel
theorem d_M_row_34 : decode b_M_row 34 = .ok (.aload_n 0, 1) := by decide +kernel
theorem d_M_row_35 : decode b_M_row 35 = .ok (.getfield 19, 3) := by decide +kernel
theorem d_M_row_38 : decode b_M_row 38 = .ok (.iload_n 1, 1) := by decide +kernel
theorem d_M_row_39 : decode b_M_row 39 = .ok (.iaload, 1) := by decide +kernel
theorem d_M_row_40 : decode b_M_row 40 = .ok (.bipush 6, 2) := by decide +kernel
theorem d_M_row_42 : decode b_M_row 42 = .ok (.if_icmp .eq 6, 3) := by decide +kernel
theorem d_M_row_45 : decode b_M_row 45 = .ok (.bipush (-3), 2) := by decide +kernel
theorem d_M_row_47 : decode b_M_row 47 = .ok (.ireturn, 1) := by decide +kernel
theorem d_M_row_48 : decode b_M_row 48 = .ok (.aload_n 0, 1) := by decide +kernel
theorem d_M_row_49 : decode b_M_row 49 = .ok (.getfield 38, 3) := by decide +kernel
theorem d_M_row_52 : decode b_M_row 52 = .ok (.iconst 4, 1) := by decide +kernel
theorem d_M_row_53 : decode b_M_row 53 = .ok (.iload_n 1, 1) := by decide +kernel
theorem d_M_row_54 : decode b_M_row 54 = .ok (.imul, 1) := by decide +kernel
theorem d_M_row_55 : decode b_M_row 55 = .ok (.iload_n 2, 1) := by decide +kernel
theorem d_M_row_56 : decode b_M_row 56 = .ok (.iadd, 1) := by decide +kernel
theorem d_M_row_57 : decode b_M_row 57 = .ok (.iaload, 1) := by decide +kernel
theorem d_M_row_58 : decode b_M_row 58 = .ok (.istore 4, 2) := by decide +kernel
theorem d_M_row_60 : decode b_M_row 60 = .ok (.aload_n 0, 1) := by decide +kernel
theorem d_M_row_61 : decode b_M_row 61 = .ok (.getfield 38, 3) := by decide +kernel
theorem d_M_row_64 : decode b_M_row 64 = .ok (.iconst 4, 1) := by decide +kernel
theorem d_M_row_65 : decode b_M_row 65 = .ok (.iload_n 1, 1) := by decide +kernel
theorem d_M_row_66 : decode b_M_row 66 = .ok (.imul, 1) := by decide +kernel
theorem d_M_row_67 : decode b_M_row 67 = .ok (.iload_n 2, 1) := by decide +kernel
theorem d_M_row_68 : decode b_M_row 68 = .ok (.iadd, 1) := by decide +kernel
theorem d_M_row_69 : decode b_M_row 69 = .ok (.iload_n 3, 1) := by decide +kernel
theorem d_M_row_70 : decode b_M_row 70 = .ok (.iastore, 1) := by decide +kernel
theorem d_M_row_71 : decode b_M_row 71 = .ok (.iload 4, 2) := by decide +kernel
theorem d_M_row_73 : decode b_M_row 73 = .ok (.ireturn, 1) := by decide +kernel
theorem d_M_feed_0 : decode b_M_feed 0 = .ok (.aload_n 0, 1) := by decide +kernel
theorem d_M_feed_1 : decode b_M_feed 1 = .ok (.iload_n 1, 1) := by decide +kernel
theorem d_M_feed_2 : decode b_M_feed 2 = .ok (.iconst 0, 1) := by decide +kernel
theorem d_M_feed_3 : decode b_M_feed 3 = .ok (.bipush 127, 2) := by decide +kernel
theorem d_M_feed_5 : decode b_M_feed 5 = .ok (.invokevirtual 218, 3) := by decide +kernel
theorem d_M_feed_8 : decode b_M_feed 8 = .ok (.ifCond .ne 6, 3) := by decide +kernel
theorem d_M_feed_11 : decode b_M_feed 11 = .ok (.bipush (-2), 2) := by decide +kernel
theorem d_M_feed_13 : decode b_M_feed 13 = .ok (.ireturn, 1) := by decide +kernel
theorem d_M_feed_14 : decode b_M_feed 14 = .ok (.aload_n 0, 1) := by decide +kernel
theorem d_M_feed_15 : decode b_M_feed 15 = .ok (.getfield 47, 3) := by decide +kernel
theorem d_M_feed_18 : decode b_M_feed 18 = .ok (.bipush 100, 2) := by decide +kernel
theorem d_M_feed_20 : decode b_M_feed 20 = .ok (.if_icmp .ne 6, 3) := by decide +kernel
theorem d_M_feed_23 : decode b_M_feed 23 = .ok (.bipush (-4), 2) := by decide +kernel
theorem d_M_feed_25 : decode b_M_feed 25 = .ok (.ireturn, 1) := by decide +kernel
theorem d_M_feed_26 : decode b_M_feed 26 = .ok (.aload_n 0, 1) := by decide +kernel
theorem d_M_feed_27 : decode b_M_feed 27 = .ok (.getfield 56, 3) := by decide +kernel
theorem d_M_feed_30 : decode b_M_feed 30 = .ok (.aload_n 0, 1) := by decide +kernel
theorem d_M_feed_31 : decode b_M_feed 31 = .ok (.getfield 47, 3) := by decide +kernel
theorem d_M_feed_34 : decode b_M_feed 34 = .ok (.iload_n 1, 1) := by decide +kernel
theorem d_M_feed_35 : decode b_M_feed 35 = .ok (.iastore, 1) := by decide +kernel
theorem d_M_feed_36 : decode b_M_feed 36 = .ok (.aload_n 0, 1) := by decide +kernel
theorem d_M_feed_37 : decode b_M_feed 37 = .ok (.dup, 1) := by decide +kernel
theorem d_M_feed_38 : decode b_M_feed 38 = .ok (.getfield 47, 3) := by decide +kernel
theorem d_M_feed_41 : decode b_M_feed 41 = .ok (.iconst 1, 1) := by decide +kernel
theorem d_M_feed_42 : decode b_M_feed 42 = .ok (.iadd, 1) := by decide +kernel
theorem d_M_feed_43 : decode b_M_feed 43 = .ok (.putfield 47, 3) := by decide +kernel
theorem d_M_feed_46 : decode b_M_feed 46 = .ok (.aload_n 0, 1) := by decide +kernel
theorem d_M_feed_47 : decode b_M_feed 47 = .ok (.getfield 47, 3) := by decide +kernel
theorem d_M_feed_50 : decode b_M_feed 50 = .ok (.ireturn, 1) := by decide +kernel
theorem d_M_peek_0 : decode b_M_peek 0 = .ok (.aload_n 0, 1) := by decide +kernel
theorem d_M_peek_1 : decode b_M_peek 1 = .ok (.getfield 50, 3) := by decide +kernel
theorem d_M_peek_4 : decode b_M_peek 4 = .ok (.aload_n 0, 1) := by decide +kernel
theorem d_M_peek_5 : decode b_M_peek 5 = .ok (.getfield 47, 3) := by decide +kernel
theorem d_M_peek_8 : decode b_M_peek 8 = .ok (.if_icmp .ge 15, 3) := by decide +kernel
theorem d_M_peek_11 : decode b_M_peek 11 = .ok (.aload_n 0, 1) := by decide +kernel
theorem d_M_peek_12 : decode b_M_peek 12 = .ok (.getfield 56, 3) := by decide +kernel
theorem d_M_peek_15 : decode b_M_peek 15 = .ok (.aload_n 0, 1) := by decide +kernel
theorem d_M_peek_16 : decode b_M_peek 16 = .ok (.getfield 50, 3) := by decide +kernel
theorem d_M_peek_19 : decode b_M_peek 19 = .ok (.iaload, 1) := by decide +kernel
theorem d_M_peek_20 : decode b_M_peek 20 = .ok (.goto 4, 3) := by decide +kernel
theorem d_M_peek_23 : decode b_M_peek 23 = .ok (.iconst (-1), 1) := by decide +kernel
theorem d_M_peek_24 : decode b_M_peek 24 = .ok (.ireturn, 1) := by decide +kernel
theorem d_M_reads_0 : decode b_M_reads 0 = .ok (.aload_n 0, 1) := by decide +kernel
theorem d_M_reads_1 : decode b_M_reads 1 = .ok (.invokevirtual 226, 3) := by decide +kernel
theorem d_M_reads_4 : decode b_M_reads 4 = .ok (.iload_n 1, 1) := by decide +kernel
theorem d_M_reads_5 : decode b_M_reads 5 = .ok (.if_icmp .eq 5, 3) := by decide +kernel
theorem d_M_reads_8 : decode b_M_reads 8 = .ok (.iconst 0, 1) := by decide +kernel
theorem d_M_reads_9 : decode b_M_reads 9 = .ok (.ireturn, 1) := by decide +kernel
theorem d_M_reads_10 : decode b_M_reads 10 = .ok (.aload_n 0, 1) := by decide +kernel
theorem d_M_reads_11 : decode b_M_reads 11 = .ok (.dup, 1) := by decide +kernel
theorem d_M_reads_12 : decode b_M_reads 12 = .ok (.getfield 50, 3) := by decide +kernel
theorem d_M_reads_15 : decode b_M_reads 15 = .ok (.iconst 1, 1) := by decide +kernel
theorem d_M_reads_16 : decode b_M_reads 16 = .ok (.iadd, 1) := by decide +kernel
theorem d_M_reads_17 : decode b_M_reads 17 = .ok (.putfield 50, 3) := by decide +kernel
theorem d_M_reads_20 : decode b_M_reads 20 = .ok (.iconst 1, 1) := by decide +kernel
theorem d_M_reads_21 : decode b_M_reads 21 = .ok (.ireturn, 1) := by decide +kernel
theorem d_M_takesWord_0 : decode b_M_takesWord 0 = .ok (.iconst 0, 1) := by decide +kernel
theorem d_M_takesWord_1 : decode b_M_takesWord 1 = .ok (.istore_n 3, 1) := by decide +kernel
theorem d_M_takesWord_2 : decode b_M_takesWord 2 = .ok (.iload_n 3, 1) := by decide +kernel
theorem d_M_takesWord_3 : decode b_M_takesWord 3 = .ok (.iload_n 2, 1) := by decide +kernel
theorem d_M_takesWord_4 : decode b_M_takesWord 4 = .ok (.if_icmp .ge 26, 3) := by decide +kernel
theorem d_M_takesWord_7 : decode b_M_takesWord 7 = .ok (.aload_n 0, 1) := by decide +kernel
theorem d_M_takesWord_8 : decode b_M_takesWord 8 = .ok (.aload_n 0, 1) := by decide +kernel
theorem d_M_takesWord_9 : decode b_M_takesWord 9 = .ok (.getfield 89, 3) := by decide +kernel
theorem d_M_takesWord_12 : decode b_M_takesWord 12 = .ok (.iload_n 1, 1) := by decide +kernel
theorem d_M_takesWord_13 : decode b_M_takesWord 13 = .ok (.iload_n 3, 1) := by decide +kernel
theorem d_M_takesWord_14 : decode b_M_takesWord 14 = .ok (.iadd, 1) := by decide +kernel
theorem d_M_takesWord_15 : decode b_M_takesWord 15 = .ok (.iaload, 1) := by decide +kernel
theorem d_M_takesWord_16 : decode b_M_takesWord 16 = .ok (.invokevirtual 230, 3) := by decide +kernel
theorem d_M_takesWord_19 : decode b_M_takesWord 19 = .ok (.ifCond .ne 5, 3) := by decide +kernel
theorem d_M_takesWord_22 : decode b_M_takesWord 22 = .ok (.iconst 0, 1) := by decide +kernel
theorem d_M_takesWord_23 : decode b_M_takesWord 23 = .ok (.ireturn, 1) := by decide +kernel
theorem d_M_takesWord_24 : decode b_M_takesWord 24 = .ok (.iinc 3 1, 3) := by decide +kernel
theorem d_M_takesWord_27 : decode b_M_takesWord 27 = .ok (.goto (-25), 3) := by decide +kernel
theorem d_M_takesWord_30 : decode b_M_takesWord 30 = .ok (.aload_n 0, 1) := by decide +kernel
theorem d_M_takesWord_31 : decode b_M_takesWord 31 = .ok (.bipush 32, 2) := by decide +kernel
theorem d_M_takesWord_33 : decode b_M_takesWord 33 = .ok (.invokevirtual 230, 3) := by decide +kernel
theorem d_M_takesWord_36 : decode b_M_takesWord 36 = .ok (.ireturn, 1) := by decide +kernel
theorem d_M_isDigit_0 : decode b_M_isDigit 0 = .ok (.aload_n 0, 1) := by decide +kernel
theorem d_M_isDigit_1 : decode b_M_isDigit 1 = .ok (.aload_n 0, 1) := by decide +kernel
theorem d_M_isDigit_2 : decode b_M_isDigit 2 = .ok (.invokevirtual 226, 3) := by decide +kernel
theorem d_M_isDigit_5 : decode b_M_isDigit 5 = .ok (.bipush 48, 2) := by decide +kernel
theorem d_M_isDigit_7 : decode b_M_isDigit 7 = .ok (.bipush 57, 2) := by decide +kernel
theorem d_M_isDigit_9 : decode b_M_isDigit 9 = .ok (.invokevirtual 218, 3) := by decide +kernel
theorem d_M_isDigit_12 : decode b_M_isDigit 12 = .ok (.ireturn, 1) := by decide +kernel
theorem d_M_takesNumber_0 : decode b_M_takesNumber 0 = .ok (.aload_n 0, 1) := by decide +kernel
theorem d_M_takesNumber_1 : decode b_M_takesNumber 1 = .ok (.invokevirtual 233, 3) := by decide +kernel
theorem d_M_takesNumber_4 : decode b_M_takesNumber 4 = .ok (.ifCond .ne 5, 3) := by decide +kernel
theorem d_M_takesNumber_7 : decode b_M_takesNumber 7 = .ok (.iconst 0, 1) := by decide +kernel
theorem d_M_takesNumber_8 : decode b_M_takesNumber 8 = .ok (.ireturn, 1) := by decide +kernel
theorem d_M_takesNumber_9 : decode b_M_takesNumber 9 = .ok (.aload_n 0, 1) := by decide +kernel
theorem d_M_takesNumber_10 : decode b_M_takesNumber 10 = .ok (.iconst 0, 1) := by decide +kernel
theorem d_M_takesNumber_11 : decode b_M_takesNumber 11 = .ok (.putfield 53, 3) := by decide +kernel
theorem d_M_takesNumber_14 : decode b_M_takesNumber 14 = .ok (.iconst 0, 1) := by decide +kernel
theorem d_M_takesNumber_15 : decode b_M_takesNumber 15 = .ok (.istore_n 1, 1) := by decide +kernel
theorem d_M_takesNumber_16 : decode b_M_takesNumber 16 = .ok (.iload_n 1, 1) := by decide +kernel
theorem d_M_takesNumber_17 : decode b_M_takesNumber 17 = .ok (.iconst 2, 1) := by decide +kernel
theorem d_M_takesNumber_18 : decode b_M_takesNumber 18 = .ok (.if_icmp .ge 45, 3) := by decide +kernel
theorem d_M_takesNumber_21 : decode b_M_takesNumber 21 = .ok (.aload_n 0, 1) := by decide +kernel
theorem d_M_takesNumber_22 : decode b_M_takesNumber 22 = .ok (.invokevirtual 233, 3) := by decide +kernel
theorem d_M_takesNumber_25 : decode b_M_takesNumber 25 = .ok (.ifCond .eq 38, 3) := by decide +kernel
theorem d_M_takesNumber_28 : decode b_M_takesNumber 28 = .ok (.aload_n 0, 1) := by decide +kernel
theorem d_M_takesNumber_29 : decode b_M_takesNumber 29 = .ok (.bipush 10, 2) := by decide +kernel
theorem d_M_takesNumber_31 : decode b_M_takesNumber 31 = .ok (.aload_n 0, 1) := by decide +kernel
theorem d_M_takesNumber_32 : decode b_M_takesNumber 32 = .ok (.getfield 53, 3) := by decide +kernel
theorem d_M_takesNumber_35 : decode b_M_takesNumber 35 = .ok (.imul, 1) := by decide +kernel
theorem d_M_takesNumber_36 : decode b_M_takesNumber 36 = .ok (.aload_n 0, 1) := by decide +kernel
theorem d_M_takesNumber_37 : decode b_M_takesNumber 37 = .ok (.invokevirtual 226, 3) := by decide +kernel
theorem d_M_takesNumber_40 : decode b_M_takesNumber 40 = .ok (.iadd, 1) := by decide +kernel
theorem d_M_takesNumber_41 : decode b_M_takesNumber 41 = .ok (.bipush 48, 2) := by decide +kernel
theorem d_M_takesNumber_43 : decode b_M_takesNumber 43 = .ok (.isub, 1) := by decide +kernel
theorem d_M_takesNumber_44 : decode b_M_takesNumber 44 = .ok (.putfield 53, 3) := by decide +kernel
theorem d_M_takesNumber_47 : decode b_M_takesNumber 47 = .ok (.aload_n 0, 1) := by decide +kernel
theorem d_M_takesNumber_48 : decode b_M_takesNumber 48 = .ok (.dup, 1) := by decide +kernel
theorem d_M_takesNumber_49 : decode b_M_takesNumber 49 = .ok (.getfield 50, 3) := by decide +kernel
theorem d_M_takesNumber_52 : decode b_M_takesNumber 52 = .ok (.iconst 1, 1) := by decide +kernel
theorem d_M_takesNumber_53 : decode b_M_takesNumber 53 = .ok (.iadd, 1) := by decide +kernel
theorem d_M_takesNumber_54 : decode b_M_takesNumber 54 = .ok (.putfield 50, 3) := by decide +kernel
theorem d_M_takesNumber_57 : decode b_M_takesNumber 57 = .ok (.iinc 1 1, 3) := by decide +kernel
theorem d_M_takesNumber_60 : decode b_M_takesNumber 60 = .ok (.goto (-44), 3) := by decide +kernel
theorem d_M_takesNumber_63 : decode b_M_takesNumber 63 = .ok (.iconst 1, 1) := by decide +kernel
theorem d_M_takesNumber_64 : decode b_M_takesNumber 64 = .ok (.ireturn, 1) := by decide +kernel
theorem d_M_emits_0 : decode b_M_emits 0 = .ok (.aload_n 0, 1) := by decide +kernel
theorem d_M_emits_1 : decode b_M_emits 1 = .ok (.getfield 74, 3) := by decide +kernel
theorem d_M_emits_4 : decode b_M_emits 4 = .ok (.aload_n 0, 1) := by decide +kernel
theorem d_M_emits_5 : decode b_M_emits 5 = .ok (.getfield 80, 3) := by decide +kernel
theorem d_M_emits_8 : decode b_M_emits 8 = .ok (.iload_n 1, 1) := by decide +kernel
theorem d_M_emits_9 : decode b_M_emits 9 = .ok (.iastore, 1) := by decide +kernel
theorem d_M_emits_10 : decode b_M_emits 10 = .ok (.aload_n 0, 1) := by decide +kernel
theorem d_M_emits_11 : decode b_M_emits 11 = .ok (.dup, 1) := by decide +kernel
theorem d_M_emits_12 : decode b_M_emits 12 = .ok (.getfield 80, 3) := by decide +kernel
theorem d_M_emits_15 : decode b_M_emits 15 = .ok (.iconst 1, 1) := by decide +kernel
theorem d_M_emits_16 : decode b_M_emits 16 = .ok (.iadd, 1) := by decide +kernel
theorem d_M_emits_17 : decode b_M_emits 17 = .ok (.putfield 80, 3) := by decide +kernel
theorem d_M_emits_20 : decode b_M_emits 20 = .ok (.return_, 1) := by decide +kernel
theorem d_M_whole_0 : decode b_M_whole 0 = .ok (.aload_n 0, 1) := by decide +kernel
theorem d_M_whole_1 : decode b_M_whole 1 = .ok (.getfield 83, 3) := by decide +kernel
theorem d_M_whole_4 : decode b_M_whole 4 = .ok (.ifCond .le 48, 3) := by decide +kernel
theorem d_M_whole_7 : decode b_M_whole 7 = .ok (.aload_n 0, 1) := by decide +kernel
theorem d_M_whole_8 : decode b_M_whole 8 = .ok (.getfield 77, 3) := by decide +kernel
theorem d_M_whole_11 : decode b_M_whole 11 = .ok (.aload_n 0, 1) := by decide +kernel
theorem d_M_whole_12 : decode b_M_whole 12 = .ok (.getfield 83, 3) := by decide +kernel
theorem d_M_whole_15 : decode b_M_whole 15 = .ok (.iconst 1, 1) := by decide +kernel
theorem d_M_whole_16 : decode b_M_whole 16 = .ok (.isub, 1) := by decide +kernel
theorem d_M_whole_17 : decode b_M_whole 17 = .ok (.iaload, 1) := by decide +kernel
theorem d_M_whole_18 : decode b_M_whole 18 = .ok (.bipush 33, 2) := by decide +kernel
theorem d_M_whole_20 : decode b_M_whole 20 = .ok (.if_icmp .ne 32, 3) := by decide +kernel
theorem d_M_whole_23 : decode b_M_whole 23 = .ok (.aload_n 0, 1) := by decide +kernel
theorem d_M_whole_24 : decode b_M_whole 24 = .ok (.bipush (-33), 2) := by decide +kernel
theorem d_M_whole_26 : decode b_M_whole 26 = .ok (.invokevirtual 237, 3) := by decide +kernel
theorem d_M_whole_29 : decode b_M_whole 29 = .ok (.aload_n 0, 1) := by decide +kernel
theorem d_M_whole_30 : decode b_M_whole 30 = .ok (.dup, 1) := by decide +kernel
theorem d_M_whole_31 : decode b_M_whole 31 = .ok (.getfield 83, 3) := by decide +kernel
theorem d_M_whole_34 : decode b_M_whole 34 = .ok (.iconst 1, 1) := by decide +kernel
theorem d_M_whole_35 : decode b_M_whole 35 = .ok (.isub, 1) := by decide +kernel
theorem d_M_whole_36 : decode b_M_whole 36 = .ok (.putfield 83, 3) := by decide +kernel
theorem d_M_whole_39 : decode b_M_whole 39 = .ok (.aload_n 0, 1) := by decide +kernel
theorem d_M_whole_40 : decode b_M_whole 40 = .ok (.dup, 1) := by decide +kernel
theorem d_M_whole_41 : decode b_M_whole 41 = .ok (.getfield 86, 3) := by decide +kernel
theorem d_M_whole_44 : decode b_M_whole 44 = .ok (.iconst 1, 1) := by decide +kernel
theorem d_M_whole_45 : decode b_M_whole 45 = .ok (.isub, 1) := by decide +kernel
theorem d_M_whole_46 : decode b_M_whole 46 = .ok (.putfield 86, 3) := by decide +kernel
theorem d_M_whole_49 : decode b_M_whole 49 = .ok (.goto (-49), 3) := by decide +kernel
theorem d_M_whole_52 : decode b_M_whole 52 = .ok (.return_, 1) := by decide +kernel
theorem d_M_settle_0 : decode b_M_settle 0 = .ok (.aload_n 0, 1) := by decide +kernel
theorem d_M_settle_1 : decode b_M_settle 1 = .ok (.getfield 83, 3) := by decide +kernel
theorem d_M_settle_4 : decode b_M_settle 4 = .ok (.ifCond .le 68, 3) := by decide +kernel
theorem d_M_settle_7 : decode b_M_settle 7 = .ok (.aload_n 0, 1) := by decide +kernel
theorem d_M_settle_8 : decode b_M_settle 8 = .ok (.getfield 77, 3) := by decide +kernel
theorem d_M_settle_11 : decode b_M_settle 11 = .ok (.aload_n 0, 1) := by decide +kernel
theorem d_M_settle_12 : decode b_M_settle 12 = .ok (.getfield 83, 3) := by decide +kernel
theorem d_M_settle_15 : decode b_M_settle 15 = .ok (.iconst 1, 1) := by decide +kernel
theorem d_M_settle_16 : decode b_M_settle 16 = .ok (.isub, 1) := by decide +kernel
theorem d_M_settle_17 : decode b_M_settle 17 = .ok (.iaload, 1) := by decide +kernel
theorem d_M_settle_18 : decode b_M_settle 18 = .ok (.bipush 38, 2) := by decide +kernel
theorem d_M_settle_20 : decode b_M_settle 20 = .ok (.if_icmp .eq 25, 3) := by decide +kernel
theorem d_M_settle_23 : decode b_M_settle 23 = .ok (.aload_n 0, 1) := by decide +kernel
theorem d_M_settle_24 : decode b_M_settle 24 = .ok (.getfield 77, 3) := by decide +kernel
theorem d_M_settle_27 : decode b_M_settle 27 = .ok (.aload_n 0, 1) := by decide +kernel
theorem d_M_settle_28 : decode b_M_settle 28 = .ok (.getfield 83, 3) := by decide +kernel
theorem d_M_settle_31 : decode b_M_settle 31 = .ok (.iconst 1, 1) := by decide +kernel
theorem d_M_settle_32 : decode b_M_settle 32 = .ok (.isub, 1) := by decide +kernel
theorem d_M_settle_33 : decode b_M_settle 33 = .ok (.iaload, 1) := by decide +kernel
theorem d_M_settle_34 : decode b_M_settle 34 = .ok (.bipush 124, 2) := by decide +kernel
theorem d_M_settle_36 : decode b_M_settle 36 = .ok (.if_icmp .ne 36, 3) := by decide +kernel
theorem d_M_settle_39 : decode b_M_settle 39 = .ok (.iload_n 1, 1) := by decide +kernel
theorem d_M_settle_40 : decode b_M_settle 40 = .ok (.bipush 38, 2) := by decide +kernel
theorem d_M_settle_42 : decode b_M_settle 42 = .ok (.if_icmp .eq 30, 3) := by decide +kernel
theorem d_M_settle_45 : decode b_M_settle 45 = .ok (.aload_n 0, 1) := by decide +kernel
theorem d_M_settle_46 : decode b_M_settle 46 = .ok (.dup, 1) := by decide +kernel
theorem d_M_settle_47 : decode b_M_settle 47 = .ok (.getfield 83, 3) := by decide +kernel
theorem d_M_settle_50 : decode b_M_settle 50 = .ok (.iconst 1, 1) := by decide +kernel
theorem d_M_settle_51 : decode b_M_settle 51 = .ok (.isub, 1) := by decide +kernel
theorem d_M_settle_52 : decode b_M_settle 52 = .ok (.putfield 83, 3) := by decide +kernel
theorem d_M_settle_55 : decode b_M_settle 55 = .ok (.aload_n 0, 1) := by decide +kernel
theorem d_M_settle_56 : decode b_M_settle 56 = .ok (.aload_n 0, 1) := by decide +kernel
theorem d_M_settle_57 : decode b_M_settle 57 = .ok (.getfield 77, 3) := by decide +kernel
theorem d_M_settle_60 : decode b_M_settle 60 = .ok (.aload_n 0, 1) := by decide +kernel
theorem d_M_settle_61 : decode b_M_settle 61 = .ok (.getfield 83, 3) := by decide +kernel
theorem d_M_settle_64 : decode b_M_settle 64 = .ok (.iaload, 1) := by decide +kernel
theorem d_M_settle_65 : decode b_M_settle 65 = .ok (.ineg, 1) := by decide +kernel
theorem d_M_settle_66 : decode b_M_settle 66 = .ok (.invokevirtual 237, 3) := by decide +kernel
theorem d_M_settle_69 : decode b_M_settle 69 = .ok (.goto (-69), 3) := by decide +kernel
theorem d_M_settle_72 : decode b_M_settle 72 = .ok (.return_, 1) := by decide +kernel
theorem d_M_place_0 : decode b_M_place 0 = .ok (.iload_n 1, 1) := by decide +kernel
theorem d_M_place_1 : decode b_M_place 1 = .ok (.tableswitch 103 100 118 #[99, 103, 101, 97, 103, 103, 103, 93, 103, 103, 103, 103, 91, 103, 103, 103, 103, 103, 95], 91) := by decide +kernel
theorem d_M_place_92 : decode b_M_place 92 = .ok (.iconst 0, 1) := by decide +kernel
theorem d_M_place_93 : decode b_M_place 93 = .ok (.ireturn, 1) := by decide +kernel
theorem d_M_place_94 : decode b_M_place 94 = .ok (.iconst 1, 1) := by decide +kernel
theorem d_M_place_95 : decode b_M_place 95 = .ok (.ireturn, 1) := by decide +kernel
theorem d_M_place_96 : decode b_M_place 96 = .ok (.iconst 2, 1) := by decide +kernel
theorem d_M_place_97 : decode b_M_place 97 = .ok (.ireturn, 1) := by decide +kernel
theorem d_M_place_98 : decode b_M_place 98 = .ok (.iconst 3, 1) := by decide +kernel
theorem d_M_place_99 : decode b_M_place 99 = .ok (.ireturn, 1) := by decide +kernel
theorem d_M_place_100 : decode b_M_place 100 = .ok (.iconst 4, 1) := by decide +kernel
theorem d_M_place_101 : decode b_M_place 101 = .ok (.ireturn, 1) := by decide +kernel
theorem d_M_place_102 : decode b_M_place 102 = .ok (.iconst 5, 1) := by decide +kernel
theorem d_M_place_103 : decode b_M_place 103 = .ok (.ireturn, 1) := by decide +kernel
theorem d_M_place_104 : decode b_M_place 104 = .ok (.iconst (-1), 1) := by decide +kernel
theorem d_M_place_105 : decode b_M_place 105 = .ok (.ireturn, 1) := by decide +kernel
theorem d_M_takesTest_0 : decode b_M_takesTest 0 = .ok (.aload_n 0, 1) := by decide +kernel
theorem d_M_takesTest_1 : decode b_M_takesTest 1 = .ok (.aload_n 0, 1) := by decide +kernel
theorem d_M_takesTest_2 : decode b_M_takesTest 2 = .ok (.invokevirtual 226, 3) := by decide +kernel
theorem d_M_takesTest_5 : decode b_M_takesTest 5 = .ok (.invokevirtual 241, 3) := by decide +kernel
theorem d_M_takesTest_8 : decode b_M_takesTest 8 = .ok (.istore_n 1, 1) := by decide +kernel
theorem d_M_takesTest_9 : decode b_M_takesTest 9 = .ok (.iload_n 1, 1) := by decide +kernel
theorem d_M_takesTest_10 : decode b_M_takesTest 10 = .ok (.ifCond .ge 5, 3) := by decide +kernel
theorem d_M_takesTest_13 : decode b_M_takesTest 13 = .ok (.iconst 0, 1) := by decide +kernel
theorem d_M_takesTest_14 : decode b_M_takesTest 14 = .ok (.ireturn, 1) := by decide +kernel
theorem d_M_takesTest_15 : decode b_M_takesTest 15 = .ok (.aload_n 0, 1) := by decide +kernel
theorem d_M_takesTest_16 : decode b_M_takesTest 16 = .ok (.dup, 1) := by decide +kernel
theorem d_M_takesTest_17 : decode b_M_takesTest 17 = .ok (.getfield 50, 3) := by decide +kernel
theorem d_M_takesTest_20 : decode b_M_takesTest 20 = .ok (.iconst 1, 1) := by decide +kernel
theorem d_M_takesTest_21 : decode b_M_takesTest 21 = .ok (.iadd, 1) := by decide +kernel
theorem d_M_takesTest_22 : decode b_M_takesTest 22 = .ok (.putfield 50, 3) := by decide +kernel
theorem d_M_takesTest_25 : decode b_M_takesTest 25 = .ok (.aload_n 0, 1) := by decide +kernel
theorem d_M_takesTest_26 : decode b_M_takesTest 26 = .ok (.invokevirtual 226, 3) := by decide +kernel
theorem d_M_takesTest_29 : decode b_M_takesTest 29 = .ok (.istore_n 2, 1) := by decide +kernel
theorem d_M_takesTest_30 : decode b_M_takesTest 30 = .ok (.aload_n 0, 1) := by decide +kernel
theorem d_M_takesTest_31 : decode b_M_takesTest 31 = .ok (.iload_n 2, 1) := by decide +kernel
theorem d_M_takesTest_32 : decode b_M_takesTest 32 = .ok (.bipush 60, 2) := by decide +kernel
theorem d_M_takesTest_34 : decode b_M_takesTest 34 = .ok (.bipush 62, 2) := by decide +kernel
theorem d_M_takesTest_36 : decode b_M_takesTest 36 = .ok (.invokevirtual 218, 3) := by decide +kernel
theorem d_M_takesTest_39 : decode b_M_takesTest 39 = .ok (.ifCond .ne 5, 3) := by decide +kernel
theorem d_M_takesTest_42 : decode b_M_takesTest 42 = .ok (.iconst 0, 1) := by decide +kernel
theorem d_M_takesTest_43 : decode b_M_takesTest 43 = .ok (.ireturn, 1) := by decide +kernel
theorem d_M_takesTest_44 : decode b_M_takesTest 44 = .ok (.aload_n 0, 1) := by decide +kernel
theorem d_M_takesTest_45 : decode b_M_takesTest 45 = .ok (.dup, 1) := by decide +kernel
theorem d_M_takesTest_46 : decode b_M_takesTest 46 = .ok (.getfield 50, 3) := by decide +kernel
theorem d_M_takesTest_49 : decode b_M_takesTest 49 = .ok (.iconst 1, 1) := by decide +kernel
theorem d_M_takesTest_50 : decode b_M_takesTest 50 = .ok (.iadd, 1) := by decide +kernel
theorem d_M_takesTest_51 : decode b_M_takesTest 51 = .ok (.putfield 50, 3) := by decide +kernel
theorem d_M_takesTest_54 : decode b_M_takesTest 54 = .ok (.aload_n 0, 1) := by decide +kernel
theorem d_M_takesTest_55 : decode b_M_takesTest 55 = .ok (.invokevirtual 245, 3) := by decide +kernel
theorem d_M_takesTest_58 : decode b_M_takesTest 58 = .ok (.ifCond .ne 5, 3) := by decide +kernel
theorem d_M_takesTest_61 : decode b_M_takesTest 61 = .ok (.iconst 0, 1) := by decide +kernel
theorem d_M_takesTest_62 : decode b_M_takesTest 62 = .ok (.ireturn, 1) := by decide +kernel
theorem d_M_takesTest_63 : decode b_M_takesTest 63 = .ok (.aload_n 0, 1) := by decide +kernel
theorem d_M_takesTest_64 : decode b_M_takesTest 64 = .ok (.sipush 1000, 3) := by decide +kernel
theorem d_M_takesTest_67 : decode b_M_takesTest 67 = .ok (.iload_n 1, 1) := by decide +kernel
theorem d_M_takesTest_68 : decode b_M_takesTest 68 = .ok (.imul, 1) := by decide +kernel
theorem d_M_takesTest_69 : decode b_M_takesTest 69 = .ok (.bipush 100, 2) := by decide +kernel
theorem d_M_takesTest_71 : decode b_M_takesTest 71 = .ok (.iload_n 2, 1) := by decide +kernel
theorem d_M_takesTest_72 : decode b_M_takesTest 72 = .ok (.bipush 60, 2) := by decide +kernel
theorem d_M_takesTest_74 : decode b_M_takesTest 74 = .ok (.isub, 1) := by decide +kernel
theorem d_M_takesTest_75 : decode b_M_takesTest 75 = .ok (.imul, 1) := by decide +kernel
theorem d_M_takesTest_76 : decode b_M_takesTest 76 = .ok (.iadd, 1) := by decide +kernel
theorem d_M_takesTest_77 : decode b_M_takesTest 77 = .ok (.aload_n 0, 1) := by decide +kernel
theorem d_M_takesTest_78 : decode b_M_takesTest 78 = .ok (.getfield 53, 3) := by decide +kernel
theorem d_M_takesTest_81 : decode b_M_takesTest 81 = .ok (.iadd, 1) := by decide +kernel
theorem d_M_takesTest_82 : decode b_M_takesTest 82 = .ok (.invokevirtual 237, 3) := by decide +kernel
theorem d_M_takesTest_85 : decode b_M_takesTest 85 = .ok (.aload_n 0, 1) := by decide +kernel
theorem d_M_takesTest_86 : decode b_M_takesTest 86 = .ok (.invokevirtual 248, 3) := by decide +kernel
theorem d_M_takesTest_89 : decode b_M_takesTest 89 = .ok (.iconst 1, 1) := by decide +kernel
theorem d_M_takesTest_90 : decode b_M_takesTest 90 = .ok (.ireturn, 1) := by decide +kernel
theorem d_M_takesE_0 : decode b_M_takesE 0 = .ok (.aload_n 0, 1) := by decide +kernel
theorem d_M_takesE_1 : decode b_M_takesE 1 = .ok (.iconst 0, 1) := by decide +kernel
theorem d_M_takesE_2 : decode b_M_takesE 2 = .ok (.putfield 83, 3) := by decide +kernel
theorem d_M_takesE_5 : decode b_M_takesE 5 = .ok (.aload_n 0, 1) := by decide +kernel
theorem d_M_takesE_6 : decode b_M_takesE 6 = .ok (.iconst 0, 1) := by decide +kernel
theorem d_M_takesE_7 : decode b_M_takesE 7 = .ok (.putfield 86, 3) := by decide +kernel
theorem d_M_takesE_10 : decode b_M_takesE 10 = .ok (.aload_n 0, 1) := by decide +kernel
theorem d_M_takesE_11 : decode b_M_takesE 11 = .ok (.getfield 68, 3) := by decide +kernel
theorem d_M_takesE_14 : decode b_M_takesE 14 = .ok (.iload_n 1, 1) := by decide +kernel
theorem d_M_takesE_15 : decode b_M_takesE 15 = .ok (.aload_n 0, 1) := by decide +kernel
theorem d_M_takesE_16 : decode b_M_takesE 16 = .ok (.getfield 80, 3) := by decide +kernel
theorem d_M_takesE_19 : decode b_M_takesE 19 = .ok (.iastore, 1) := by decide +kernel
theorem d_M_takesE_20 : decode b_M_takesE 20 = .ok (.iconst 1, 1) := by decide +kernel
theorem d_M_takesE_21 : decode b_M_takesE 21 = .ok (.istore_n 2, 1) := by decide +kernel
theorem d_M_takesE_22 : decode b_M_takesE 22 = .ok (.aload_n 0, 1) := by decide +kernel
theorem d_M_takesE_23 : decode b_M_takesE 23 = .ok (.invokevirtual 226, 3) := by decide +kernel
theorem d_M_takesE_26 : decode b_M_takesE 26 = .ok (.istore_n 3, 1) := by decide +kernel
theorem d_M_takesE_27 : decode b_M_takesE 27 = .ok (.iload_n 2, 1) := by decide +kernel
theorem d_M_takesE_28 : decode b_M_takesE 28 = .ok (.ifCond .eq 82, 3) := by decide +kernel
theorem d_M_takesE_31 : decode b_M_takesE 31 = .ok (.iload_n 3, 1) := by decide +kernel
theorem d_M_takesE_32 : decode b_M_takesE 32 = .ok (.bipush 33, 2) := by decide +kernel
theorem d_M_takesE_34 : decode b_M_takesE 34 = .ok (.if_icmp .eq 9, 3) := by decide +kernel
theorem d_M_takesE_37 : decode b_M_takesE 37 = .ok (.iload_n 3, 1) := by decide +kernel
theorem d_M_takesE_38 : decode b_M_takesE 38 = .ok (.bipush 40, 2) := by decide +kernel
theorem d_M_takesE_40 : decode b_M_takesE 40 = .ok (.if_icmp .ne 56, 3) := by decide +kernel
theorem d_M_takesE_43 : decode b_M_takesE 43 = .ok (.aload_n 0, 1) := by decide +kernel
theorem d_M_takesE_44 : decode b_M_takesE 44 = .ok (.getfield 86, 3) := by decide +kernel
theorem d_M_takesE_47 : decode b_M_takesE 47 = .ok (.iconst 4, 1) := by decide +kernel
theorem d_M_takesE_48 : decode b_M_takesE 48 = .ok (.if_icmp .ne 5, 3) := by decide +kernel
theorem d_M_takesE_51 : decode b_M_takesE 51 = .ok (.iconst 0, 1) := by decide +kernel
theorem d_M_takesE_52 : decode b_M_takesE 52 = .ok (.ireturn, 1) := by decide +kernel
theorem d_M_takesE_53 : decode b_M_takesE 53 = .ok (.aload_n 0, 1) := by decide +kernel
theorem d_M_takesE_54 : decode b_M_takesE 54 = .ok (.dup, 1) := by decide +kernel
theorem d_M_takesE_55 : decode b_M_takesE 55 = .ok (.getfield 86, 3) := by decide +kernel
theorem d_M_takesE_58 : decode b_M_takesE 58 = .ok (.iconst 1, 1) := by decide +kernel
theorem d_M_takesE_59 : decode b_M_takesE 59 = .ok (.iadd, 1) := by decide +kernel
theorem d_M_takesE_60 : decode b_M_takesE 60 = .ok (.putfield 86, 3) := by decide +kernel
theorem d_M_takesE_63 : decode b_M_takesE 63 = .ok (.aload_n 0, 1) := by decide +kernel
theorem d_M_takesE_64 : decode b_M_takesE 64 = .ok (.getfield 77, 3) := by decide +kernel
theorem d_M_takesE_67 : decode b_M_takesE 67 = .ok (.aload_n 0, 1) := by decide +kernel
theorem d_M_takesE_68 : decode b_M_takesE 68 = .ok (.getfield 83, 3) := by decide +kernel
theorem d_M_takesE_71 : decode b_M_takesE 71 = .ok (.iload_n 3, 1) := by decide +kernel
theorem d_M_takesE_72 : decode b_M_takesE 72 = .ok (.iastore, 1) := by decide +kernel
theorem d_M_takesE_73 : decode b_M_takesE 73 = .ok (.aload_n 0, 1) := by decide +kernel
theorem d_M_takesE_74 : decode b_M_takesE 74 = .ok (.dup, 1) := by decide +kernel
theorem d_M_takesE_75 : decode b_M_takesE 75 = .ok (.getfield 83, 3) := by decide +kernel
theorem d_M_takesE_78 : decode b_M_takesE 78 = .ok (.iconst 1, 1) := by decide +kernel
theorem d_M_takesE_79 : decode b_M_takesE 79 = .ok (.iadd, 1) := by decide +kernel
theorem d_M_takesE_80 : decode b_M_takesE 80 = .ok (.putfield 83, 3) := by decide +kernel
theorem d_M_takesE_83 : decode b_M_takesE 83 = .ok (.aload_n 0, 1) := by decide +kernel
theorem d_M_takesE_84 : decode b_M_takesE 84 = .ok (.dup, 1) := by decide +kernel
theorem d_M_takesE_85 : decode b_M_takesE 85 = .ok (.getfield 50, 3) := by decide +kernel
theorem d_M_takesE_88 : decode b_M_takesE 88 = .ok (.iconst 1, 1) := by decide +kernel
theorem d_M_takesE_89 : decode b_M_takesE 89 = .ok (.iadd, 1) := by decide +kernel
theorem d_M_takesE_90 : decode b_M_takesE 90 = .ok (.putfield 50, 3) := by decide +kernel
theorem d_M_takesE_93 : decode b_M_takesE 93 = .ok (.goto (-71), 3) := by decide +kernel
theorem d_M_takesE_96 : decode b_M_takesE 96 = .ok (.aload_n 0, 1) := by decide +kernel
theorem d_M_takesE_97 : decode b_M_takesE 97 = .ok (.invokevirtual 251, 3) := by decide +kernel
theorem d_M_takesE_100 : decode b_M_takesE 100 = .ok (.ifCond .eq 8, 3) := by decide +kernel
theorem d_M_takesE_103 : decode b_M_takesE 103 = .ok (.iconst 0, 1) := by decide +kernel
theorem d_M_takesE_104 : decode b_M_takesE 104 = .ok (.istore_n 2, 1) := by decide +kernel
theorem d_M_takesE_105 : decode b_M_takesE 105 = .ok (.goto (-83), 3) := by decide +kernel
theorem d_M_takesE_108 : decode b_M_takesE 108 = .ok (.iconst 0, 1) := by decide +kernel
theorem d_M_takesE_109 : decode b_M_takesE 109 = .ok (.ireturn, 1) := by decide +kernel
theorem d_M_takesE_110 : decode b_M_takesE 110 = .ok (.iload_n 3, 1) := by decide +kernel
theorem d_M_takesE_111 : decode b_M_takesE 111 = .ok (.bipush 38, 2) := by decide +kernel
theorem d_M_takesE_113 : decode b_M_takesE 113 = .ok (.if_icmp .eq 9, 3) := by decide +kernel
theorem d_M_takesE_116 : decode b_M_takesE 116 = .ok (.iload_n 3, 1) := by decide +kernel
theorem d_M_takesE_117 : decode b_M_takesE 117 = .ok (.bipush 124, 2) := by decide +kernel
theorem d_M_takesE_119 : decode b_M_takesE 119 = .ok (.if_icmp .ne 43, 3) := by decide +kernel
theorem d_M_takesE_122 : decode b_M_takesE 122 = .ok (.aload_n 0, 1) := by decide +kernel
theorem d_M_takesE_123 : decode b_M_takesE 123 = .ok (.iload_n 3, 1) := by decide +kernel
theorem d_M_takesE_124 : decode b_M_takesE 124 = .ok (.invokevirtual 254, 3) := by decide +kernel
theorem d_M_takesE_127 : decode b_M_takesE 127 = .ok (.aload_n 0, 1) := by decide +kernel
theorem d_M_takesE_128 : decode b_M_takesE 128 = .ok (.getfield 77, 3) := by decide +kernel
theorem d_M_takesE_131 : decode b_M_takesE 131 = .ok (.aload_n 0, 1) := by decide +kernel
theorem d_M_takesE_132 : decode b_M_takesE 132 = .ok (.getfield 83, 3) := by decide +kernel
theorem d_M_takesE_135 : decode b_M_takesE 135 = .ok (.iload_n 3, 1) := by decide +kernel
theorem d_M_takesE_136 : decode b_M_takesE 136 = .ok (.iastore, 1) := by decide +kernel
theorem d_M_takesE_137 : decode b_M_takesE 137 = .ok (.aload_n 0, 1) := by decide +kernel
theorem d_M_takesE_138 : decode b_M_takesE 138 = .ok (.dup, 1) := by decide +kernel
theorem d_M_takesE_139 : decode b_M_takesE 139 = .ok (.getfield 83, 3) := by decide +kernel
theorem d_M_takesE_142 : decode b_M_takesE 142 = .ok (.iconst 1, 1) := by decide +kernel
theorem d_M_takesE_143 : decode b_M_takesE 143 = .ok (.iadd, 1) := by decide +kernel
theorem d_M_takesE_144 : decode b_M_takesE 144 = .ok (.putfield 83, 3) := by decide +kernel
theorem d_M_takesE_147 : decode b_M_takesE 147 = .ok (.iconst 1, 1) := by decide +kernel
theorem d_M_takesE_148 : decode b_M_takesE 148 = .ok (.istore_n 2, 1) := by decide +kernel
theorem d_M_takesE_149 : decode b_M_takesE 149 = .ok (.aload_n 0, 1) := by decide +kernel
theorem d_M_takesE_150 : decode b_M_takesE 150 = .ok (.dup, 1) := by decide +kernel
theorem d_M_takesE_151 : decode b_M_takesE 151 = .ok (.getfield 50, 3) := by decide +kernel
theorem d_M_takesE_154 : decode b_M_takesE 154 = .ok (.iconst 1, 1) := by decide +kernel
theorem d_M_takesE_155 : decode b_M_takesE 155 = .ok (.iadd, 1) := by decide +kernel
theorem d_M_takesE_156 : decode b_M_takesE 156 = .ok (.putfield 50, 3) := by decide +kernel
theorem d_M_takesE_159 : decode b_M_takesE 159 = .ok (.goto (-137), 3) := by decide +kernel
theorem d_M_takesE_162 : decode b_M_takesE 162 = .ok (.aload_n 0, 1) := by decide +kernel
theorem d_M_takesE_163 : decode b_M_takesE 163 = .ok (.bipush 124, 2) := by decide +kernel
theorem d_M_takesE_165 : decode b_M_takesE 165 = .ok (.invokevirtual 254, 3) := by decide +kernel
theorem d_M_takesE_168 : decode b_M_takesE 168 = .ok (.aload_n 0, 1) := by decide +kernel
theorem d_M_takesE_169 : decode b_M_takesE 169 = .ok (.getfield 71, 3) := by decide +kernel
theorem d_M_takesE_172 : decode b_M_takesE 172 = .ok (.iload_n 1, 1) := by decide +kernel
theorem d_M_takesE_173 : decode b_M_takesE 173 = .ok (.aload_n 0, 1) := by decide +kernel
theorem d_M_takesE_174 : decode b_M_takesE 174 = .ok (.getfield 80, 3) := by decide +kernel
theorem d_M_takesE_177 : decode b_M_takesE 177 = .ok (.iastore, 1) := by decide +kernel
theorem d_M_takesE_178 : decode b_M_takesE 178 = .ok (.aload_n 0, 1) := by decide +kernel
theorem d_M_takesE_179 : decode b_M_takesE 179 = .ok (.getfield 83, 3) := by decide +kernel
theorem d_M_takesE_182 : decode b_M_takesE 182 = .ok (.ifCond .ne 5, 3) := by decide +kernel
theorem d_M_takesE_185 : decode b_M_takesE 185 = .ok (.iconst 1, 1) := by decide +kernel
theorem d_M_takesE_186 : decode b_M_takesE 186 = .ok (.ireturn, 1) := by decide +kernel
theorem d_M_takesE_187 : decode b_M_takesE 187 = .ok (.iload_n 3, 1) := by decide +kernel
theorem d_M_takesE_188 : decode b_M_takesE 188 = .ok (.bipush 41, 2) := by decide +kernel
theorem d_M_takesE_190 : decode b_M_takesE 190 = .ok (.if_icmp .eq 5, 3) := by decide +kernel
theorem d_M_takesE_193 : decode b_M_takesE 193 = .ok (.iconst 0, 1) := by decide +kernel
theorem d_M_takesE_194 : decode b_M_takesE 194 = .ok (.ireturn, 1) := by decide +kernel
theorem d_M_takesE_195 : decode b_M_takesE 195 = .ok (.aload_n 0, 1) := by decide +kernel
theorem d_M_takesE_196 : decode b_M_takesE 196 = .ok (.dup, 1) := by decide +kernel
theorem d_M_takesE_197 : decode b_M_takesE 197 = .ok (.getfield 83, 3) := by decide +kernel
theorem d_M_takesE_200 : decode b_M_takesE 200 = .ok (.iconst 1, 1) := by decide +kernel
theorem d_M_takesE_201 : decode b_M_takesE 201 = .ok (.isub, 1) := by decide +kernel
theorem d_M_takesE_202 : decode b_M_takesE 202 = .ok (.putfield 83, 3) := by decide +kernel
theorem d_M_takesE_205 : decode b_M_takesE 205 = .ok (.aload_n 0, 1) := by decide +kernel
theorem d_M_takesE_206 : decode b_M_takesE 206 = .ok (.dup, 1) := by decide +kernel
theorem d_M_takesE_207 : decode b_M_takesE 207 = .ok (.getfield 86, 3) := by decide +kernel
theorem d_M_takesE_210 : decode b_M_takesE 210 = .ok (.iconst 1, 1) := by decide +kernel
theorem d_M_takesE_211 : decode b_M_takesE 211 = .ok (.isub, 1) := by decide +kernel
theorem d_M_takesE_212 : decode b_M_takesE 212 = .ok (.putfield 86, 3) := by decide +kernel
theorem d_M_takesE_215 : decode b_M_takesE 215 = .ok (.aload_n 0, 1) := by decide +kernel
theorem d_M_takesE_216 : decode b_M_takesE 216 = .ok (.dup, 1) := by decide +kernel
theorem d_M_takesE_217 : decode b_M_takesE 217 = .ok (.getfield 50, 3) := by decide +kernel
theorem d_M_takesE_220 : decode b_M_takesE 220 = .ok (.iconst 1, 1) := by decide +kernel
theorem d_M_takesE_221 : decode b_M_takesE 221 = .ok (.iadd, 1) := by decide +kernel
theorem d_M_takesE_222 : decode b_M_takesE 222 = .ok (.putfield 50, 3) := by decide +kernel
theorem d_M_takesE_225 : decode b_M_takesE 225 = .ok (.aload_n 0, 1) := by decide +kernel
theorem d_M_takesE_226 : decode b_M_takesE 226 = .ok (.invokevirtual 248, 3) := by decide +kernel
theorem d_M_takesE_229 : decode b_M_takesE 229 = .ok (.goto (-207), 3) := by decide +kernel
theorem d_M_takesHead_0 : decode b_M_takesHead 0 = .ok (.aload_n 0, 1) := by decide +kernel
theorem d_M_takesHead_1 : decode b_M_takesHead 1 = .ok (.invokevirtual 226, 3) := by decide +kernel
theorem d_M_takesHead_4 : decode b_M_takesHead 4 = .ok (.lookupswitch 79 #[(102, 64), (108, 50), (119, 36)], 36) := by decide +kernel
theorem d_M_takesHead_40 : decode b_M_takesHead 40 = .ok (.aload_n 0, 1) := by decide +kernel
theorem d_M_takesHead_41 : decode b_M_takesHead 41 = .ok (.getfield 62, 3) := by decide +kernel
theorem d_M_takesHead_44 : decode b_M_takesHead 44 = .ok (.iload_n 1, 1) := by decide +kernel
theorem d_M_takesHead_45 : decode b_M_takesHead 45 = .ok (.iconst 0, 1) := by decide +kernel
theorem d_M_takesHead_46 : decode b_M_takesHead 46 = .ok (.iastore, 1) := by decide +kernel
theorem d_M_takesHead_47 : decode b_M_takesHead 47 = .ok (.aload_n 0, 1) := by decide +kernel
theorem d_M_takesHead_48 : decode b_M_takesHead 48 = .ok (.iconst 0, 1) := by decide +kernel
theorem d_M_takesHead_49 : decode b_M_takesHead 49 = .ok (.iconst 4, 1) := by decide +kernel
theorem d_M_takesHead_50 : decode b_M_takesHead 50 = .ok (.invokevirtual 257, 3) := by decide +kernel
theorem d_M_takesHead_53 : decode b_M_takesHead 53 = .ok (.ireturn, 1) := by decide +kernel
theorem d_M_takesHead_54 : decode b_M_takesHead 54 = .ok (.aload_n 0, 1) := by decide +kernel
theorem d_M_takesHead_55 : decode b_M_takesHead 55 = .ok (.getfield 62, 3) := by decide +kernel
theorem d_M_takesHead_58 : decode b_M_takesHead 58 = .ok (.iload_n 1, 1) := by decide +kernel
theorem d_M_takesHead_59 : decode b_M_takesHead 59 = .ok (.iconst 1, 1) := by decide +kernel
theorem d_M_takesHead_60 : decode b_M_takesHead 60 = .ok (.iastore, 1) := by decide +kernel
theorem d_M_takesHead_61 : decode b_M_takesHead 61 = .ok (.aload_n 0, 1) := by decide +kernel
theorem d_M_takesHead_62 : decode b_M_takesHead 62 = .ok (.iconst 4, 1) := by decide +kernel
theorem d_M_takesHead_63 : decode b_M_takesHead 63 = .ok (.iconst 5, 1) := by decide +kernel
theorem d_M_takesHead_64 : decode b_M_takesHead 64 = .ok (.invokevirtual 257, 3) := by decide +kernel
theorem d_M_takesHead_67 : decode b_M_takesHead 67 = .ok (.ireturn, 1) := by decide +kernel
theorem d_M_takesHead_68 : decode b_M_takesHead 68 = .ok (.aload_n 0, 1) := by decide +kernel
theorem d_M_takesHead_69 : decode b_M_takesHead 69 = .ok (.getfield 62, 3) := by decide +kernel
theorem d_M_takesHead_72 : decode b_M_takesHead 72 = .ok (.iload_n 1, 1) := by decide +kernel
theorem d_M_takesHead_73 : decode b_M_takesHead 73 = .ok (.iconst 2, 1) := by decide +kernel
theorem d_M_takesHead_74 : decode b_M_takesHead 74 = .ok (.iastore, 1) := by decide +kernel
theorem d_M_takesHead_75 : decode b_M_takesHead 75 = .ok (.aload_n 0, 1) := by decide +kernel
theorem d_M_takesHead_76 : decode b_M_takesHead 76 = .ok (.bipush 9, 2) := by decide +kernel
theorem d_M_takesHead_78 : decode b_M_takesHead 78 = .ok (.iconst 4, 1) := by decide +kernel
theorem d_M_takesHead_79 : decode b_M_takesHead 79 = .ok (.invokevirtual 257, 3) := by decide +kernel
theorem d_M_takesHead_82 : decode b_M_takesHead 82 = .ok (.ireturn, 1) := by decide +kernel
theorem d_M_takesHead_83 : decode b_M_takesHead 83 = .ok (.aload_n 0, 1) := by decide +kernel
theorem d_M_takesHead_84 : decode b_M_takesHead 84 = .ok (.getfield 62, 3) := by decide +kernel
theorem d_M_takesHead_87 : decode b_M_takesHead 87 = .ok (.iload_n 1, 1) := by decide +kernel
theorem d_M_takesHead_88 : decode b_M_takesHead 88 = .ok (.iconst 3, 1) := by decide +kernel
theorem d_M_takesHead_89 : decode b_M_takesHead 89 = .ok (.iastore, 1) := by decide +kernel
theorem d_M_takesHead_90 : decode b_M_takesHead 90 = .ok (.aload_n 0, 1) := by decide +kernel
theorem d_M_takesHead_91 : decode b_M_takesHead 91 = .ok (.bipush 13, 2) := by decide +kernel
theorem d_M_takesHead_93 : decode b_M_takesHead 93 = .ok (.iconst 3, 1) := by decide +kernel
theorem d_M_takesHead_94 : decode b_M_takesHead 94 = .ok (.invokevirtual 257, 3) := by decide +kernel
theorem d_M_takesHead_97 : decode b_M_takesHead 97 = .ok (.ireturn, 1) := by decide +kernel
theorem d_M_takesClause_0 : decode b_M_takesClause 0 = .ok (.aload_n 0, 1) := by decide +kernel
theorem d_M_takesClause_1 : decode b_M_takesClause 1 = .ok (.iload_n 1, 1) := by decide +kernel
theorem d_M_takesClause_2 : decode b_M_takesClause 2 = .ok (.invokevirtual 261, 3) := by decide +kernel
theorem d_M_takesClause_5 : decode b_M_takesClause 5 = .ok (.ifCond .eq 10, 3) := by decide +kernel
theorem d_M_takesClause_8 : decode b_M_takesClause 8 = .ok (.aload_n 0, 1) := by decide +kernel
theorem d_M_takesClause_9 : decode b_M_takesClause 9 = .ok (.invokevirtual 245, 3) := by decide +kernel
theorem d_M_takesClause_12 : decode b_M_takesClause 12 = .ok (.ifCond .ne 5, 3) := by decide +kernel
theorem d_M_takesClause_15 : decode b_M_takesClause 15 = .ok (.iconst 0, 1) := by decide +kernel
theorem d_M_takesClause_16 : decode b_M_takesClause 16 = .ok (.ireturn, 1) := by decide +kernel
theorem d_M_takesClause_17 : decode b_M_takesClause 17 = .ok (.aload_n 0, 1) := by decide +kernel
theorem d_M_takesClause_18 : decode b_M_takesClause 18 = .ok (.getfield 65, 3) := by decide +kernel
theorem d_M_takesClause_21 : decode b_M_takesClause 21 = .ok (.iload_n 1, 1) := by decide +kernel
theorem d_M_takesClause_22 : decode b_M_takesClause 22 = .ok (.aload_n 0, 1) := by decide +kernel
theorem d_M_takesClause_23 : decode b_M_takesClause 23 = .ok (.getfield 53, 3) := by decide +kernel
theorem d_M_takesClause_26 : decode b_M_takesClause 26 = .ok (.iastore, 1) := by decide +kernel
theorem d_M_takesClause_27 : decode b_M_takesClause 27 = .ok (.aload_n 0, 1) := by decide +kernel
theorem d_M_takesClause_28 : decode b_M_takesClause 28 = .ok (.getfield 62, 3) := by decide +kernel
theorem d_M_takesClause_31 : decode b_M_takesClause 31 = .ok (.iload_n 1, 1) := by decide +kernel
theorem d_M_takesClause_32 : decode b_M_takesClause 32 = .ok (.iaload, 1) := by decide +kernel
theorem d_M_takesClause_33 : decode b_M_takesClause 33 = .ok (.iconst 1, 1) := by decide +kernel
theorem d_M_takesClause_34 : decode b_M_takesClause 34 = .ok (.if_icmp .eq 30, 3) := by decide +kernel
theorem d_M_takesClause_37 : decode b_M_takesClause 37 = .ok (.aload_n 0, 1) := by decide +kernel
theorem d_M_takesClause_38 : decode b_M_takesClause 38 = .ok (.getfield 62, 3) := by decide +kernel
theorem d_M_takesClause_41 : decode b_M_takesClause 41 = .ok (.iload_n 1, 1) := by decide +kernel
theorem d_M_takesClause_42 : decode b_M_takesClause 42 = .ok (.iaload, 1) := by decide +kernel
theorem d_M_takesClause_43 : decode b_M_takesClause 43 = .ok (.iconst 2, 1) := by decide +kernel
theorem d_M_takesClause_44 : decode b_M_takesClause 44 = .ok (.if_icmp .eq 20, 3) := by decide +kernel
theorem d_M_takesClause_47 : decode b_M_takesClause 47 = .ok (.aload_n 0, 1) := by decide +kernel
theorem d_M_takesClause_48 : decode b_M_takesClause 48 = .ok (.bipush 32, 2) := by decide +kernel
theorem d_M_takesClause_50 : decode b_M_takesClause 50 = .ok (.invokevirtual 230, 3) := by decide +kernel
theorem d_M_takesClause_53 : decode b_M_takesClause 53 = .ok (.ifCond .eq 15, 3) := by decide +kernel
theorem d_M_takesClause_56 : decode b_M_takesClause 56 = .ok (.aload_n 0, 1) := by decide +kernel
theorem d_M_takesClause_57 : decode b_M_takesClause 57 = .ok (.iload_n 1, 1) := by decide +kernel
theorem d_M_takesClause_58 : decode b_M_takesClause 58 = .ok (.invokevirtual 264, 3) := by decide +kernel
theorem d_M_takesClause_61 : decode b_M_takesClause 61 = .ok (.ifCond .eq 7, 3) := by decide +kernel
theorem d_M_takesClause_64 : decode b_M_takesClause 64 = .ok (.iconst 1, 1) := by decide +kernel
theorem d_M_takesClause_65 : decode b_M_takesClause 65 = .ok (.goto 4, 3) := by decide +kernel
theorem d_M_takesClause_68 : decode b_M_takesClause 68 = .ok (.iconst 0, 1) := by decide +kernel
theorem d_M_takesClause_69 : decode b_M_takesClause 69 = .ok (.ireturn, 1) := by decide +kernel
theorem d_M_goesText_0 : decode b_M_goesText 0 = .ok (.aload_n 0, 1) := by decide +kernel
theorem d_M_goesText_1 : decode b_M_goesText 1 = .ok (.iconst 0, 1) := by decide +kernel
theorem d_M_goesText_2 : decode b_M_goesText 2 = .ok (.putfield 50, 3) := by decide +kernel
theorem d_M_goesText_5 : decode b_M_goesText 5 = .ok (.aload_n 0, 1) := by decide +kernel
theorem d_M_goesText_6 : decode b_M_goesText 6 = .ok (.bipush 100, 2) := by decide +kernel
theorem d_M_goesText_8 : decode b_M_goesText 8 = .ok (.iload_n 1, 1) := by decide +kernel
theorem d_M_goesText_9 : decode b_M_goesText 9 = .ok (.imul, 1) := by decide +kernel
theorem d_M_goesText_10 : decode b_M_goesText 10 = .ok (.putfield 80, 3) := by decide +kernel
theorem d_M_goesText_13 : decode b_M_goesText 13 = .ok (.iconst 0, 1) := by decide +kernel
theorem d_M_goesText_14 : decode b_M_goesText 14 = .ok (.istore_n 2, 1) := by decide +kernel
theorem d_M_goesText_15 : decode b_M_goesText 15 = .ok (.aload_n 0, 1) := by decide +kernel
theorem d_M_goesText_16 : decode b_M_goesText 16 = .ok (.bipush 10, 2) := by decide +kernel
theorem d_M_goesText_18 : decode b_M_goesText 18 = .ok (.iload_n 1, 1) := by decide +kernel
theorem d_M_goesText_19 : decode b_M_goesText 19 = .ok (.imul, 1) := by decide +kernel
theorem d_M_goesText_20 : decode b_M_goesText 20 = .ok (.iload_n 2, 1) := by decide +kernel
theorem d_M_goesText_21 : decode b_M_goesText 21 = .ok (.iadd, 1) := by decide +kernel
theorem d_M_goesText_22 : decode b_M_goesText 22 = .ok (.invokevirtual 267, 3) := by decide +kernel
theorem d_M_goesText_25 : decode b_M_goesText 25 = .ok (.ifCond .ne 5, 3) := by decide +kernel
theorem d_M_goesText_28 : decode b_M_goesText 28 = .ok (.iconst 0, 1) := by decide +kernel
theorem d_M_goesText_29 : decode b_M_goesText 29 = .ok (.ireturn, 1) := by decide +kernel
theorem d_M_goesText_30 : decode b_M_goesText 30 = .ok (.iinc 2 1, 3) := by decide +kernel
theorem d_M_goesText_33 : decode b_M_goesText 33 = .ok (.aload_n 0, 1) := by decide +kernel
theorem d_M_goesText_34 : decode b_M_goesText 34 = .ok (.getfield 59, 3) := by decide +kernel
theorem d_M_goesText_37 : decode b_M_goesText 37 = .ok (.iload_n 1, 1) := by decide +kernel
theorem d_M_goesText_38 : decode b_M_goesText 38 = .ok (.iload_n 2, 1) := by decide +kernel
theorem d_M_goesText_39 : decode b_M_goesText 39 = .ok (.iastore, 1) := by decide +kernel
theorem d_M_goesText_40 : decode b_M_goesText 40 = .ok (.aload_n 0, 1) := by decide +kernel
theorem d_M_goesText_41 : decode b_M_goesText 41 = .ok (.getfield 50, 3) := by decide +kernel
theorem d_M_goesText_44 : decode b_M_goesText 44 = .ok (.aload_n 0, 1) := by decide +kernel
theorem d_M_goesText_45 : decode b_M_goesText 45 = .ok (.getfield 47, 3) := by decide +kernel
theorem d_M_goesText_48 : decode b_M_goesText 48 = .ok (.if_icmp .ne 5, 3) := by decide +kernel
theorem d_M_goesText_51 : decode b_M_goesText 51 = .ok (.iconst 1, 1) := by decide +kernel
theorem d_M_goesText_52 : decode b_M_goesText 52 = .ok (.ireturn, 1) := by decide +kernel
theorem d_M_goesText_53 : decode b_M_goesText 53 = .ok (.iload_n 2, 1) := by decide +kernel
theorem d_M_goesText_54 : decode b_M_goesText 54 = .ok (.bipush 10, 2) := by decide +kernel
theorem d_M_goesText_56 : decode b_M_goesText 56 = .ok (.if_icmp .eq 12, 3) := by decide +kernel
theorem d_M_goesText_59 : decode b_M_goesText 59 = .ok (.aload_n 0, 1) := by decide +kernel
theorem d_M_goesText_60 : decode b_M_goesText 60 = .ok (.bipush 59, 2) := by decide +kernel
theorem d_M_goesText_62 : decode b_M_goesText 62 = .ok (.invokevirtual 230, 3) := by decide +kernel
theorem d_M_goesText_65 : decode b_M_goesText 65 = .ok (.ifCond .ne (-50), 3) := by decide +kernel
theorem d_M_goesText_68 : decode b_M_goesText 68 = .ok (.iconst 0, 1) := by decide +kernel
theorem d_M_goesText_69 : decode b_M_goesText 69 = .ok (.ireturn, 1) := by decide +kernel
theorem d_M_rule_0 : decode b_M_rule 0 = .ok (.aload_n 0, 1) := by decide +kernel
theorem d_M_rule_1 : decode b_M_rule 1 = .ok (.getfield 41, 3) := by decide +kernel
theorem d_M_rule_4 : decode b_M_rule 4 = .ok (.bipush 6, 2) := by decide +kernel
theorem d_M_rule_6 : decode b_M_rule 6 = .ok (.if_icmp .ne 6, 3) := by decide +kernel
theorem d_M_rule_9 : decode b_M_rule 9 = .ok (.bipush (-4), 2) := by decide +kernel
theorem d_M_rule_11 : decode b_M_rule 11 = .ok (.ireturn, 1) := by decide +kernel
theorem d_M_rule_12 : decode b_M_rule 12 = .ok (.aload_n 0, 1) := by decide +kernel
theorem d_M_rule_13 : decode b_M_rule 13 = .ok (.aload_n 0, 1) := by decide +kernel
theorem d_M_rule_14 : decode b_M_rule 14 = .ok (.getfield 41, 3) := by decide +kernel
theorem d_M_rule_17 : decode b_M_rule 17 = .ok (.invokevirtual 270, 3) := by decide +kernel
theorem d_M_rule_20 : decode b_M_rule 20 = .ok (.istore_n 1, 1) := by decide +kernel
theorem d_M_rule_21 : decode b_M_rule 21 = .ok (.aload_n 0, 1) := by decide +kernel
theorem d_M_rule_22 : decode b_M_rule 22 = .ok (.iconst 0, 1) := by decide +kernel
theorem d_M_rule_23 : decode b_M_rule 23 = .ok (.putfield 47, 3) := by decide +kernel
theorem d_M_rule_26 : decode b_M_rule 26 = .ok (.iload_n 1, 1) := by decide +kernel
theorem d_M_rule_27 : decode b_M_rule 27 = .ok (.ifCond .ne 11, 3) := by decide +kernel
theorem d_M_rule_30 : decode b_M_rule 30 = .ok (.bipush (-10), 2) := by decide +kernel
theorem d_M_rule_32 : decode b_M_rule 32 = .ok (.aload_n 0, 1) := by decide +kernel
theorem d_M_rule_33 : decode b_M_rule 33 = .ok (.getfield 50, 3) := by decide +kernel
theorem d_M_rule_36 : decode b_M_rule 36 = .ok (.isub, 1) := by decide +kernel
theorem d_M_rule_37 : decode b_M_rule 37 = .ok (.ireturn, 1) := by decide +kernel
theorem d_M_rule_38 : decode b_M_rule 38 = .ok (.aload_n 0, 1) := by decide +kernel
theorem d_M_rule_39 : decode b_M_rule 39 = .ok (.aload_n 0, 1) := by decide +kernel
theorem d_M_rule_40 : decode b_M_rule 40 = .ok (.getfield 41, 3) := by decide +kernel
theorem d_M_rule_43 : decode b_M_rule 43 = .ok (.putfield 44, 3) := by decide +kernel
theorem d_M_rule_46 : decode b_M_rule 46 = .ok (.aload_n 0, 1) := by decide +kernel
theorem d_M_rule_47 : decode b_M_rule 47 = .ok (.dup, 1) := by decide +kernel
theorem d_M_rule_48 : decode b_M_rule 48 = .ok (.getfield 41, 3) := by decide +kernel
theorem d_M_rule_51 : decode b_M_rule 51 = .ok (.iconst 1, 1) := by decide +kernel
theorem d_M_rule_52 : decode b_M_rule 52 = .ok (.iadd, 1) := by decide +kernel
theorem d_M_rule_53 : decode b_M_rule 53 = .ok (.putfield 41, 3) := by decide +kernel
theorem d_M_rule_56 : decode b_M_rule 56 = .ok (.aload_n 0, 1) := by decide +kernel
theorem d_M_rule_57 : decode b_M_rule 57 = .ok (.getfield 44, 3) := by decide +kernel
theorem d_M_rule_60 : decode b_M_rule 60 = .ok (.ireturn, 1) := by decide +kernel
theorem d_M_begin_0 : decode b_M_begin 0 = .ok (.aload_n 0, 1) := by decide +kernel
theorem d_M_begin_1 : decode b_M_begin 1 = .ok (.getfield 44, 3) := by decide +kernel
theorem d_M_begin_4 : decode b_M_begin 4 = .ok (.ifCond .ge 7, 3) := by decide +kernel
theorem d_M_begin_7 : decode b_M_begin 7 = .ok (.iconst 0, 1) := by decide +kernel
theorem d_M_begin_8 : decode b_M_begin 8 = .ok (.goto 10, 3) := by decide +kernel
theorem d_M_begin_11 : decode b_M_begin 11 = .ok (.bipush 10, 2) := by decide +kernel
theorem d_M_begin_13 : decode b_M_begin 13 = .ok (.aload_n 0, 1) := by decide +kernel
theorem d_M_begin_14 : decode b_M_begin 14 = .ok (.getfield 44, 3) := by decide +kernel
theorem d_M_begin_17 : decode b_M_begin 17 = .ok (.imul, 1) := by decide +kernel
theorem d_M_begin_18 : decode b_M_begin 18 = .ok (.ireturn, 1) := by decide +kernel
theorem d_M_behind_0 : decode b_M_behind 0 = .ok (.aload_n 0, 1) := by decide +kernel
theorem d_M_behind_1 : decode b_M_behind 1 = .ok (.getfield 44, 3) := by decide +kernel
theorem d_M_behind_4 : decode b_M_behind 4 = .ok (.ifCond .ge 7, 3) := by decide +kernel
theorem d_M_behind_7 : decode b_M_behind 7 = .ok (.iconst 0, 1) := by decide +kernel
theorem d_M_behind_8 : decode b_M_behind 8 = .ok (.goto 20, 3) := by decide +kernel
theorem d_M_behind_11 : decode b_M_behind 11 = .ok (.bipush 10, 2) := by decide +kernel
theorem d_M_behind_13 : decode b_M_behind 13 = .ok (.aload_n 0, 1) := by decide +kernel
theorem d_M_behind_14 : decode b_M_behind 14 = .ok (.getfield 44, 3) := by decide +kernel
theorem d_M_behind_17 : decode b_M_behind 17 = .ok (.imul, 1) := by decide +kernel
theorem d_M_behind_18 : decode b_M_behind 18 = .ok (.aload_n 0, 1) := by decide +kernel
theorem d_M_behind_19 : decode b_M_behind 19 = .ok (.getfield 59, 3) := by decide +kernel
theorem d_M_behind_22 : decode b_M_behind 22 = .ok (.aload_n 0, 1) := by decide +kernel
theorem d_M_behind_23 : decode b_M_behind 23 = .ok (.getfield 44, 3) := by decide +kernel
theorem d_M_behind_26 : decode b_M_behind 26 = .ok (.iaload, 1) := by decide +kernel
theorem d_M_behind_27 : decode b_M_behind 27 = .ok (.iadd, 1) := by decide +kernel
theorem d_M_behind_28 : decode b_M_behind 28 = .ok (.ireturn, 1) := by decide +kernel
theorem d_M_lastOf_0 : decode b_M_lastOf 0 = .ok (.iload_n 2, 1) := by decide +kernel
theorem d_M_lastOf_1 : decode b_M_lastOf 1 = .ok (.istore_n 3, 1) := by decide +kernel
theorem d_M_lastOf_2 : decode b_M_lastOf 2 = .ok (.aload_n 0, 1) := by decide +kernel
theorem d_M_lastOf_3 : decode b_M_lastOf 3 = .ok (.invokevirtual 273, 3) := by decide +kernel
theorem d_M_lastOf_6 : decode b_M_lastOf 6 = .ok (.istore 4, 2) := by decide +kernel
theorem d_M_lastOf_8 : decode b_M_lastOf 8 = .ok (.iload 4, 2) := by decide +kernel
theorem d_M_lastOf_10 : decode b_M_lastOf 10 = .ok (.aload_n 0, 1) := by decide +kernel
theorem d_M_lastOf_11 : decode b_M_lastOf 11 = .ok (.invokevirtual 276, 3) := by decide +kernel
theorem d_M_lastOf_14 : decode b_M_lastOf 14 = .ok (.if_icmp .ge 32, 3) := by decide +kernel
theorem d_M_lastOf_17 : decode b_M_lastOf 17 = .ok (.aload_n 0, 1) := by decide +kernel
theorem d_M_lastOf_18 : decode b_M_lastOf 18 = .ok (.getfield 62, 3) := by decide +kernel
theorem d_M_lastOf_21 : decode b_M_lastOf 21 = .ok (.iload 4, 2) := by decide +kernel
theorem d_M_lastOf_23 : decode b_M_lastOf 23 = .ok (.iaload, 1) := by decide +kernel
theorem d_M_lastOf_24 : decode b_M_lastOf 24 = .ok (.iload_n 1, 1) := by decide +kernel
theorem d_M_lastOf_25 : decode b_M_lastOf 25 = .ok (.if_icmp .ne 13, 3) := by decide +kernel
theorem d_M_lastOf_28 : decode b_M_lastOf 28 = .ok (.aload_n 0, 1) := by decide +kernel
theorem d_M_lastOf_29 : decode b_M_lastOf 29 = .ok (.getfield 65, 3) := by decide +kernel
theorem d_M_lastOf_32 : decode b_M_lastOf 32 = .ok (.iload 4, 2) := by decide +kernel
theorem d_M_lastOf_34 : decode b_M_lastOf 34 = .ok (.iaload, 1) := by decide +kernel
theorem d_M_lastOf_35 : decode b_M_lastOf 35 = .ok (.goto 4, 3) := by decide +kernel
theorem d_M_lastOf_38 : decode b_M_lastOf 38 = .ok (.iload_n 3, 1) := by decide +kernel
theorem d_M_lastOf_39 : decode b_M_lastOf 39 = .ok (.istore_n 3, 1) := by decide +kernel
theorem d_M_lastOf_40 : decode b_M_lastOf 40 = .ok (.iinc 4 1, 3) := by decide +kernel
theorem d_M_lastOf_43 : decode b_M_lastOf 43 = .ok (.goto (-35), 3) := by decide +kernel
theorem d_M_lastOf_46 : decode b_M_lastOf 46 = .ok (.iload_n 3, 1) := by decide +kernel
theorem d_M_lastOf_47 : decode b_M_lastOf 47 = .ok (.ireturn, 1) := by decide +kernel
theorem d_M_leastNow_0 : decode b_M_leastNow 0 = .ok (.aload_n 0, 1) := by decide +kernel
theorem d_M_leastNow_1 : decode b_M_leastNow 1 = .ok (.getfield 92, 3) := by decide +kernel
theorem d_M_leastNow_4 : decode b_M_leastNow 4 = .ok (.ifCond .ge 12, 3) := by decide +kernel
theorem d_M_leastNow_7 : decode b_M_leastNow 7 = .ok (.aload_n 0, 1) := by decide +kernel
theorem d_M_leastNow_8 : decode b_M_leastNow 8 = .ok (.iconst 1, 1) := by decide +kernel
theorem d_M_leastNow_9 : decode b_M_leastNow 9 = .ok (.iconst 5, 1) := by decide +kernel
theorem d_M_leastNow_10 : decode b_M_leastNow 10 = .ok (.invokevirtual 279, 3) := by decide +kernel
theorem d_M_leastNow_13 : decode b_M_leastNow 13 = .ok (.goto 7, 3) := by decide +kernel
theorem d_M_leastNow_16 : decode b_M_leastNow 16 = .ok (.aload_n 0, 1) := by decide +kernel
theorem d_M_leastNow_17 : decode b_M_leastNow 17 = .ok (.getfield 92, 3) := by decide +kernel
theorem d_M_leastNow_20 : decode b_M_leastNow 20 = .ok (.ireturn, 1) := by decide +kernel
theorem d_M_fullNow_0 : decode b_M_fullNow 0 = .ok (.aload_n 0, 1) := by decide +kernel
theorem d_M_fullNow_1 : decode b_M_fullNow 1 = .ok (.getfield 95, 3) := by decide +kernel
theorem d_M_fullNow_4 : decode b_M_fullNow 4 = .ok (.ifCond .ge 16, 3) := by decide +kernel
theorem d_M_fullNow_7 : decode b_M_fullNow 7 = .ok (.bipush 10, 2) := by decide +kernel
theorem d_M_fullNow_9 : decode b_M_fullNow 9 = .ok (.aload_n 0, 1) := by decide +kernel
theorem d_M_fullNow_10 : decode b_M_fullNow 10 = .ok (.iconst 2, 1) := by decide +kernel
theorem d_M_fullNow_11 : decode b_M_fullNow 11 = .ok (.bipush 20, 2) := by decide +kernel
theorem d_M_fullNow_13 : decode b_M_fullNow 13 = .ok (.invokevirtual 279, 3) := by decide +kernel
theorem d_M_fullNow_16 : decode b_M_fullNow 16 = .ok (.imul, 1) := by decide +kernel
theorem d_M_fullNow_17 : decode b_M_fullNow 17 = .ok (.goto 7, 3) := by decide +kernel
theorem d_M_fullNow_20 : decode b_M_fullNow 20 = .ok (.aload_n 0, 1) := by decide +kernel
theorem d_M_fullNow_21 : decode b_M_fullNow 21 = .ok (.getfield 95, 3) := by decide +kernel
theorem d_M_fullNow_24 : decode b_M_fullNow 24 = .ok (.ireturn, 1) := by decide +kernel
theorem d_M_factOf_0 : decode b_M_factOf 0 = .ok (.iload_n 1, 1) := by decide +kernel
theorem d_M_factOf_1 : decode b_M_factOf 1 = .ok (.tableswitch 67 0 4 #[35, 37, 44, 51, 59], 35) := by decide +kernel
theorem d_M_factOf_36 : decode b_M_factOf 36 = .ok (.iload_n 2, 1) := by decide +kernel
theorem d_M_factOf_37 : decode b_M_factOf 37 = .ok (.ireturn, 1) := by decide +kernel
theorem d_M_factOf_38 : decode b_M_factOf 38 = .ok (.aload_n 0, 1) := by decide +kernel
theorem d_M_factOf_39 : decode b_M_factOf 39 = .ok (.getfield 19, 3) := by decide +kernel
theorem d_M_factOf_42 : decode b_M_factOf 42 = .ok (.iload_n 2, 1) := by decide +kernel
theorem d_M_factOf_43 : decode b_M_factOf 43 = .ok (.iaload, 1) := by decide +kernel
theorem d_M_factOf_44 : decode b_M_factOf 44 = .ok (.ireturn, 1) := by decide +kernel
theorem d_M_factOf_45 : decode b_M_factOf 45 = .ok (.aload_n 0, 1) := by decide +kernel
theorem d_M_factOf_46 : decode b_M_factOf 46 = .ok (.getfield 23, 3) := by decide +kernel
theorem d_M_factOf_49 : decode b_M_factOf 49 = .ok (.iload_n 2, 1) := by decide +kernel
theorem d_M_factOf_50 : decode b_M_factOf 50 = .ok (.iaload, 1) := by decide +kernel
theorem d_M_factOf_51 : decode b_M_factOf 51 = .ok (.ireturn, 1) := by decide +kernel
theorem d_M_factOf_52 : decode b_M_factOf 52 = .ok (.aload_n 0, 1) := by decide +kernel
theorem d_M_factOf_53 : decode b_M_factOf 53 = .ok (.getfield 13, 3) := by decide +kernel
theorem d_M_factOf_56 : decode b_M_factOf 56 = .ok (.bipush 10, 2) := by decide +kernel
theorem d_M_factOf_58 : decode b_M_factOf 58 = .ok (.idiv, 1) := by decide +kernel
theorem d_M_factOf_59 : decode b_M_factOf 59 = .ok (.ireturn, 1) := by decide +kernel
theorem d_M_factOf_60 : decode b_M_factOf 60 = .ok (.aload_n 0, 1) := by decide +kernel
theorem d_M_factOf_61 : decode b_M_factOf 61 = .ok (.getfield 16, 3) := by decide +kernel
theorem d_M_factOf_64 : decode b_M_factOf 64 = .ok (.bipush 7, 2) := by decide +kernel
theorem d_M_factOf_66 : decode b_M_factOf 66 = .ok (.irem, 1) := by decide +kernel
theorem d_M_factOf_67 : decode b_M_factOf 67 = .ok (.ireturn, 1) := by decide +kernel
theorem d_M_factOf_68 : decode b_M_factOf 68 = .ok (.aload_n 0, 1) := by decide +kernel
theorem d_M_factOf_69 : decode b_M_factOf 69 = .ok (.getfield 32, 3) := by decide +kernel
theorem d_M_factOf_72 : decode b_M_factOf 72 = .ok (.iload_n 2, 1) := by decide +kernel
theorem d_M_factOf_73 : decode b_M_factOf 73 = .ok (.iaload, 1) := by decide +kernel
theorem d_M_factOf_74 : decode b_M_factOf 74 = .ok (.bipush 100, 2) := by decide +kernel
theorem d_M_factOf_76 : decode b_M_factOf 76 = .ok (.irem, 1) := by decide +kernel
theorem d_M_factOf_77 : decode b_M_factOf 77 = .ok (.ireturn, 1) := by decide +kernel
theorem d_M_holds_0 : decode b_M_holds 0 = .ok (.iconst 0, 1) := by decide +kernel
theorem d_M_holds_1 : decode b_M_holds 1 = .ok (.istore_n 3, 1) := by decide +kernel
theorem d_M_holds_2 : decode b_M_holds 2 = .ok (.aload_n 0, 1) := by decide +kernel
theorem d_M_holds_3 : decode b_M_holds 3 = .ok (.getfield 68, 3) := by decide +kernel
theorem d_M_holds_6 : decode b_M_holds 6 = .ok (.iload_n 1, 1) := by decide +kernel
theorem d_M_holds_7 : decode b_M_holds 7 = .ok (.iaload, 1) := by decide +kernel
theorem d_M_holds_8 : decode b_M_holds 8 = .ok (.istore 4, 2) := by decide +kernel
theorem d_M_holds_10 : decode b_M_holds 10 = .ok (.iload 4, 2) := by decide +kernel
theorem d_M_holds_12 : decode b_M_holds 12 = .ok (.aload_n 0, 1) := by decide +kernel
theorem d_M_holds_13 : decode b_M_holds 13 = .ok (.getfield 71, 3) := by decide +kernel
theorem d_M_holds_16 : decode b_M_holds 16 = .ok (.iload_n 1, 1) := by decide +kernel
theorem d_M_holds_17 : decode b_M_holds 17 = .ok (.iaload, 1) := by decide +kernel
theorem d_M_holds_18 : decode b_M_holds 18 = .ok (.if_icmp .ge 225, 3) := by decide +kernel
theorem d_M_holds_21 : decode b_M_holds 21 = .ok (.aload_n 0, 1) := by decide +kernel
theorem d_M_holds_22 : decode b_M_holds 22 = .ok (.getfield 74, 3) := by decide +kernel
theorem d_M_holds_25 : decode b_M_holds 25 = .ok (.iload 4, 2) := by decide +kernel
theorem d_M_holds_27 : decode b_M_holds 27 = .ok (.iaload, 1) := by decide +kernel
theorem d_M_holds_28 : decode b_M_holds 28 = .ok (.istore 5, 2) := by decide +kernel
theorem d_M_holds_30 : decode b_M_holds 30 = .ok (.iload 5, 2) := by decide +kernel
theorem d_M_holds_32 : decode b_M_holds 32 = .ok (.bipush (-33), 2) := by decide +kernel
theorem d_M_holds_34 : decode b_M_holds 34 = .ok (.if_icmp .ne 30, 3) := by decide +kernel
theorem d_M_holds_37 : decode b_M_holds 37 = .ok (.aload_n 0, 1) := by decide +kernel
theorem d_M_holds_38 : decode b_M_holds 38 = .ok (.getfield 98, 3) := by decide +kernel
theorem d_M_holds_41 : decode b_M_holds 41 = .ok (.iload_n 3, 1) := by decide +kernel
theorem d_M_holds_42 : decode b_M_holds 42 = .ok (.iconst 1, 1) := by decide +kernel
theorem d_M_holds_43 : decode b_M_holds 43 = .ok (.isub, 1) := by decide +kernel
theorem d_M_holds_44 : decode b_M_holds 44 = .ok (.aload_n 0, 1) := by decide +kernel
theorem d_M_holds_45 : decode b_M_holds 45 = .ok (.getfield 98, 3) := by decide +kernel
theorem d_M_holds_48 : decode b_M_holds 48 = .ok (.iload_n 3, 1) := by decide +kernel
theorem d_M_holds_49 : decode b_M_holds 49 = .ok (.iconst 1, 1) := by decide +kernel
theorem d_M_holds_50 : decode b_M_holds 50 = .ok (.isub, 1) := by decide +kernel
theorem d_M_holds_51 : decode b_M_holds 51 = .ok (.baload, 1) := by decide +kernel
theorem d_M_holds_52 : decode b_M_holds 52 = .ok (.ifCond .ne 7, 3) := by decide +kernel
theorem d_M_holds_55 : decode b_M_holds 55 = .ok (.iconst 1, 1) := by decide +kernel
theorem d_M_holds_56 : decode b_M_holds 56 = .ok (.goto 4, 3) := by decide +kernel
theorem d_M_holds_59 : decode b_M_holds 59 = .ok (.iconst 0, 1) := by decide +kernel
theorem d_M_holds_60 : decode b_M_holds 60 = .ok (.bastore, 1) := by decide +kernel
theorem d_M_holds_61 : decode b_M_holds 61 = .ok (.goto 176, 3) := by decide +kernel
theorem d_M_holds_64 : decode b_M_holds 64 = .ok (.iload 5, 2) := by decide +kernel
theorem d_M_holds_66 : decode b_M_holds 66 = .ok (.ifCond .ge 77, 3) := by decide +kernel
theorem d_M_holds_69 : decode b_M_holds 69 = .ok (.iinc 3 (-1), 3) := by decide +kernel
theorem d_M_holds_72 : decode b_M_holds 72 = .ok (.aload_n 0, 1) := by decide +kernel
theorem d_M_holds_73 : decode b_M_holds 73 = .ok (.getfield 98, 3) := by decide +kernel
theorem d_M_holds_76 : decode b_M_holds 76 = .ok (.iload_n 3, 1) := by decide +kernel
theorem d_M_holds_77 : decode b_M_holds 77 = .ok (.iconst 1, 1) := by decide +kernel
theorem d_M_holds_78 : decode b_M_holds 78 = .ok (.isub, 1) := by decide +kernel
theorem d_M_holds_79 : decode b_M_holds 79 = .ok (.iload 5, 2) := by decide +kernel
theorem d_M_holds_81 : decode b_M_holds 81 = .ok (.bipush (-38), 2) := by decide +kernel
theorem d_M_holds_83 : decode b_M_holds 83 = .ok (.if_icmp .ne 31, 3) := by decide +kernel
theorem d_M_holds_86 : decode b_M_holds 86 = .ok (.aload_n 0, 1) := by decide +kernel
theorem d_M_holds_87 : decode b_M_holds 87 = .ok (.getfield 98, 3) := by decide +kernel
theorem d_M_holds_90 : decode b_M_holds 90 = .ok (.iload_n 3, 1) := by decide +kernel
theorem d_M_holds_91 : decode b_M_holds 91 = .ok (.iconst 1, 1) := by decide +kernel
theorem d_M_holds_92 : decode b_M_holds 92 = .ok (.isub, 1) := by decide +kernel
theorem d_M_holds_93 : decode b_M_holds 93 = .ok (.baload, 1) := by decide +kernel
theorem d_M_holds_94 : decode b_M_holds 94 = .ok (.ifCond .eq 16, 3) := by decide +kernel
theorem d_M_holds_97 : decode b_M_holds 97 = .ok (.aload_n 0, 1) := by decide +kernel
theorem d_M_holds_98 : decode b_M_holds 98 = .ok (.getfield 98, 3) := by decide +kernel
theorem d_M_holds_101 : decode b_M_holds 101 = .ok (.iload_n 3, 1) := by decide +kernel
theorem d_M_holds_102 : decode b_M_holds 102 = .ok (.baload, 1) := by decide +kernel
theorem d_M_holds_103 : decode b_M_holds 103 = .ok (.ifCond .eq 7, 3) := by decide +kernel
theorem d_M_holds_106 : decode b_M_holds 106 = .ok (.iconst 1, 1) := by decide +kernel
theorem d_M_holds_107 : decode b_M_holds 107 = .ok (.goto 32, 3) := by decide +kernel
theorem d_M_holds_110 : decode b_M_holds 110 = .ok (.iconst 0, 1) := by decide +kernel
theorem d_M_holds_111 : decode b_M_holds 111 = .ok (.goto 28, 3) := by decide +kernel
theorem d_M_holds_114 : decode b_M_holds 114 = .ok (.aload_n 0, 1) := by decide +kernel
theorem d_M_holds_115 : decode b_M_holds 115 = .ok (.getfield 98, 3) := by decide +kernel
theorem d_M_holds_118 : decode b_M_holds 118 = .ok (.iload_n 3, 1) := by decide +kernel
theorem d_M_holds_119 : decode b_M_holds 119 = .ok (.iconst 1, 1) := by decide +kernel
theorem d_M_holds_120 : decode b_M_holds 120 = .ok (.isub, 1) := by decide +kernel
theorem d_M_holds_121 : decode b_M_holds 121 = .ok (.baload, 1) := by decide +kernel
theorem d_M_holds_122 : decode b_M_holds 122 = .ok (.ifCond .ne 12, 3) := by decide +kernel
theorem d_M_holds_125 : decode b_M_holds 125 = .ok (.aload_n 0, 1) := by decide +kernel
theorem d_M_holds_126 : decode b_M_holds 126 = .ok (.getfield 98, 3) := by decide +kernel
theorem d_M_holds_129 : decode b_M_holds 129 = .ok (.iload_n 3, 1) := by decide +kernel
theorem d_M_holds_130 : decode b_M_holds 130 = .ok (.baload, 1) := by decide +kernel
theorem d_M_holds_131 : decode b_M_holds 131 = .ok (.ifCond .eq 7, 3) := by decide +kernel
theorem d_M_holds_134 : decode b_M_holds 134 = .ok (.iconst 1, 1) := by decide +kernel
theorem d_M_holds_135 : decode b_M_holds 135 = .ok (.goto 4, 3) := by decide +kernel
theorem d_M_holds_138 : decode b_M_holds 138 = .ok (.iconst 0, 1) := by decide +kernel
theorem d_M_holds_139 : decode b_M_holds 139 = .ok (.bastore, 1) := by decide +kernel
theorem d_M_holds_140 : decode b_M_holds 140 = .ok (.goto 97, 3) := by decide +kernel
theorem d_M_holds_143 : decode b_M_holds 143 = .ok (.aload_n 0, 1) := by decide +kernel
theorem d_M_holds_144 : decode b_M_holds 144 = .ok (.iload 5, 2) := by decide +kernel
theorem d_M_holds_146 : decode b_M_holds 146 = .ok (.sipush 1000, 3) := by decide +kernel
theorem d_M_holds_149 : decode b_M_holds 149 = .ok (.idiv, 1) := by decide +kernel
theorem d_M_holds_150 : decode b_M_holds 150 = .ok (.iload_n 2, 1) := by decide +kernel
theorem d_M_holds_151 : decode b_M_holds 151 = .ok (.invokevirtual 283, 3) := by decide +kernel
theorem d_M_holds_154 : decode b_M_holds 154 = .ok (.istore 6, 2) := by decide +kernel
theorem d_M_holds_156 : decode b_M_holds 156 = .ok (.iload 5, 2) := by decide +kernel
theorem d_M_holds_158 : decode b_M_holds 158 = .ok (.bipush 100, 2) := by decide +kernel
theorem d_M_holds_160 : decode b_M_holds 160 = .ok (.idiv, 1) := by decide +kernel
theorem d_M_holds_161 : decode b_M_holds 161 = .ok (.bipush 10, 2) := by decide +kernel
theorem d_M_holds_163 : decode b_M_holds 163 = .ok (.irem, 1) := by decide +kernel
theorem d_M_holds_164 : decode b_M_holds 164 = .ok (.istore 7, 2) := by decide +kernel
theorem d_M_holds_166 : decode b_M_holds 166 = .ok (.aload_n 0, 1) := by decide +kernel
theorem d_M_holds_167 : decode b_M_holds 167 = .ok (.getfield 98, 3) := by decide +kernel
theorem d_M_holds_170 : decode b_M_holds 170 = .ok (.iload_n 3, 1) := by decide +kernel
theorem d_M_holds_171 : decode b_M_holds 171 = .ok (.iload 7, 2) := by decide +kernel
theorem d_M_holds_173 : decode b_M_holds 173 = .ok (.ifCond .ne 21, 3) := by decide +kernel
theorem d_M_holds_176 : decode b_M_holds 176 = .ok (.iload 6, 2) := by decide +kernel
theorem d_M_holds_178 : decode b_M_holds 178 = .ok (.iload 5, 2) := by decide +kernel
theorem d_M_holds_180 : decode b_M_holds 180 = .ok (.bipush 100, 2) := by decide +kernel
theorem d_M_holds_182 : decode b_M_holds 182 = .ok (.irem, 1) := by decide +kernel
theorem d_M_holds_183 : decode b_M_holds 183 = .ok (.if_icmp .ge 7, 3) := by decide +kernel
theorem d_M_holds_186 : decode b_M_holds 186 = .ok (.iconst 1, 1) := by decide +kernel
theorem d_M_holds_187 : decode b_M_holds 187 = .ok (.goto 46, 3) := by decide +kernel
theorem d_M_holds_190 : decode b_M_holds 190 = .ok (.iconst 0, 1) := by decide +kernel
theorem d_M_holds_191 : decode b_M_holds 191 = .ok (.goto 42, 3) := by decide +kernel
theorem d_M_holds_194 : decode b_M_holds 194 = .ok (.iload 7, 2) := by decide +kernel
theorem d_M_holds_196 : decode b_M_holds 196 = .ok (.iconst 1, 1) := by decide +kernel
theorem d_M_holds_197 : decode b_M_holds 197 = .ok (.if_icmp .ne 21, 3) := by decide +kernel
theorem d_M_holds_200 : decode b_M_holds 200 = .ok (.iload 6, 2) := by decide +kernel
theorem d_M_holds_202 : decode b_M_holds 202 = .ok (.iload 5, 2) := by decide +kernel
theorem d_M_holds_204 : decode b_M_holds 204 = .ok (.bipush 100, 2) := by decide +kernel
theorem d_M_holds_206 : decode b_M_holds 206 = .ok (.irem, 1) := by decide +kernel
theorem d_M_holds_207 : decode b_M_holds 207 = .ok (.if_icmp .ne 7, 3) := by decide +kernel
theorem d_M_holds_210 : decode b_M_holds 210 = .ok (.iconst 1, 1) := by decide +kernel
theorem d_M_holds_211 : decode b_M_holds 211 = .ok (.goto 22, 3) := by decide +kernel
theorem d_M_holds_214 : decode b_M_holds 214 = .ok (.iconst 0, 1) := by decide +kernel
theorem d_M_holds_215 : decode b_M_holds 215 = .ok (.goto 18, 3) := by decide +kernel
theorem d_M_holds_218 : decode b_M_holds 218 = .ok (.iload 6, 2) := by decide +kernel
theorem d_M_holds_220 : decode b_M_holds 220 = .ok (.iload 5, 2) := by decide +kernel
theorem d_M_holds_222 : decode b_M_holds 222 = .ok (.bipush 100, 2) := by decide +kernel
theorem d_M_holds_224 : decode b_M_holds 224 = .ok (.irem, 1) := by decide +kernel
theorem d_M_holds_225 : decode b_M_holds 225 = .ok (.if_icmp .le 7, 3) := by decide +kernel
theorem d_M_holds_228 : decode b_M_holds 228 = .ok (.iconst 1, 1) := by decide +kernel
theorem d_M_holds_229 : decode b_M_holds 229 = .ok (.goto 4, 3) := by decide +kernel
theorem d_M_holds_232 : decode b_M_holds 232 = .ok (.iconst 0, 1) := by decide +kernel
theorem d_M_holds_233 : decode b_M_holds 233 = .ok (.bastore, 1) := by decide +kernel
theorem d_M_holds_234 : decode b_M_holds 234 = .ok (.iinc 3 1, 3) := by decide +kernel
theorem d_M_holds_237 : decode b_M_holds 237 = .ok (.iinc 4 1, 3) := by decide +kernel
theorem d_M_holds_240 : decode b_M_holds 240 = .ok (.goto (-230), 3) := by decide +kernel
theorem d_M_holds_243 : decode b_M_holds 243 = .ok (.aload_n 0, 1) := by decide +kernel
theorem d_M_holds_244 : decode b_M_holds 244 = .ok (.getfield 98, 3) := by decide +kernel
theorem d_M_holds_247 : decode b_M_holds 247 = .ok (.iconst 0, 1) := by decide +kernel
theorem d_M_holds_248 : decode b_M_holds 248 = .ok (.baload, 1) := by decide +kernel
theorem d_M_holds_249 : decode b_M_holds 249 = .ok (.ireturn, 1) := by decide +kernel
theorem d_M_sumOf_0 : decode b_M_sumOf 0 = .ok (.iconst 0, 1) := by decide +kernel
theorem d_M_sumOf_1 : decode b_M_sumOf 1 = .ok (.istore_n 3, 1) := by decide +kernel
theorem d_M_sumOf_2 : decode b_M_sumOf 2 = .ok (.aload_n 0, 1) := by decide +kernel
theorem d_M_sumOf_3 : decode b_M_sumOf 3 = .ok (.invokevirtual 273, 3) := by decide +kernel
theorem d_M_sumOf_6 : decode b_M_sumOf 6 = .ok (.istore 4, 2) := by decide +kernel
theorem d_M_sumOf_8 : decode b_M_sumOf 8 = .ok (.iload 4, 2) := by decide +kernel
theorem d_M_sumOf_10 : decode b_M_sumOf 10 = .ok (.aload_n 0, 1) := by decide +kernel
theorem d_M_sumOf_11 : decode b_M_sumOf 11 = .ok (.invokevirtual 276, 3) := by decide +kernel
theorem d_M_sumOf_14 : decode b_M_sumOf 14 = .ok (.if_icmp .ge 44, 3) := by decide +kernel
theorem d_M_sumOf_17 : decode b_M_sumOf 17 = .ok (.iload_n 3, 1) := by decide +kernel
theorem d_M_sumOf_18 : decode b_M_sumOf 18 = .ok (.aload_n 0, 1) := by decide +kernel
theorem d_M_sumOf_19 : decode b_M_sumOf 19 = .ok (.getfield 62, 3) := by decide +kernel
theorem d_M_sumOf_22 : decode b_M_sumOf 22 = .ok (.iload 4, 2) := by decide +kernel
theorem d_M_sumOf_24 : decode b_M_sumOf 24 = .ok (.iaload, 1) := by decide +kernel
theorem d_M_sumOf_25 : decode b_M_sumOf 25 = .ok (.iload_n 1, 1) := by decide +kernel
theorem d_M_sumOf_26 : decode b_M_sumOf 26 = .ok (.if_icmp .ne 23, 3) := by decide +kernel
theorem d_M_sumOf_29 : decode b_M_sumOf 29 = .ok (.aload_n 0, 1) := by decide +kernel
theorem d_M_sumOf_30 : decode b_M_sumOf 30 = .ok (.iload 4, 2) := by decide +kernel
theorem d_M_sumOf_32 : decode b_M_sumOf 32 = .ok (.iload_n 2, 1) := by decide +kernel
theorem d_M_sumOf_33 : decode b_M_sumOf 33 = .ok (.invokevirtual 286, 3) := by decide +kernel
theorem d_M_sumOf_36 : decode b_M_sumOf 36 = .ok (.ifCond .eq 13, 3) := by decide +kernel
theorem d_M_sumOf_39 : decode b_M_sumOf 39 = .ok (.aload_n 0, 1) := by decide +kernel
theorem d_M_sumOf_40 : decode b_M_sumOf 40 = .ok (.getfield 65, 3) := by decide +kernel
theorem d_M_sumOf_43 : decode b_M_sumOf 43 = .ok (.iload 4, 2) := by decide +kernel
theorem d_M_sumOf_45 : decode b_M_sumOf 45 = .ok (.iaload, 1) := by decide +kernel
theorem d_M_sumOf_46 : decode b_M_sumOf 46 = .ok (.goto 4, 3) := by decide +kernel
theorem d_M_sumOf_49 : decode b_M_sumOf 49 = .ok (.iconst 0, 1) := by decide +kernel
theorem d_M_sumOf_50 : decode b_M_sumOf 50 = .ok (.iadd, 1) := by decide +kernel
theorem d_M_sumOf_51 : decode b_M_sumOf 51 = .ok (.istore_n 3, 1) := by decide +kernel
theorem d_M_sumOf_52 : decode b_M_sumOf 52 = .ok (.iinc 4 1, 3) := by decide +kernel
theorem d_M_sumOf_55 : decode b_M_sumOf 55 = .ok (.goto (-47), 3) := by decide +kernel
theorem d_M_sumOf_58 : decode b_M_sumOf 58 = .ok (.iload_n 3, 1) := by decide +kernel
theorem d_M_sumOf_59 : decode b_M_sumOf 59 = .ok (.ireturn, 1) := by decide +kernel
theorem d_M_wantsOf_0 : decode b_M_wantsOf 0 = .ok (.aload_n 0, 1) := by decide +kernel
theorem d_M_wantsOf_1 : decode b_M_wantsOf 1 = .ok (.getfield 26, 3) := by decide +kernel
theorem d_M_wantsOf_4 : decode b_M_wantsOf 4 = .ok (.iload_n 1, 1) := by decide +kernel
theorem d_M_wantsOf_5 : decode b_M_wantsOf 5 = .ok (.iaload, 1) := by decide +kernel
theorem d_M_wantsOf_6 : decode b_M_wantsOf 6 = .ok (.aload_n 0, 1) := by decide +kernel
theorem d_M_wantsOf_7 : decode b_M_wantsOf 7 = .ok (.iconst 0, 1) := by decide +kernel
theorem d_M_wantsOf_8 : decode b_M_wantsOf 8 = .ok (.iload_n 1, 1) := by decide +kernel
theorem d_M_wantsOf_9 : decode b_M_wantsOf 9 = .ok (.invokevirtual 289, 3) := by decide +kernel
theorem d_M_wantsOf_12 : decode b_M_wantsOf 12 = .ok (.iadd, 1) := by decide +kernel
theorem d_M_wantsOf_13 : decode b_M_wantsOf 13 = .ok (.ireturn, 1) := by decide +kernel
theorem d_M_of_0 : decode b_M_of 0 = .ok (.aload_n 0, 1) := by decide +kernel
theorem d_M_of_1 : decode b_M_of 1 = .ok (.iload_n 1, 1) := by decide +kernel
theorem d_M_of_2 : decode b_M_of 2 = .ok (.invokevirtual 222, 3) := by decide +kernel
theorem d_M_of_5 : decode b_M_of 5 = .ok (.ifCond .ne 5, 3) := by decide +kernel
theorem d_M_of_8 : decode b_M_of 8 = .ok (.iconst (-1), 1) := by decide +kernel
theorem d_M_of_9 : decode b_M_of 9 = .ok (.ireturn, 1) := by decide +kernel
theorem d_M_of_10 : decode b_M_of 10 = .ok (.iload_n 2, 1) := by decide +kernel
theorem d_M_of_11 : decode b_M_of 11 = .ok (.tableswitch 100 0 7 #[45, 52, 59, 66, 73, 80, 87, 93], 45) := by decide +kernel
theorem d_M_of_56 : decode b_M_of 56 = .ok (.aload_n 0, 1) := by decide +kernel
theorem d_M_of_57 : decode b_M_of 57 = .ok (.getfield 19, 3) := by decide +kernel
theorem d_M_of_60 : decode b_M_of 60 = .ok (.iload_n 1, 1) := by decide +kernel
theorem d_M_of_61 : decode b_M_of 61 = .ok (.iaload, 1) := by decide +kernel
theorem d_M_of_62 : decode b_M_of 62 = .ok (.ireturn, 1) := by decide +kernel
theorem d_M_of_63 : decode b_M_of 63 = .ok (.aload_n 0, 1) := by decide +kernel
theorem d_M_of_64 : decode b_M_of 64 = .ok (.getfield 23, 3) := by decide +kernel
theorem d_M_of_67 : decode b_M_of 67 = .ok (.iload_n 1, 1) := by decide +kernel
theorem d_M_of_68 : decode b_M_of 68 = .ok (.iaload, 1) := by decide +kernel
theorem d_M_of_69 : decode b_M_of 69 = .ok (.ireturn, 1) := by decide +kernel
theorem d_M_of_70 : decode b_M_of 70 = .ok (.aload_n 0, 1) := by decide +kernel
theorem d_M_of_71 : decode b_M_of 71 = .ok (.getfield 26, 3) := by decide +kernel
theorem d_M_of_74 : decode b_M_of 74 = .ok (.iload_n 1, 1) := by decide +kernel
theorem d_M_of_75 : decode b_M_of 75 = .ok (.iaload, 1) := by decide +kernel
theorem d_M_of_76 : decode b_M_of 76 = .ok (.ireturn, 1) := by decide +kernel
theorem d_M_of_77 : decode b_M_of 77 = .ok (.aload_n 0, 1) := by decide +kernel
theorem d_M_of_78 : decode b_M_of 78 = .ok (.getfield 29, 3) := by decide +kernel
theorem d_M_of_81 : decode b_M_of 81 = .ok (.iload_n 1, 1) := by decide +kernel
theorem d_M_of_82 : decode b_M_of 82 = .ok (.iaload, 1) := by decide +kernel
theorem d_M_of_83 : decode b_M_of 83 = .ok (.ireturn, 1) := by decide +kernel
theorem d_M_of_84 : decode b_M_of 84 = .ok (.aload_n 0, 1) := by decide +kernel
theorem d_M_of_85 : decode b_M_of 85 = .ok (.getfield 32, 3) := by decide +kernel
theorem d_M_of_88 : decode b_M_of 88 = .ok (.iload_n 1, 1) := by decide +kernel
theorem d_M_of_89 : decode b_M_of 89 = .ok (.iaload, 1) := by decide +kernel
theorem d_M_of_90 : decode b_M_of 90 = .ok (.ireturn, 1) := by decide +kernel
theorem d_M_of_91 : decode b_M_of 91 = .ok (.aload_n 0, 1) := by decide +kernel
theorem d_M_of_92 : decode b_M_of 92 = .ok (.getfield 35, 3) := by decide +kernel
theorem d_M_of_95 : decode b_M_of 95 = .ok (.iload_n 1, 1) := by decide +kernel
theorem d_M_of_96 : decode b_M_of 96 = .ok (.iaload, 1) := by decide +kernel
theorem d_M_of_97 : decode b_M_of 97 = .ok (.ireturn, 1) := by decide +kernel
theorem d_M_of_98 : decode b_M_of 98 = .ok (.aload_n 0, 1) := by decide +kernel
theorem d_M_of_99 : decode b_M_of 99 = .ok (.iload_n 1, 1) := by decide +kernel
theorem d_M_of_100 : decode b_M_of 100 = .ok (.invokevirtual 292, 3) := by decide +kernel
theorem d_M_of_103 : decode b_M_of 103 = .ok (.ireturn, 1) := by decide +kernel
theorem d_M_of_104 : decode b_M_of 104 = .ok (.aload_n 0, 1) := by decide +kernel
theorem d_M_of_105 : decode b_M_of 105 = .ok (.iconst 3, 1) := by decide +kernel
theorem d_M_of_106 : decode b_M_of 106 = .ok (.iload_n 1, 1) := by decide +kernel
theorem d_M_of_107 : decode b_M_of 107 = .ok (.invokevirtual 289, 3) := by decide +kernel
theorem d_M_of_110 : decode b_M_of 110 = .ok (.ireturn, 1) := by decide +kernel
theorem d_M_of_111 : decode b_M_of 111 = .ok (.iconst (-1), 1) := by decide +kernel
theorem d_M_of_112 : decode b_M_of 112 = .ok (.ireturn, 1) := by decide +kernel
theorem d_M_sum_0 : decode b_M_sum 0 = .ok (.iconst 0, 1) := by decide +kernel
theorem d_M_sum_1 : decode b_M_sum 1 = .ok (.istore_n 2, 1) := by decide +kernel
theorem d_M_sum_2 : decode b_M_sum 2 = .ok (.iconst 0, 1) := by decide +kernel
theorem d_M_sum_3 : decode b_M_sum 3 = .ok (.istore_n 3, 1) := by decide +kernel
theorem d_M_sum_4 : decode b_M_sum 4 = .ok (.iload_n 3, 1) := by decide +kernel
theorem d_M_sum_5 : decode b_M_sum 5 = .ok (.aload_n 0, 1) := by decide +kernel
theorem d_M_sum_6 : decode b_M_sum 6 = .ok (.getfield 7, 3) := by decide +kernel
theorem d_M_sum_9 : decode b_M_sum 9 = .ok (.if_icmp .ge 31, 3) := by decide +kernel
theorem d_M_sum_12 : decode b_M_sum 12 = .ok (.iload_n 2, 1) := by decide +kernel
theorem d_M_sum_13 : decode b_M_sum 13 = .ok (.iload_n 1, 1) := by decide +kernel
theorem d_M_sum_14 : decode b_M_sum 14 = .ok (.ifCond .eq 12, 3) := by decide +kernel
theorem d_M_sum_17 : decode b_M_sum 17 = .ok (.aload_n 0, 1) := by decide +kernel
theorem d_M_sum_18 : decode b_M_sum 18 = .ok (.getfield 35, 3) := by decide +kernel
theorem d_M_sum_21 : decode b_M_sum 21 = .ok (.iload_n 3, 1) := by decide +kernel
theorem d_M_sum_22 : decode b_M_sum 22 = .ok (.iaload, 1) := by decide +kernel
theorem d_M_sum_23 : decode b_M_sum 23 = .ok (.goto 9, 3) := by decide +kernel
theorem d_M_sum_26 : decode b_M_sum 26 = .ok (.aload_n 0, 1) := by decide +kernel
theorem d_M_sum_27 : decode b_M_sum 27 = .ok (.getfield 32, 3) := by decide +kernel
theorem d_M_sum_30 : decode b_M_sum 30 = .ok (.iload_n 3, 1) := by decide +kernel
theorem d_M_sum_31 : decode b_M_sum 31 = .ok (.iaload, 1) := by decide +kernel
theorem d_M_sum_32 : decode b_M_sum 32 = .ok (.iadd, 1) := by decide +kernel
theorem d_M_sum_33 : decode b_M_sum 33 = .ok (.istore_n 2, 1) := by decide +kernel
theorem d_M_sum_34 : decode b_M_sum 34 = .ok (.iinc 3 1, 3) := by decide +kernel
theorem d_M_sum_37 : decode b_M_sum 37 = .ok (.goto (-33), 3) := by decide +kernel
theorem d_M_sum_40 : decode b_M_sum 40 = .ok (.iload_n 2, 1) := by decide +kernel
theorem d_M_sum_41 : decode b_M_sum 41 = .ok (.ireturn, 1) := by decide +kernel
theorem d_M_told_0 : decode b_M_told 0 = .ok (.iload_n 1, 1) := by decide +kernel
theorem d_M_told_1 : decode b_M_told 1 = .ok (.tableswitch 61 0 4 #[35, 40, 45, 50, 55], 35) := by decide +kernel
theorem d_M_told_36 : decode b_M_told 36 = .ok (.aload_n 0, 1) := by decide +kernel
theorem d_M_told_37 : decode b_M_told 37 = .ok (.getfield 13, 3) := by decide +kernel
theorem d_M_told_40 : decode b_M_told 40 = .ok (.ireturn, 1) := by decide +kernel
theorem d_M_told_41 : decode b_M_told 41 = .ok (.aload_n 0, 1) := by decide +kernel
theorem d_M_told_42 : decode b_M_told 42 = .ok (.getfield 16, 3) := by decide +kernel
theorem d_M_told_45 : decode b_M_told 45 = .ok (.ireturn, 1) := by decide +kernel
theorem d_M_told_46 : decode b_M_told 46 = .ok (.aload_n 0, 1) := by decide +kernel
theorem d_M_told_47 : decode b_M_told 47 = .ok (.invokevirtual 295, 3) := by decide +kernel
theorem d_M_told_50 : decode b_M_told 50 = .ok (.ireturn, 1) := by decide +kernel
theorem d_M_told_51 : decode b_M_told 51 = .ok (.aload_n 0, 1) := by decide +kernel
theorem d_M_told_52 : decode b_M_told 52 = .ok (.invokevirtual 298, 3) := by decide +kernel
theorem d_M_told_55 : decode b_M_told 55 = .ok (.ireturn, 1) := by decide +kernel
theorem d_M_told_56 : decode b_M_told 56 = .ok (.aload_n 0, 1) := by decide +kernel
theorem d_M_told_57 : decode b_M_told 57 = .ok (.iconst 0, 1) := by decide +kernel
theorem d_M_told_58 : decode b_M_told 58 = .ok (.invokevirtual 301, 3) := by decide +kernel
theorem d_M_told_61 : decode b_M_told 61 = .ok (.ireturn, 1) := by decide +kernel
theorem d_M_told_62 : decode b_M_told 62 = .ok (.iconst (-1), 1) := by decide +kernel
theorem d_M_told_63 : decode b_M_told 63 = .ok (.ireturn, 1) := by decide +kernel
theorem d_M_fetches_0 : decode b_M_fetches 0 = .ok (.aload_n 0, 1) := by decide +kernel
theorem d_M_fetches_1 : decode b_M_fetches 1 = .ok (.getfield 35, 3) := by decide +kernel
theorem d_M_fetches_4 : decode b_M_fetches 4 = .ok (.iload_n 1, 1) := by decide +kernel
theorem d_M_fetches_5 : decode b_M_fetches 5 = .ok (.dup2, 1) := by decide +kernel
theorem d_M_fetches_6 : decode b_M_fetches 6 = .ok (.iaload, 1) := by decide +kernel
theorem d_M_fetches_7 : decode b_M_fetches 7 = .ok (.aload_n 0, 1) := by decide +kernel
theorem d_M_fetches_8 : decode b_M_fetches 8 = .ok (.iconst 3, 1) := by decide +kernel
theorem d_M_fetches_9 : decode b_M_fetches 9 = .ok (.iload_n 1, 1) := by decide +kernel
theorem d_M_fetches_10 : decode b_M_fetches 10 = .ok (.invokevirtual 289, 3) := by decide +kernel
theorem d_M_fetches_13 : decode b_M_fetches 13 = .ok (.iadd, 1) := by decide +kernel
theorem d_M_fetches_14 : decode b_M_fetches 14 = .ok (.iastore, 1) := by decide +kernel
theorem d_M_fetches_15 : decode b_M_fetches 15 = .ok (.aload_n 0, 1) := by decide +kernel
theorem d_M_fetches_16 : decode b_M_fetches 16 = .ok (.aload_n 0, 1) := by decide +kernel
theorem d_M_fetches_17 : decode b_M_fetches 17 = .ok (.invokevirtual 298, 3) := by decide +kernel
theorem d_M_fetches_20 : decode b_M_fetches 20 = .ok (.putfield 13, 3) := by decide +kernel
theorem d_M_fetches_23 : decode b_M_fetches 23 = .ok (.aload_n 0, 1) := by decide +kernel
theorem d_M_fetches_24 : decode b_M_fetches 24 = .ok (.getfield 32, 3) := by decide +kernel
theorem d_M_fetches_27 : decode b_M_fetches 27 = .ok (.iload_n 1, 1) := by decide +kernel
theorem d_M_fetches_28 : decode b_M_fetches 28 = .ok (.dup2, 1) := by decide +kernel
theorem d_M_fetches_29 : decode b_M_fetches 29 = .ok (.iaload, 1) := by decide +kernel
theorem d_M_fetches_30 : decode b_M_fetches 30 = .ok (.iconst 1, 1) := by decide +kernel
theorem d_M_fetches_31 : decode b_M_fetches 31 = .ok (.iadd, 1) := by decide +kernel
theorem d_M_fetches_32 : decode b_M_fetches 32 = .ok (.iastore, 1) := by decide +kernel
theorem d_M_fetches_33 : decode b_M_fetches 33 = .ok (.return_, 1) := by decide +kernel
theorem d_M_lesser_0 : decode b_M_lesser 0 = .ok (.iload_n 1, 1) := by decide +kernel
theorem d_M_lesser_1 : decode b_M_lesser 1 = .ok (.iload_n 2, 1) := by decide +kernel
theorem d_M_lesser_2 : decode b_M_lesser 2 = .ok (.if_icmp .ge 7, 3) := by decide +kernel
theorem d_M_lesser_5 : decode b_M_lesser 5 = .ok (.iload_n 1, 1) := by decide +kernel
theorem d_M_lesser_6 : decode b_M_lesser 6 = .ok (.goto 4, 3) := by decide +kernel
theorem d_M_lesser_9 : decode b_M_lesser 9 = .ok (.iload_n 2, 1) := by decide +kernel
theorem d_M_lesser_10 : decode b_M_lesser 10 = .ok (.ireturn, 1) := by decide +kernel
theorem d_M_isFirst_0 : decode b_M_isFirst 0 = .ok (.aload_n 0, 1) := by decide +kernel
theorem d_M_isFirst_1 : decode b_M_isFirst 1 = .ok (.getfield 19, 3) := by decide +kernel
theorem d_M_isFirst_4 : decode b_M_isFirst 4 = .ok (.iload_n 1, 1) := by decide +kernel
theorem d_M_isFirst_5 : decode b_M_isFirst 5 = .ok (.iaload, 1) := by decide +kernel
theorem d_M_isFirst_6 : decode b_M_isFirst 6 = .ok (.iconst 3, 1) := by decide +kernel
theorem d_M_isFirst_7 : decode b_M_isFirst 7 = .ok (.if_icmp .ne 22, 3) := by decide +kernel
theorem d_M_isFirst_10 : decode b_M_isFirst 10 = .ok (.aload_n 0, 1) := by decide +kernel
theorem d_M_isFirst_11 : decode b_M_isFirst 11 = .ok (.getfield 13, 3) := by decide +kernel
theorem d_M_isFirst_14 : decode b_M_isFirst 14 = .ok (.iload_n 2, 1) := by decide +kernel
theorem d_M_isFirst_15 : decode b_M_isFirst 15 = .ok (.aload_n 0, 1) := by decide +kernel
theorem d_M_isFirst_16 : decode b_M_isFirst 16 = .ok (.invokevirtual 295, 3) := by decide +kernel
theorem d_M_isFirst_19 : decode b_M_isFirst 19 = .ok (.iadd, 1) := by decide +kernel
theorem d_M_isFirst_20 : decode b_M_isFirst 20 = .ok (.if_icmp .ge 7, 3) := by decide +kernel
theorem d_M_isFirst_23 : decode b_M_isFirst 23 = .ok (.iconst 1, 1) := by decide +kernel
theorem d_M_isFirst_24 : decode b_M_isFirst 24 = .ok (.goto 4, 3) := by decide +kernel
theorem d_M_isFirst_27 : decode b_M_isFirst 27 = .ok (.iconst 0, 1) := by decide +kernel
theorem d_M_isFirst_28 : decode b_M_isFirst 28 = .ok (.ireturn, 1) := by decide +kernel
theorem d_M_isFirst_29 : decode b_M_isFirst 29 = .ok (.aload_n 0, 1) := by decide +kernel
theorem d_M_isFirst_30 : decode b_M_isFirst 30 = .ok (.getfield 19, 3) := by decide +kernel
theorem d_M_isFirst_33 : decode b_M_isFirst 33 = .ok (.iload_n 1, 1) := by decide +kernel
theorem d_M_isFirst_34 : decode b_M_isFirst 34 = .ok (.iaload, 1) := by decide +kernel
theorem d_M_isFirst_35 : decode b_M_isFirst 35 = .ok (.bipush 6, 2) := by decide +kernel
theorem d_M_isFirst_37 : decode b_M_isFirst 37 = .ok (.if_icmp .ne 32, 3) := by decide +kernel
theorem d_M_isFirst_40 : decode b_M_isFirst 40 = .ok (.aload_n 0, 1) := by decide +kernel
theorem d_M_isFirst_41 : decode b_M_isFirst 41 = .ok (.getfield 13, 3) := by decide +kernel
theorem d_M_isFirst_44 : decode b_M_isFirst 44 = .ok (.bipush 10, 2) := by decide +kernel
theorem d_M_isFirst_46 : decode b_M_isFirst 46 = .ok (.aload_n 0, 1) := by decide +kernel
theorem d_M_isFirst_47 : decode b_M_isFirst 47 = .ok (.getfield 38, 3) := by decide +kernel
theorem d_M_isFirst_50 : decode b_M_isFirst 50 = .ok (.iconst 4, 1) := by decide +kernel
theorem d_M_isFirst_51 : decode b_M_isFirst 51 = .ok (.iload_n 1, 1) := by decide +kernel
theorem d_M_isFirst_52 : decode b_M_isFirst 52 = .ok (.imul, 1) := by decide +kernel
theorem d_M_isFirst_53 : decode b_M_isFirst 53 = .ok (.aload_n 0, 1) := by decide +kernel
theorem d_M_isFirst_54 : decode b_M_isFirst 54 = .ok (.getfield 16, 3) := by decide +kernel
theorem d_M_isFirst_57 : decode b_M_isFirst 57 = .ok (.iconst 4, 1) := by decide +kernel
theorem d_M_isFirst_58 : decode b_M_isFirst 58 = .ok (.irem, 1) := by decide +kernel
theorem d_M_isFirst_59 : decode b_M_isFirst 59 = .ok (.iadd, 1) := by decide +kernel
theorem d_M_isFirst_60 : decode b_M_isFirst 60 = .ok (.iaload, 1) := by decide +kernel
theorem d_M_isFirst_61 : decode b_M_isFirst 61 = .ok (.imul, 1) := by decide +kernel
theorem d_M_isFirst_62 : decode b_M_isFirst 62 = .ok (.if_icmp .ge 7, 3) := by decide +kernel
theorem d_M_isFirst_65 : decode b_M_isFirst 65 = .ok (.iconst 1, 1) := by decide +kernel
theorem d_M_isFirst_66 : decode b_M_isFirst 66 = .ok (.goto 4, 3) := by decide +kernel
theorem d_M_isFirst_69 : decode b_M_isFirst 69 = .ok (.iconst 0, 1) := by decide +kernel
theorem d_M_isFirst_70 : decode b_M_isFirst 70 = .ok (.ireturn, 1) := by decide +kernel
theorem d_M_politely_0 : decode b_M_politely 0 = .ok (.aload_n 0, 1) := by decide +kernel
theorem d_M_politely_1 : decode b_M_politely 1 = .ok (.getfield 13, 3) := by decide +kernel
theorem d_M_politely_4 : decode b_M_politely 4 = .ok (.aload_n 0, 1) := by decide +kernel
theorem d_M_politely_5 : decode b_M_politely 5 = .ok (.invokevirtual 295, 3) := by decide +kernel
theorem d_M_politely_8 : decode b_M_politely 8 = .ok (.isub, 1) := by decide +kernel
theorem d_M_politely_9 : decode b_M_politely 9 = .ok (.istore_n 2, 1) := by decide +kernel
theorem d_M_politely_10 : decode b_M_politely 10 = .ok (.iload_n 2, 1) := by decide +kernel
theorem d_M_politely_11 : decode b_M_politely 11 = .ok (.ifCond .ge 7, 3) := by decide +kernel
theorem d_M_politely_14 : decode b_M_politely 14 = .ok (.iconst 0, 1) := by decide +kernel
theorem d_M_politely_15 : decode b_M_politely 15 = .ok (.goto 9, 3) := by decide +kernel
theorem d_M_politely_18 : decode b_M_politely 18 = .ok (.aload_n 0, 1) := by decide +kernel
theorem d_M_politely_19 : decode b_M_politely 19 = .ok (.iload_n 1, 1) := by decide +kernel
theorem d_M_politely_20 : decode b_M_politely 20 = .ok (.iload_n 2, 1) := by decide +kernel
theorem d_M_politely_21 : decode b_M_politely 21 = .ok (.invokevirtual 305, 3) := by decide +kernel
theorem d_M_politely_24 : decode b_M_politely 24 = .ok (.ireturn, 1) := by decide +kernel
theorem d_M_amount_0 : decode b_M_amount 0 = .ok (.aload_n 0, 1) := by decide +kernel
theorem d_M_amount_1 : decode b_M_amount 1 = .ok (.getfield 19, 3) := by decide +kernel
theorem d_M_amount_4 : decode b_M_amount 4 = .ok (.iload_n 1, 1) := by decide +kernel
theorem d_M_amount_5 : decode b_M_amount 5 = .ok (.iaload, 1) := by decide +kernel
theorem d_M_amount_6 : decode b_M_amount 6 = .ok (.tableswitch 92 1 5 #[34, 46, 92, 68, 82], 34) := by decide +kernel
theorem d_M_amount_40 : decode b_M_amount 40 = .ok (.aload_n 0, 1) := by decide +kernel
theorem d_M_amount_41 : decode b_M_amount 41 = .ok (.aload_n 0, 1) := by decide +kernel
theorem d_M_amount_42 : decode b_M_amount 42 = .ok (.getfield 13, 3) := by decide +kernel
theorem d_M_amount_45 : decode b_M_amount 45 = .ok (.iconst 2, 1) := by decide +kernel
theorem d_M_amount_46 : decode b_M_amount 46 = .ok (.idiv, 1) := by decide +kernel
theorem d_M_amount_47 : decode b_M_amount 47 = .ok (.iload_n 2, 1) := by decide +kernel
theorem d_M_amount_48 : decode b_M_amount 48 = .ok (.invokevirtual 305, 3) := by decide +kernel
theorem d_M_amount_51 : decode b_M_amount 51 = .ok (.ireturn, 1) := by decide +kernel
theorem d_M_amount_52 : decode b_M_amount 52 = .ok (.aload_n 0, 1) := by decide +kernel
theorem d_M_amount_53 : decode b_M_amount 53 = .ok (.aload_n 0, 1) := by decide +kernel
theorem d_M_amount_54 : decode b_M_amount 54 = .ok (.getfield 13, 3) := by decide +kernel
theorem d_M_amount_57 : decode b_M_amount 57 = .ok (.iconst 2, 1) := by decide +kernel
theorem d_M_amount_58 : decode b_M_amount 58 = .ok (.iload_n 2, 1) := by decide +kernel
theorem d_M_amount_59 : decode b_M_amount 59 = .ok (.imul, 1) := by decide +kernel
theorem d_M_amount_60 : decode b_M_amount 60 = .ok (.if_icmp .ge 9, 3) := by decide +kernel
theorem d_M_amount_63 : decode b_M_amount 63 = .ok (.iload_n 2, 1) := by decide +kernel
theorem d_M_amount_64 : decode b_M_amount 64 = .ok (.iconst 2, 1) := by decide +kernel
theorem d_M_amount_65 : decode b_M_amount 65 = .ok (.idiv, 1) := by decide +kernel
theorem d_M_amount_66 : decode b_M_amount 66 = .ok (.goto 4, 3) := by decide +kernel
theorem d_M_amount_69 : decode b_M_amount 69 = .ok (.iload_n 2, 1) := by decide +kernel
theorem d_M_amount_70 : decode b_M_amount 70 = .ok (.invokevirtual 308, 3) := by decide +kernel
theorem d_M_amount_73 : decode b_M_amount 73 = .ok (.ireturn, 1) := by decide +kernel
theorem d_M_amount_74 : decode b_M_amount 74 = .ok (.aload_n 0, 1) := by decide +kernel
theorem d_M_amount_75 : decode b_M_amount 75 = .ok (.aload_n 0, 1) := by decide +kernel
theorem d_M_amount_76 : decode b_M_amount 76 = .ok (.getfield 13, 3) := by decide +kernel
theorem d_M_amount_79 : decode b_M_amount 79 = .ok (.iconst 2, 1) := by decide +kernel
theorem d_M_amount_80 : decode b_M_amount 80 = .ok (.idiv, 1) := by decide +kernel
theorem d_M_amount_81 : decode b_M_amount 81 = .ok (.iconst 2, 1) := by decide +kernel
theorem d_M_amount_82 : decode b_M_amount 82 = .ok (.iload_n 2, 1) := by decide +kernel
theorem d_M_amount_83 : decode b_M_amount 83 = .ok (.imul, 1) := by decide +kernel
theorem d_M_amount_84 : decode b_M_amount 84 = .ok (.invokevirtual 305, 3) := by decide +kernel
theorem d_M_amount_87 : decode b_M_amount 87 = .ok (.ireturn, 1) := by decide +kernel
theorem d_M_amount_88 : decode b_M_amount 88 = .ok (.aload_n 0, 1) := by decide +kernel
theorem d_M_amount_89 : decode b_M_amount 89 = .ok (.aload_n 0, 1) := by decide +kernel
theorem d_M_amount_90 : decode b_M_amount 90 = .ok (.getfield 13, 3) := by decide +kernel
theorem d_M_amount_93 : decode b_M_amount 93 = .ok (.iload_n 2, 1) := by decide +kernel
theorem d_M_amount_94 : decode b_M_amount 94 = .ok (.invokevirtual 305, 3) := by decide +kernel
theorem d_M_amount_97 : decode b_M_amount 97 = .ok (.ireturn, 1) := by decide +kernel
theorem d_M_amount_98 : decode b_M_amount 98 = .ok (.aload_n 0, 1) := by decide +kernel
theorem d_M_amount_99 : decode b_M_amount 99 = .ok (.iload_n 2, 1) := by decide +kernel
theorem d_M_amount_100 : decode b_M_amount 100 = .ok (.invokevirtual 308, 3) := by decide +kernel
theorem d_M_amount_103 : decode b_M_amount 103 = .ok (.ireturn, 1) := by decide +kernel
theorem d_M_goes_0 : decode b_M_goes 0 = .ok (.aload_n 0, 1) := by decide +kernel
theorem d_M_goes_1 : decode b_M_goes 1 = .ok (.iload_n 1, 1) := by decide +kernel
theorem d_M_goes_2 : decode b_M_goes 2 = .ok (.invokevirtual 292, 3) := by decide +kernel
theorem d_M_goes_5 : decode b_M_goes 5 = .ok (.istore_n 2, 1) := by decide +kernel
theorem d_M_goes_6 : decode b_M_goes 6 = .ok (.aload_n 0, 1) := by decide +kernel
theorem d_M_goes_7 : decode b_M_goes 7 = .ok (.iload_n 1, 1) := by decide +kernel
theorem d_M_goes_8 : decode b_M_goes 8 = .ok (.iload_n 2, 1) := by decide +kernel
theorem d_M_goes_9 : decode b_M_goes 9 = .ok (.invokevirtual 311, 3) := by decide +kernel
theorem d_M_goes_12 : decode b_M_goes 12 = .ok (.ifCond .eq 8, 3) := by decide +kernel
theorem d_M_goes_15 : decode b_M_goes 15 = .ok (.aload_n 0, 1) := by decide +kernel
theorem d_M_goes_16 : decode b_M_goes 16 = .ok (.iload_n 1, 1) := by decide +kernel
theorem d_M_goes_17 : decode b_M_goes 17 = .ok (.invokevirtual 314, 3) := by decide +kernel
theorem d_M_goes_20 : decode b_M_goes 20 = .ok (.aload_n 0, 1) := by decide +kernel
theorem d_M_goes_21 : decode b_M_goes 21 = .ok (.iload_n 1, 1) := by decide +kernel
theorem d_M_goes_22 : decode b_M_goes 22 = .ok (.iload_n 2, 1) := by decide +kernel
theorem d_M_goes_23 : decode b_M_goes 23 = .ok (.invokevirtual 316, 3) := by decide +kernel
theorem d_M_goes_26 : decode b_M_goes 26 = .ok (.istore_n 3, 1) := by decide +kernel
theorem d_M_goes_27 : decode b_M_goes 27 = .ok (.aload_n 0, 1) := by decide +kernel
theorem d_M_goes_28 : decode b_M_goes 28 = .ok (.dup, 1) := by decide +kernel
theorem d_M_goes_29 : decode b_M_goes 29 = .ok (.getfield 13, 3) := by decide +kernel
theorem d_M_goes_32 : decode b_M_goes 32 = .ok (.iload_n 3, 1) := by decide +kernel
theorem d_M_goes_33 : decode b_M_goes 33 = .ok (.isub, 1) := by decide +kernel
theorem d_M_goes_34 : decode b_M_goes 34 = .ok (.putfield 13, 3) := by decide +kernel
theorem d_M_goes_37 : decode b_M_goes 37 = .ok (.aload_n 0, 1) := by decide +kernel
theorem d_M_goes_38 : decode b_M_goes 38 = .ok (.getfield 29, 3) := by decide +kernel
theorem d_M_goes_41 : decode b_M_goes 41 = .ok (.iload_n 1, 1) := by decide +kernel
theorem d_M_goes_42 : decode b_M_goes 42 = .ok (.dup2, 1) := by decide +kernel
theorem d_M_goes_43 : decode b_M_goes 43 = .ok (.iaload, 1) := by decide +kernel
theorem d_M_goes_44 : decode b_M_goes 44 = .ok (.iload_n 3, 1) := by decide +kernel
theorem d_M_goes_45 : decode b_M_goes 45 = .ok (.ifCond .le 7, 3) := by decide +kernel
theorem d_M_goes_48 : decode b_M_goes 48 = .ok (.iconst 1, 1) := by decide +kernel
theorem d_M_goes_49 : decode b_M_goes 49 = .ok (.goto 4, 3) := by decide +kernel
theorem d_M_goes_52 : decode b_M_goes 52 = .ok (.iconst 0, 1) := by decide +kernel
theorem d_M_goes_53 : decode b_M_goes 53 = .ok (.iadd, 1) := by decide +kernel
theorem d_M_goes_54 : decode b_M_goes 54 = .ok (.iastore, 1) := by decide +kernel
theorem d_M_goes_55 : decode b_M_goes 55 = .ok (.aload_n 0, 1) := by decide +kernel
theorem d_M_goes_56 : decode b_M_goes 56 = .ok (.aload_n 0, 1) := by decide +kernel
theorem d_M_goes_57 : decode b_M_goes 57 = .ok (.getfield 13, 3) := by decide +kernel
theorem d_M_goes_60 : decode b_M_goes 60 = .ok (.putfield 102, 3) := by decide +kernel
theorem d_M_goes_63 : decode b_M_goes 63 = .ok (.aload_n 0, 1) := by decide +kernel
theorem d_M_goes_64 : decode b_M_goes 64 = .ok (.getfield 13, 3) := by decide +kernel
theorem d_M_goes_67 : decode b_M_goes 67 = .ok (.aload_n 0, 1) := by decide +kernel
theorem d_M_goes_68 : decode b_M_goes 68 = .ok (.invokevirtual 295, 3) := by decide +kernel
theorem d_M_goes_71 : decode b_M_goes 71 = .ok (.if_icmp .ge 8, 3) := by decide +kernel
theorem d_M_goes_74 : decode b_M_goes 74 = .ok (.aload_n 0, 1) := by decide +kernel
theorem d_M_goes_75 : decode b_M_goes 75 = .ok (.iload_n 1, 1) := by decide +kernel
theorem d_M_goes_76 : decode b_M_goes 76 = .ok (.invokevirtual 314, 3) := by decide +kernel
theorem d_M_goes_79 : decode b_M_goes 79 = .ok (.iload_n 3, 1) := by decide +kernel
theorem d_M_goes_80 : decode b_M_goes 80 = .ok (.ireturn, 1) := by decide +kernel
theorem d_M_takes_0 : decode b_M_takes 0 = .ok (.aload_n 0, 1) := by decide +kernel
theorem d_M_takes_1 : decode b_M_takes 1 = .ok (.iload_n 1, 1) := by decide +kernel
theorem d_M_takes_2 : decode b_M_takes 2 = .ok (.invokevirtual 222, 3) := by decide +kernel
theorem d_M_takes_5 : decode b_M_takes 5 = .ok (.ifCond .eq 11, 3) := by decide +kernel
theorem d_M_takes_8 : decode b_M_takes 8 = .ok (.aload_n 0, 1) := by decide +kernel
theorem d_M_takes_9 : decode b_M_takes 9 = .ok (.iload_n 1, 1) := by decide +kernel
theorem d_M_takes_10 : decode b_M_takes 10 = .ok (.invokevirtual 319, 3) := by decide +kernel
theorem d_M_takes_13 : decode b_M_takes 13 = .ok (.goto 4, 3) := by decide +kernel
theorem d_M_takes_16 : decode b_M_takes 16 = .ok (.iconst (-1), 1) := by decide +kernel
theorem d_M_takes_17 : decode b_M_takes 17 = .ok (.ireturn, 1) := by decide +kernel
theorem d_M_goDay_0 : decode b_M_goDay 0 = .ok (.aload_n 0, 1) := by decide +kernel
theorem d_M_goDay_1 : decode b_M_goDay 1 = .ok (.getfield 108, 3) := by decide +kernel
theorem d_M_goDay_4 : decode b_M_goDay 4 = .ok (.ifCond .lt 12, 3) := by decide +kernel
theorem d_M_goDay_7 : decode b_M_goDay 7 = .ok (.aload_n 0, 1) := by decide +kernel
theorem d_M_goDay_8 : decode b_M_goDay 8 = .ok (.aload_n 0, 1) := by decide +kernel
theorem d_M_goDay_9 : decode b_M_goDay 9 = .ok (.getfield 108, 3) := by decide +kernel
theorem d_M_goDay_12 : decode b_M_goDay 12 = .ok (.invokevirtual 319, 3) := by decide +kernel
theorem d_M_goDay_15 : decode b_M_goDay 15 = .ok (.istore_n 1, 1) := by decide +kernel
theorem d_M_goDay_16 : decode b_M_goDay 16 = .ok (.iconst 0, 1) := by decide +kernel
theorem d_M_goDay_17 : decode b_M_goDay 17 = .ok (.istore_n 1, 1) := by decide +kernel
theorem d_M_goDay_18 : decode b_M_goDay 18 = .ok (.iload_n 1, 1) := by decide +kernel
theorem d_M_goDay_19 : decode b_M_goDay 19 = .ok (.aload_n 0, 1) := by decide +kernel
theorem d_M_goDay_20 : decode b_M_goDay 20 = .ok (.getfield 7, 3) := by decide +kernel
theorem d_M_goDay_23 : decode b_M_goDay 23 = .ok (.if_icmp .ge 34, 3) := by decide +kernel
theorem d_M_goDay_26 : decode b_M_goDay 26 = .ok (.iload_n 1, 1) := by decide +kernel
theorem d_M_goDay_27 : decode b_M_goDay 27 = .ok (.aload_n 0, 1) := by decide +kernel
theorem d_M_goDay_28 : decode b_M_goDay 28 = .ok (.getfield 105, 3) := by decide +kernel
theorem d_M_goDay_31 : decode b_M_goDay 31 = .ok (.if_icmp .eq 20, 3) := by decide +kernel
theorem d_M_goDay_34 : decode b_M_goDay 34 = .ok (.iload_n 1, 1) := by decide +kernel
theorem d_M_goDay_35 : decode b_M_goDay 35 = .ok (.aload_n 0, 1) := by decide +kernel
theorem d_M_goDay_36 : decode b_M_goDay 36 = .ok (.getfield 108, 3) := by decide +kernel
theorem d_M_goDay_39 : decode b_M_goDay 39 = .ok (.if_icmp .ne 6, 3) := by decide +kernel
theorem d_M_goDay_42 : decode b_M_goDay 42 = .ok (.goto 9, 3) := by decide +kernel
theorem d_M_goDay_45 : decode b_M_goDay 45 = .ok (.aload_n 0, 1) := by decide +kernel
theorem d_M_goDay_46 : decode b_M_goDay 46 = .ok (.iload_n 1, 1) := by decide +kernel
theorem d_M_goDay_47 : decode b_M_goDay 47 = .ok (.invokevirtual 319, 3) := by decide +kernel
theorem d_M_goDay_50 : decode b_M_goDay 50 = .ok (.istore_n 2, 1) := by decide +kernel
theorem d_M_goDay_51 : decode b_M_goDay 51 = .ok (.iinc 1 1, 3) := by decide +kernel
theorem d_M_goDay_54 : decode b_M_goDay 54 = .ok (.goto (-36), 3) := by decide +kernel
theorem d_M_goDay_57 : decode b_M_goDay 57 = .ok (.aload_n 0, 1) := by decide +kernel
theorem d_M_goDay_58 : decode b_M_goDay 58 = .ok (.dup, 1) := by decide +kernel
theorem d_M_goDay_59 : decode b_M_goDay 59 = .ok (.getfield 16, 3) := by decide +kernel
theorem d_M_goDay_62 : decode b_M_goDay 62 = .ok (.iconst 1, 1) := by decide +kernel
theorem d_M_goDay_63 : decode b_M_goDay 63 = .ok (.iadd, 1) := by decide +kernel
theorem d_M_goDay_64 : decode b_M_goDay 64 = .ok (.putfield 16, 3) := by decide +kernel
theorem d_M_goDay_67 : decode b_M_goDay 67 = .ok (.return_, 1) := by decide +kernel
theorem d_M_day_0 : decode b_M_day 0 = .ok (.aload_n 0, 1) := by decide +kernel
theorem d_M_day_1 : decode b_M_day 1 = .ok (.getfield 16, 3) := by decide +kernel
theorem d_M_day_4 : decode b_M_day 4 = .ok (.sipush 9999, 3) := by decide +kernel
theorem d_M_day_7 : decode b_M_day 7 = .ok (.if_icmp .ne 6, 3) := by decide +kernel
theorem d_M_day_10 : decode b_M_day 10 = .ok (.bipush (-3), 2) := by decide +kernel
theorem d_M_day_12 : decode b_M_day 12 = .ok (.ireturn, 1) := by decide +kernel
theorem d_M_day_13 : decode b_M_day 13 = .ok (.aload_n 0, 1) := by decide +kernel
theorem d_M_day_14 : decode b_M_day 14 = .ok (.iconst 0, 1) := by decide +kernel
theorem d_M_day_15 : decode b_M_day 15 = .ok (.invokevirtual 301, 3) := by decide +kernel
theorem d_M_day_18 : decode b_M_day 18 = .ok (.istore_n 1, 1) := by decide +kernel
theorem d_M_day_19 : decode b_M_day 19 = .ok (.aload_n 0, 1) := by decide +kernel
theorem d_M_day_20 : decode b_M_day 20 = .ok (.invokevirtual 322, 3) := by decide +kernel
theorem d_M_day_23 : decode b_M_day 23 = .ok (.aload_n 0, 1) := by decide +kernel
theorem d_M_day_24 : decode b_M_day 24 = .ok (.iconst 0, 1) := by decide +kernel
theorem d_M_day_25 : decode b_M_day 25 = .ok (.invokevirtual 301, 3) := by decide +kernel
theorem d_M_day_28 : decode b_M_day 28 = .ok (.iload_n 1, 1) := by decide +kernel
theorem d_M_day_29 : decode b_M_day 29 = .ok (.isub, 1) := by decide +kernel
theorem d_M_day_30 : decode b_M_day 30 = .ok (.ireturn, 1) := by decide +kernel
theorem d_M_keep_0 : decode b_M_keep 0 = .ok (.aload_n 0, 1) := by decide +kernel
theorem d_M_keep_1 : decode b_M_keep 1 = .ok (.aload_n 0, 1) := by decide +kernel
theorem d_M_keep_2 : decode b_M_keep 2 = .ok (.getfield 13, 3) := by decide +kernel
theorem d_M_keep_5 : decode b_M_keep 5 = .ok (.putfield 111, 3) := by decide +kernel
theorem d_M_keep_8 : decode b_M_keep 8 = .ok (.aload_n 0, 1) := by decide +kernel
theorem d_M_keep_9 : decode b_M_keep 9 = .ok (.aload_n 0, 1) := by decide +kernel
theorem d_M_keep_10 : decode b_M_keep 10 = .ok (.getfield 16, 3) := by decide +kernel
theorem d_M_keep_13 : decode b_M_keep 13 = .ok (.putfield 114, 3) := by decide +kernel
theorem d_M_keep_16 : decode b_M_keep 16 = .ok (.iconst 0, 1) := by decide +kernel
theorem d_M_keep_17 : decode b_M_keep 17 = .ok (.istore_n 1, 1) := by decide +kernel
theorem d_M_keep_18 : decode b_M_keep 18 = .ok (.iload_n 1, 1) := by decide +kernel
theorem d_M_keep_19 : decode b_M_keep 19 = .ok (.bipush 6, 2) := by decide +kernel
theorem d_M_keep_21 : decode b_M_keep 21 = .ok (.if_icmp .ge 45, 3) := by decide +kernel
theorem d_M_keep_24 : decode b_M_keep 24 = .ok (.aload_n 0, 1) := by decide +kernel
theorem d_M_keep_25 : decode b_M_keep 25 = .ok (.getfield 117, 3) := by decide +kernel
theorem d_M_keep_28 : decode b_M_keep 28 = .ok (.iload_n 1, 1) := by decide +kernel
theorem d_M_keep_29 : decode b_M_keep 29 = .ok (.aload_n 0, 1) := by decide +kernel
theorem d_M_keep_30 : decode b_M_keep 30 = .ok (.getfield 29, 3) := by decide +kernel
theorem d_M_keep_33 : decode b_M_keep 33 = .ok (.iload_n 1, 1) := by decide +kernel
theorem d_M_keep_34 : decode b_M_keep 34 = .ok (.iaload, 1) := by decide +kernel
theorem d_M_keep_35 : decode b_M_keep 35 = .ok (.iastore, 1) := by decide +kernel
theorem d_M_keep_36 : decode b_M_keep 36 = .ok (.aload_n 0, 1) := by decide +kernel
theorem d_M_keep_37 : decode b_M_keep 37 = .ok (.getfield 120, 3) := by decide +kernel
theorem d_M_keep_40 : decode b_M_keep 40 = .ok (.iload_n 1, 1) := by decide +kernel
theorem d_M_keep_41 : decode b_M_keep 41 = .ok (.aload_n 0, 1) := by decide +kernel
theorem d_M_keep_42 : decode b_M_keep 42 = .ok (.getfield 32, 3) := by decide +kernel
theorem d_M_keep_45 : decode b_M_keep 45 = .ok (.iload_n 1, 1) := by decide +kernel
theorem d_M_keep_46 : decode b_M_keep 46 = .ok (.iaload, 1) := by decide +kernel
theorem d_M_keep_47 : decode b_M_keep 47 = .ok (.iastore, 1) := by decide +kernel
theorem d_M_keep_48 : decode b_M_keep 48 = .ok (.aload_n 0, 1) := by decide +kernel
theorem d_M_keep_49 : decode b_M_keep 49 = .ok (.getfield 123, 3) := by decide +kernel
theorem d_M_keep_52 : decode b_M_keep 52 = .ok (.iload_n 1, 1) := by decide +kernel
theorem d_M_keep_53 : decode b_M_keep 53 = .ok (.aload_n 0, 1) := by decide +kernel
theorem d_M_keep_54 : decode b_M_keep 54 = .ok (.getfield 35, 3) := by decide +kernel
theorem d_M_keep_57 : decode b_M_keep 57 = .ok (.iload_n 1, 1) := by decide +kernel
theorem d_M_keep_58 : decode b_M_keep 58 = .ok (.iaload, 1) := by decide +kernel
theorem d_M_keep_59 : decode b_M_keep 59 = .ok (.iastore, 1) := by decide +kernel
theorem d_M_keep_60 : decode b_M_keep 60 = .ok (.iinc 1 1, 3) := by decide +kernel
theorem d_M_keep_63 : decode b_M_keep 63 = .ok (.goto (-45), 3) := by decide +kernel
theorem d_M_keep_66 : decode b_M_keep 66 = .ok (.return_, 1) := by decide +kernel
theorem d_M_putBack_0 : decode b_M_putBack 0 = .ok (.aload_n 0, 1) := by decide +kernel
theorem d_M_putBack_1 : decode b_M_putBack 1 = .ok (.aload_n 0, 1) := by decide +kernel
theorem d_M_putBack_2 : decode b_M_putBack 2 = .ok (.getfield 111, 3) := by decide +kernel
theorem d_M_putBack_5 : decode b_M_putBack 5 = .ok (.putfield 13, 3) := by decide +kernel
theorem d_M_putBack_8 : decode b_M_putBack 8 = .ok (.aload_n 0, 1) := by decide +kernel
theorem d_M_putBack_9 : decode b_M_putBack 9 = .ok (.aload_n 0, 1) := by decide +kernel
theorem d_M_putBack_10 : decode b_M_putBack 10 = .ok (.getfield 114, 3) := by decide +kernel
theorem d_M_putBack_13 : decode b_M_putBack 13 = .ok (.putfield 16, 3) := by decide +kernel
theorem d_M_putBack_16 : decode b_M_putBack 16 = .ok (.iconst 0, 1) := by decide +kernel
theorem d_M_putBack_17 : decode b_M_putBack 17 = .ok (.istore_n 1, 1) := by decide +kernel
theorem d_M_putBack_18 : decode b_M_putBack 18 = .ok (.iload_n 1, 1) := by decide +kernel
theorem d_M_putBack_19 : decode b_M_putBack 19 = .ok (.bipush 6, 2) := by decide +kernel
theorem d_M_putBack_21 : decode b_M_putBack 21 = .ok (.if_icmp .ge 45, 3) := by decide +kernel
theorem d_M_putBack_24 : decode b_M_putBack 24 = .ok (.aload_n 0, 1) := by decide +kernel
theorem d_M_putBack_25 : decode b_M_putBack 25 = .ok (.getfield 29, 3) := by decide +kernel
theorem d_M_putBack_28 : decode b_M_putBack 28 = .ok (.iload_n 1, 1) := by decide +kernel
theorem d_M_putBack_29 : decode b_M_putBack 29 = .ok (.aload_n 0, 1) := by decide +kernel
theorem d_M_putBack_30 : decode b_M_putBack 30 = .ok (.getfield 117, 3) := by decide +kernel
theorem d_M_putBack_33 : decode b_M_putBack 33 = .ok (.iload_n 1, 1) := by decide +kernel
theorem d_M_putBack_34 : decode b_M_putBack 34 = .ok (.iaload, 1) := by decide +kernel
theorem d_M_putBack_35 : decode b_M_putBack 35 = .ok (.iastore, 1) := by decide +kernel
theorem d_M_putBack_36 : decode b_M_putBack 36 = .ok (.aload_n 0, 1) := by decide +kernel
theorem d_M_putBack_37 : decode b_M_putBack 37 = .ok (.getfield 32, 3) := by decide +kernel
theorem d_M_putBack_40 : decode b_M_putBack 40 = .ok (.iload_n 1, 1) := by decide +kernel
theorem d_M_putBack_41 : decode b_M_putBack 41 = .ok (.aload_n 0, 1) := by decide +kernel
theorem d_M_putBack_42 : decode b_M_putBack 42 = .ok (.getfield 120, 3) := by decide +kernel
theorem d_M_putBack_45 : decode b_M_putBack 45 = .ok (.iload_n 1, 1) := by decide +kernel
theorem d_M_putBack_46 : decode b_M_putBack 46 = .ok (.iaload, 1) := by decide +kernel
theorem d_M_putBack_47 : decode b_M_putBack 47 = .ok (.iastore, 1) := by decide +kernel
theorem d_M_putBack_48 : decode b_M_putBack 48 = .ok (.aload_n 0, 1) := by decide +kernel
theorem d_M_putBack_49 : decode b_M_putBack 49 = .ok (.getfield 35, 3) := by decide +kernel
theorem d_M_putBack_52 : decode b_M_putBack 52 = .ok (.iload_n 1, 1) := by decide +kernel
theorem d_M_putBack_53 : decode b_M_putBack 53 = .ok (.aload_n 0, 1) := by decide +kernel
theorem d_M_putBack_54 : decode b_M_putBack 54 = .ok (.getfield 123, 3) := by decide +kernel
theorem d_M_putBack_57 : decode b_M_putBack 57 = .ok (.iload_n 1, 1) := by decide +kernel
theorem d_M_putBack_58 : decode b_M_putBack 58 = .ok (.iaload, 1) := by decide +kernel
theorem d_M_putBack_59 : decode b_M_putBack 59 = .ok (.iastore, 1) := by decide +kernel
theorem d_M_putBack_60 : decode b_M_putBack 60 = .ok (.iinc 1 1, 3) := by decide +kernel
theorem d_M_putBack_63 : decode b_M_putBack 63 = .ok (.goto (-45), 3) := by decide +kernel
theorem d_M_putBack_66 : decode b_M_putBack 66 = .ok (.return_, 1) := by decide +kernel
theorem d_M_goDays_0 : decode b_M_goDays 0 = .ok (.iconst 0, 1) := by decide +kernel
theorem d_M_goDays_1 : decode b_M_goDays 1 = .ok (.istore_n 2, 1) := by decide +kernel
theorem d_M_goDays_2 : decode b_M_goDays 2 = .ok (.iload_n 2, 1) := by decide +kernel
theorem d_M_goDays_3 : decode b_M_goDays 3 = .ok (.iload_n 1, 1) := by decide +kernel
theorem d_M_goDays_4 : decode b_M_goDays 4 = .ok (.if_icmp .ge 13, 3) := by decide +kernel
theorem d_M_goDays_7 : decode b_M_goDays 7 = .ok (.aload_n 0, 1) := by decide +kernel
theorem d_M_goDays_8 : decode b_M_goDays 8 = .ok (.invokevirtual 322, 3) := by decide +kernel
theorem d_M_goDays_11 : decode b_M_goDays 11 = .ok (.iinc 2 1, 3) := by decide +kernel
theorem d_M_goDays_14 : decode b_M_goDays 14 = .ok (.goto (-12), 3) := by decide +kernel
theorem d_M_goDays_17 : decode b_M_goDays 17 = .ok (.return_, 1) := by decide +kernel
theorem d_M_moreOf_0 : decode b_M_moreOf 0 = .ok (.iload_n 1, 1) := by decide +kernel
theorem d_M_moreOf_1 : decode b_M_moreOf 1 = .ok (.bipush 20, 2) := by decide +kernel
theorem d_M_moreOf_3 : decode b_M_moreOf 3 = .ok (.if_icmp .ge 23, 3) := by decide +kernel
theorem d_M_moreOf_6 : decode b_M_moreOf 6 = .ok (.aload_n 0, 1) := by decide +kernel
theorem d_M_moreOf_7 : decode b_M_moreOf 7 = .ok (.getfield 29, 3) := by decide +kernel
theorem d_M_moreOf_10 : decode b_M_moreOf 10 = .ok (.iload_n 1, 1) := by decide +kernel
theorem d_M_moreOf_11 : decode b_M_moreOf 11 = .ok (.bipush 10, 2) := by decide +kernel
theorem d_M_moreOf_13 : decode b_M_moreOf 13 = .ok (.isub, 1) := by decide +kernel
theorem d_M_moreOf_14 : decode b_M_moreOf 14 = .ok (.iaload, 1) := by decide +kernel
theorem d_M_moreOf_15 : decode b_M_moreOf 15 = .ok (.aload_n 0, 1) := by decide +kernel
theorem d_M_moreOf_16 : decode b_M_moreOf 16 = .ok (.getfield 117, 3) := by decide +kernel
theorem d_M_moreOf_19 : decode b_M_moreOf 19 = .ok (.iload_n 1, 1) := by decide +kernel
theorem d_M_moreOf_20 : decode b_M_moreOf 20 = .ok (.bipush 10, 2) := by decide +kernel
theorem d_M_moreOf_22 : decode b_M_moreOf 22 = .ok (.isub, 1) := by decide +kernel
theorem d_M_moreOf_23 : decode b_M_moreOf 23 = .ok (.iaload, 1) := by decide +kernel
theorem d_M_moreOf_24 : decode b_M_moreOf 24 = .ok (.isub, 1) := by decide +kernel
theorem d_M_moreOf_25 : decode b_M_moreOf 25 = .ok (.ireturn, 1) := by decide +kernel
theorem d_M_moreOf_26 : decode b_M_moreOf 26 = .ok (.aload_n 0, 1) := by decide +kernel
theorem d_M_moreOf_27 : decode b_M_moreOf 27 = .ok (.getfield 32, 3) := by decide +kernel
theorem d_M_moreOf_30 : decode b_M_moreOf 30 = .ok (.iload_n 1, 1) := by decide +kernel
theorem d_M_moreOf_31 : decode b_M_moreOf 31 = .ok (.bipush 20, 2) := by decide +kernel
theorem d_M_moreOf_33 : decode b_M_moreOf 33 = .ok (.isub, 1) := by decide +kernel
theorem d_M_moreOf_34 : decode b_M_moreOf 34 = .ok (.iaload, 1) := by decide +kernel
theorem d_M_moreOf_35 : decode b_M_moreOf 35 = .ok (.aload_n 0, 1) := by decide +kernel
theorem d_M_moreOf_36 : decode b_M_moreOf 36 = .ok (.getfield 120, 3) := by decide +kernel
theorem d_M_moreOf_39 : decode b_M_moreOf 39 = .ok (.iload_n 1, 1) := by decide +kernel
theorem d_M_moreOf_40 : decode b_M_moreOf 40 = .ok (.bipush 20, 2) := by decide +kernel
theorem d_M_moreOf_42 : decode b_M_moreOf 42 = .ok (.isub, 1) := by decide +kernel
theorem d_M_moreOf_43 : decode b_M_moreOf 43 = .ok (.iaload, 1) := by decide +kernel
theorem d_M_moreOf_44 : decode b_M_moreOf 44 = .ok (.isub, 1) := by decide +kernel
theorem d_M_moreOf_45 : decode b_M_moreOf 45 = .ok (.ireturn, 1) := by decide +kernel
theorem d_M_on_0 : decode b_M_on 0 = .ok (.aload_n 0, 1) := by decide +kernel
theorem d_M_on_1 : decode b_M_on 1 = .ok (.iload_n 2, 1) := by decide +kernel
theorem d_M_on_2 : decode b_M_on 2 = .ok (.iconst 0, 1) := by decide +kernel
theorem d_M_on_3 : decode b_M_on 3 = .ok (.iconst 2, 1) := by decide +kernel
theorem d_M_on_4 : decode b_M_on 4 = .ok (.invokevirtual 218, 3) := by decide +kernel
theorem d_M_on_7 : decode b_M_on 7 = .ok (.ifCond .ne 39, 3) := by decide +kernel
theorem d_M_on_10 : decode b_M_on 10 = .ok (.aload_n 0, 1) := by decide +kernel
theorem d_M_on_11 : decode b_M_on 11 = .ok (.iload_n 2, 1) := by decide +kernel
theorem d_M_on_12 : decode b_M_on 12 = .ok (.bipush 10, 2) := by decide +kernel
theorem d_M_on_14 : decode b_M_on 14 = .ok (.bipush 9, 2) := by decide +kernel
theorem d_M_on_16 : decode b_M_on 16 = .ok (.aload_n 0, 1) := by decide +kernel
theorem d_M_on_17 : decode b_M_on 17 = .ok (.getfield 7, 3) := by decide +kernel
theorem d_M_on_20 : decode b_M_on 20 = .ok (.iadd, 1) := by decide +kernel
theorem d_M_on_21 : decode b_M_on 21 = .ok (.invokevirtual 218, 3) := by decide +kernel
theorem d_M_on_24 : decode b_M_on 24 = .ok (.ifCond .ne 22, 3) := by decide +kernel
theorem d_M_on_27 : decode b_M_on 27 = .ok (.aload_n 0, 1) := by decide +kernel
theorem d_M_on_28 : decode b_M_on 28 = .ok (.iload_n 2, 1) := by decide +kernel
theorem d_M_on_29 : decode b_M_on 29 = .ok (.bipush 20, 2) := by decide +kernel
theorem d_M_on_31 : decode b_M_on 31 = .ok (.bipush 19, 2) := by decide +kernel
theorem d_M_on_33 : decode b_M_on 33 = .ok (.aload_n 0, 1) := by decide +kernel
theorem d_M_on_34 : decode b_M_on 34 = .ok (.getfield 7, 3) := by decide +kernel
theorem d_M_on_37 : decode b_M_on 37 = .ok (.iadd, 1) := by decide +kernel
theorem d_M_on_38 : decode b_M_on 38 = .ok (.invokevirtual 218, 3) := by decide +kernel
theorem d_M_on_41 : decode b_M_on 41 = .ok (.ifCond .ne 5, 3) := by decide +kernel
theorem d_M_on_44 : decode b_M_on 44 = .ok (.iconst (-1), 1) := by decide +kernel
theorem d_M_on_45 : decode b_M_on 45 = .ok (.ireturn, 1) := by decide +kernel
theorem d_M_on_46 : decode b_M_on 46 = .ok (.aload_n 0, 1) := by decide +kernel
theorem d_M_on_47 : decode b_M_on 47 = .ok (.iload_n 1, 1) := by decide +kernel
theorem d_M_on_48 : decode b_M_on 48 = .ok (.iconst 0, 1) := by decide +kernel
theorem d_M_on_49 : decode b_M_on 49 = .ok (.bipush 60, 2) := by decide +kernel
theorem d_M_on_51 : decode b_M_on 51 = .ok (.invokevirtual 218, 3) := by decide +kernel
theorem d_M_on_54 : decode b_M_on 54 = .ok (.ifCond .ne 6, 3) := by decide +kernel
theorem d_M_on_57 : decode b_M_on 57 = .ok (.bipush (-2), 2) := by decide +kernel
theorem d_M_on_59 : decode b_M_on 59 = .ok (.ireturn, 1) := by decide +kernel
theorem d_M_on_60 : decode b_M_on 60 = .ok (.aload_n 0, 1) := by decide +kernel
theorem d_M_on_61 : decode b_M_on 61 = .ok (.iconst 0, 1) := by decide +kernel
theorem d_M_on_62 : decode b_M_on 62 = .ok (.invokevirtual 301, 3) := by decide +kernel
theorem d_M_on_65 : decode b_M_on 65 = .ok (.istore_n 3, 1) := by decide +kernel
theorem d_M_on_66 : decode b_M_on 66 = .ok (.aload_n 0, 1) := by decide +kernel
theorem d_M_on_67 : decode b_M_on 67 = .ok (.iconst 1, 1) := by decide +kernel
theorem d_M_on_68 : decode b_M_on 68 = .ok (.invokevirtual 301, 3) := by decide +kernel
theorem d_M_on_71 : decode b_M_on 71 = .ok (.istore 4, 2) := by decide +kernel
theorem d_M_on_73 : decode b_M_on 73 = .ok (.aload_n 0, 1) := by decide +kernel
theorem d_M_on_74 : decode b_M_on 74 = .ok (.invokevirtual 325, 3) := by decide +kernel
theorem d_M_on_77 : decode b_M_on 77 = .ok (.aload_n 0, 1) := by decide +kernel
theorem d_M_on_78 : decode b_M_on 78 = .ok (.iload_n 1, 1) := by decide +kernel
theorem d_M_on_79 : decode b_M_on 79 = .ok (.invokevirtual 328, 3) := by decide +kernel
theorem d_M_on_82 : decode b_M_on 82 = .ok (.iload_n 2, 1) := by decide +kernel
theorem d_M_on_83 : decode b_M_on 83 = .ok (.ifCond .ne 10, 3) := by decide +kernel
theorem d_M_on_86 : decode b_M_on 86 = .ok (.aload_n 0, 1) := by decide +kernel
theorem d_M_on_87 : decode b_M_on 87 = .ok (.getfield 13, 3) := by decide +kernel
theorem d_M_on_90 : decode b_M_on 90 = .ok (.goto 39, 3) := by decide +kernel
theorem d_M_on_93 : decode b_M_on 93 = .ok (.iload_n 2, 1) := by decide +kernel
theorem d_M_on_94 : decode b_M_on 94 = .ok (.iconst 1, 1) := by decide +kernel
theorem d_M_on_95 : decode b_M_on 95 = .ok (.if_icmp .ne 13, 3) := by decide +kernel
theorem d_M_on_98 : decode b_M_on 98 = .ok (.aload_n 0, 1) := by decide +kernel
theorem d_M_on_99 : decode b_M_on 99 = .ok (.iconst 0, 1) := by decide +kernel
theorem d_M_on_100 : decode b_M_on 100 = .ok (.invokevirtual 301, 3) := by decide +kernel
theorem d_M_on_103 : decode b_M_on 103 = .ok (.iload_n 3, 1) := by decide +kernel
theorem d_M_on_104 : decode b_M_on 104 = .ok (.isub, 1) := by decide +kernel
theorem d_M_on_105 : decode b_M_on 105 = .ok (.goto 24, 3) := by decide +kernel
theorem d_M_on_108 : decode b_M_on 108 = .ok (.iload_n 2, 1) := by decide +kernel
theorem d_M_on_109 : decode b_M_on 109 = .ok (.iconst 2, 1) := by decide +kernel
theorem d_M_on_110 : decode b_M_on 110 = .ok (.if_icmp .ne 14, 3) := by decide +kernel
theorem d_M_on_113 : decode b_M_on 113 = .ok (.aload_n 0, 1) := by decide +kernel
theorem d_M_on_114 : decode b_M_on 114 = .ok (.iconst 1, 1) := by decide +kernel
theorem d_M_on_115 : decode b_M_on 115 = .ok (.invokevirtual 301, 3) := by decide +kernel
theorem d_M_on_118 : decode b_M_on 118 = .ok (.iload 4, 2) := by decide +kernel
theorem d_M_on_120 : decode b_M_on 120 = .ok (.isub, 1) := by decide +kernel
theorem d_M_on_121 : decode b_M_on 121 = .ok (.goto 8, 3) := by decide +kernel
theorem d_M_on_124 : decode b_M_on 124 = .ok (.aload_n 0, 1) := by decide +kernel
theorem d_M_on_125 : decode b_M_on 125 = .ok (.iload_n 2, 1) := by decide +kernel
theorem d_M_on_126 : decode b_M_on 126 = .ok (.invokevirtual 331, 3) := by decide +kernel
theorem d_M_on_129 : decode b_M_on 129 = .ok (.istore 5, 2) := by decide +kernel
theorem d_M_on_131 : decode b_M_on 131 = .ok (.aload_n 0, 1) := by decide +kernel
theorem d_M_on_132 : decode b_M_on 132 = .ok (.invokevirtual 334, 3) := by decide +kernel
theorem d_M_on_135 : decode b_M_on 135 = .ok (.iload 5, 2) := by decide +kernel
theorem d_M_on_137 : decode b_M_on 137 = .ok (.ireturn, 1) := by decide +kernel
theorem d_M_would_0 : decode b_M_would 0 = .ok (.aload_n 0, 1) := by decide +kernel
theorem d_M_would_1 : decode b_M_would 1 = .ok (.iload_n 1, 1) := by decide +kernel
theorem d_M_would_2 : decode b_M_would 2 = .ok (.invokevirtual 222, 3) := by decide +kernel
theorem d_M_would_5 : decode b_M_would 5 = .ok (.ifCond .eq 13, 3) := by decide +kernel
theorem d_M_would_8 : decode b_M_would 8 = .ok (.aload_n 0, 1) := by decide +kernel
theorem d_M_would_9 : decode b_M_would 9 = .ok (.iload_n 2, 1) := by decide +kernel
theorem d_M_would_10 : decode b_M_would 10 = .ok (.iconst 0, 1) := by decide +kernel
theorem d_M_would_11 : decode b_M_would 11 = .ok (.iconst 2, 1) := by decide +kernel
theorem d_M_would_12 : decode b_M_would 12 = .ok (.invokevirtual 218, 3) := by decide +kernel
theorem d_M_would_15 : decode b_M_would 15 = .ok (.ifCond .ne 5, 3) := by decide +kernel
theorem d_M_would_18 : decode b_M_would 18 = .ok (.iconst (-1), 1) := by decide +kernel
theorem d_M_would_19 : decode b_M_would 19 = .ok (.ireturn, 1) := by decide +kernel
theorem d_M_would_20 : decode b_M_would 20 = .ok (.aload_n 0, 1) := by decide +kernel
theorem d_M_would_21 : decode b_M_would 21 = .ok (.invokevirtual 325, 3) := by decide +kernel
theorem d_M_would_24 : decode b_M_would 24 = .ok (.aload_n 0, 1) := by decide +kernel
theorem d_M_would_25 : decode b_M_would 25 = .ok (.iload_n 1, 1) := by decide +kernel
theorem d_M_would_26 : decode b_M_would 26 = .ok (.invokevirtual 319, 3) := by decide +kernel
theorem d_M_would_29 : decode b_M_would 29 = .ok (.istore_n 3, 1) := by decide +kernel
theorem d_M_would_30 : decode b_M_would 30 = .ok (.iload_n 2, 1) := by decide +kernel
theorem d_M_would_31 : decode b_M_would 31 = .ok (.ifCond .ne 7, 3) := by decide +kernel
theorem d_M_would_34 : decode b_M_would 34 = .ok (.iload_n 3, 1) := by decide +kernel
theorem d_M_would_35 : decode b_M_would 35 = .ok (.goto 28, 3) := by decide +kernel
theorem d_M_would_38 : decode b_M_would 38 = .ok (.iload_n 2, 1) := by decide +kernel
theorem d_M_would_39 : decode b_M_would 39 = .ok (.iconst 1, 1) := by decide +kernel
theorem d_M_would_40 : decode b_M_would 40 = .ok (.if_icmp .ne 10, 3) := by decide +kernel
theorem d_M_would_43 : decode b_M_would 43 = .ok (.aload_n 0, 1) := by decide +kernel
theorem d_M_would_44 : decode b_M_would 44 = .ok (.getfield 13, 3) := by decide +kernel
theorem d_M_would_47 : decode b_M_would 47 = .ok (.goto 16, 3) := by decide +kernel
theorem d_M_would_50 : decode b_M_would 50 = .ok (.aload_n 0, 1) := by decide +kernel
theorem d_M_would_51 : decode b_M_would 51 = .ok (.getfield 32, 3) := by decide +kernel
theorem d_M_would_54 : decode b_M_would 54 = .ok (.iload_n 1, 1) := by decide +kernel
theorem d_M_would_55 : decode b_M_would 55 = .ok (.iaload, 1) := by decide +kernel
theorem d_M_would_56 : decode b_M_would 56 = .ok (.aload_n 0, 1) := by decide +kernel
theorem d_M_would_57 : decode b_M_would 57 = .ok (.getfield 120, 3) := by decide +kernel
theorem d_M_would_60 : decode b_M_would 60 = .ok (.iload_n 1, 1) := by decide +kernel
theorem d_M_would_61 : decode b_M_would 61 = .ok (.iaload, 1) := by decide +kernel
theorem d_M_would_62 : decode b_M_would 62 = .ok (.isub, 1) := by decide +kernel
theorem d_M_would_63 : decode b_M_would 63 = .ok (.istore 4, 2) := by decide +kernel
theorem d_M_would_65 : decode b_M_would 65 = .ok (.aload_n 0, 1) := by decide +kernel
theorem d_M_would_66 : decode b_M_would 66 = .ok (.invokevirtual 334, 3) := by decide +kernel
theorem d_M_would_69 : decode b_M_would 69 = .ok (.iload 4, 2) := by decide +kernel
theorem d_M_would_71 : decode b_M_would 71 = .ok (.ireturn, 1) := by decide +kernel
theorem d_M_next_0 : decode b_M_next 0 = .ok (.aload_n 0, 1) := by decide +kernel
theorem d_M_next_1 : decode b_M_next 1 = .ok (.iload_n 1, 1) := by decide +kernel
theorem d_M_next_2 : decode b_M_next 2 = .ok (.iconst 0, 1) := by decide +kernel
theorem d_M_next_3 : decode b_M_next 3 = .ok (.iconst 1, 1) := by decide +kernel
theorem d_M_next_4 : decode b_M_next 4 = .ok (.invokevirtual 218, 3) := by decide +kernel
theorem d_M_next_7 : decode b_M_next 7 = .ok (.ifCond .ne 5, 3) := by decide +kernel
theorem d_M_next_10 : decode b_M_next 10 = .ok (.iconst (-1), 1) := by decide +kernel
theorem d_M_next_11 : decode b_M_next 11 = .ok (.ireturn, 1) := by decide +kernel
theorem d_M_next_12 : decode b_M_next 12 = .ok (.aload_n 0, 1) := by decide +kernel
theorem d_M_next_13 : decode b_M_next 13 = .ok (.invokevirtual 325, 3) := by decide +kernel
theorem d_M_next_16 : decode b_M_next 16 = .ok (.bipush (-5), 2) := by decide +kernel
theorem d_M_next_18 : decode b_M_next 18 = .ok (.istore_n 2, 1) := by decide +kernel
theorem d_M_next_19 : decode b_M_next 19 = .ok (.bipush (-5), 2) := by decide +kernel
theorem d_M_next_21 : decode b_M_next 21 = .ok (.istore_n 3, 1) := by decide +kernel
theorem d_M_next_22 : decode b_M_next 22 = .ok (.iconst 0, 1) := by decide +kernel
theorem d_M_next_23 : decode b_M_next 23 = .ok (.istore 4, 2) := by decide +kernel
theorem d_M_next_25 : decode b_M_next 25 = .ok (.iload 4, 2) := by decide +kernel
theorem d_M_next_27 : decode b_M_next 27 = .ok (.bipush 60, 2) := by decide +kernel
theorem d_M_next_29 : decode b_M_next 29 = .ok (.if_icmp .ge 79, 3) := by decide +kernel
theorem d_M_next_32 : decode b_M_next 32 = .ok (.iload_n 2, 1) := by decide +kernel
theorem d_M_next_33 : decode b_M_next 33 = .ok (.ifCond .ge 75, 3) := by decide +kernel
theorem d_M_next_36 : decode b_M_next 36 = .ok (.iconst 0, 1) := by decide +kernel
theorem d_M_next_37 : decode b_M_next 37 = .ok (.istore 5, 2) := by decide +kernel
theorem d_M_next_39 : decode b_M_next 39 = .ok (.iload 5, 2) := by decide +kernel
theorem d_M_next_41 : decode b_M_next 41 = .ok (.aload_n 0, 1) := by decide +kernel
theorem d_M_next_42 : decode b_M_next 42 = .ok (.getfield 7, 3) := by decide +kernel
theorem d_M_next_45 : decode b_M_next 45 = .ok (.if_icmp .ge 47, 3) := by decide +kernel
theorem d_M_next_48 : decode b_M_next 48 = .ok (.iload_n 2, 1) := by decide +kernel
theorem d_M_next_49 : decode b_M_next 49 = .ok (.ifCond .ge 43, 3) := by decide +kernel
theorem d_M_next_52 : decode b_M_next 52 = .ok (.aload_n 0, 1) := by decide +kernel
theorem d_M_next_53 : decode b_M_next 53 = .ok (.iload 5, 2) := by decide +kernel
theorem d_M_next_55 : decode b_M_next 55 = .ok (.invokevirtual 319, 3) := by decide +kernel
theorem d_M_next_58 : decode b_M_next 58 = .ok (.istore 6, 2) := by decide +kernel
theorem d_M_next_60 : decode b_M_next 60 = .ok (.aload_n 0, 1) := by decide +kernel
theorem d_M_next_61 : decode b_M_next 61 = .ok (.getfield 32, 3) := by decide +kernel
theorem d_M_next_64 : decode b_M_next 64 = .ok (.iload 5, 2) := by decide +kernel
theorem d_M_next_66 : decode b_M_next 66 = .ok (.iaload, 1) := by decide +kernel
theorem d_M_next_67 : decode b_M_next 67 = .ok (.aload_n 0, 1) := by decide +kernel
theorem d_M_next_68 : decode b_M_next 68 = .ok (.getfield 120, 3) := by decide +kernel
theorem d_M_next_71 : decode b_M_next 71 = .ok (.iload 5, 2) := by decide +kernel
theorem d_M_next_73 : decode b_M_next 73 = .ok (.iaload, 1) := by decide +kernel
theorem d_M_next_74 : decode b_M_next 74 = .ok (.if_icmp .ne 6, 3) := by decide +kernel
theorem d_M_next_77 : decode b_M_next 77 = .ok (.goto 9, 3) := by decide +kernel
theorem d_M_next_80 : decode b_M_next 80 = .ok (.iload 5, 2) := by decide +kernel
theorem d_M_next_82 : decode b_M_next 82 = .ok (.istore_n 2, 1) := by decide +kernel
theorem d_M_next_83 : decode b_M_next 83 = .ok (.iload 4, 2) := by decide +kernel
theorem d_M_next_85 : decode b_M_next 85 = .ok (.istore_n 3, 1) := by decide +kernel
theorem d_M_next_86 : decode b_M_next 86 = .ok (.iinc 5 1, 3) := by decide +kernel
theorem d_M_next_89 : decode b_M_next 89 = .ok (.goto (-50), 3) := by decide +kernel
theorem d_M_next_92 : decode b_M_next 92 = .ok (.aload_n 0, 1) := by decide +kernel
theorem d_M_next_93 : decode b_M_next 93 = .ok (.dup, 1) := by decide +kernel
theorem d_M_next_94 : decode b_M_next 94 = .ok (.getfield 16, 3) := by decide +kernel
theorem d_M_next_97 : decode b_M_next 97 = .ok (.iconst 1, 1) := by decide +kernel
theorem d_M_next_98 : decode b_M_next 98 = .ok (.iadd, 1) := by decide +kernel
theorem d_M_next_99 : decode b_M_next 99 = .ok (.putfield 16, 3) := by decide +kernel
theorem d_M_next_102 : decode b_M_next 102 = .ok (.iinc 4 1, 3) := by decide +kernel
theorem d_M_next_105 : decode b_M_next 105 = .ok (.goto (-80), 3) := by decide +kernel
theorem d_M_next_108 : decode b_M_next 108 = .ok (.aload_n 0, 1) := by decide +kernel
theorem d_M_next_109 : decode b_M_next 109 = .ok (.invokevirtual 334, 3) := by decide +kernel
theorem d_M_next_112 : decode b_M_next 112 = .ok (.iload_n 1, 1) := by decide +kernel
theorem d_M_next_113 : decode b_M_next 113 = .ok (.ifCond .ne 7, 3) := by decide +kernel
theorem d_M_next_116 : decode b_M_next 116 = .ok (.iload_n 2, 1) := by decide +kernel
theorem d_M_next_117 : decode b_M_next 117 = .ok (.goto 4, 3) := by decide +kernel
theorem d_M_next_120 : decode b_M_next 120 = .ok (.iload_n 3, 1) := by decide +kernel
theorem d_M_next_121 : decode b_M_next 121 = .ok (.ireturn, 1) := by decide +kernel
theorem d_M_fetchesIn_0 : decode b_M_fetchesIn 0 = .ok (.aload_n 0, 1) := by decide +kernel
theorem d_M_fetchesIn_1 : decode b_M_fetchesIn 1 = .ok (.iconst 0, 1) := by decide +kernel
theorem d_M_fetchesIn_2 : decode b_M_fetchesIn 2 = .ok (.invokevirtual 301, 3) := by decide +kernel
theorem d_M_fetchesIn_5 : decode b_M_fetchesIn 5 = .ok (.istore_n 2, 1) := by decide +kernel
theorem d_M_fetchesIn_6 : decode b_M_fetchesIn 6 = .ok (.aload_n 0, 1) := by decide +kernel
theorem d_M_fetchesIn_7 : decode b_M_fetchesIn 7 = .ok (.invokevirtual 325, 3) := by decide +kernel
theorem d_M_fetchesIn_10 : decode b_M_fetchesIn 10 = .ok (.aload_n 0, 1) := by decide +kernel
theorem d_M_fetchesIn_11 : decode b_M_fetchesIn 11 = .ok (.iload_n 1, 1) := by decide +kernel
theorem d_M_fetchesIn_12 : decode b_M_fetchesIn 12 = .ok (.invokevirtual 328, 3) := by decide +kernel
theorem d_M_fetchesIn_15 : decode b_M_fetchesIn 15 = .ok (.aload_n 0, 1) := by decide +kernel
theorem d_M_fetchesIn_16 : decode b_M_fetchesIn 16 = .ok (.iconst 0, 1) := by decide +kernel
theorem d_M_fetchesIn_17 : decode b_M_fetchesIn 17 = .ok (.invokevirtual 301, 3) := by decide +kernel
theorem d_M_fetchesIn_20 : decode b_M_fetchesIn 20 = .ok (.iload_n 2, 1) := by decide +kernel
theorem d_M_fetchesIn_21 : decode b_M_fetchesIn 21 = .ok (.isub, 1) := by decide +kernel
theorem d_M_fetchesIn_22 : decode b_M_fetchesIn 22 = .ok (.istore_n 3, 1) := by decide +kernel
theorem d_M_fetchesIn_23 : decode b_M_fetchesIn 23 = .ok (.aload_n 0, 1) := by decide +kernel
theorem d_M_fetchesIn_24 : decode b_M_fetchesIn 24 = .ok (.invokevirtual 334, 3) := by decide +kernel
theorem d_M_fetchesIn_27 : decode b_M_fetchesIn 27 = .ok (.iload_n 3, 1) := by decide +kernel
theorem d_M_fetchesIn_28 : decode b_M_fetchesIn 28 = .ok (.ireturn, 1) := by decide +kernel
theorem d_M_least_0 : decode b_M_least 0 = .ok (.aload_n 0, 1) := by decide +kernel
theorem d_M_least_1 : decode b_M_least 1 = .ok (.iload_n 2, 1) := by decide +kernel
theorem d_M_least_2 : decode b_M_least 2 = .ok (.iconst 0, 1) := by decide +kernel
theorem d_M_least_3 : decode b_M_least 3 = .ok (.iconst 1, 1) := by decide +kernel
theorem d_M_least_4 : decode b_M_least 4 = .ok (.invokevirtual 218, 3) := by decide +kernel
theorem d_M_least_7 : decode b_M_least 7 = .ok (.ifCond .ne 5, 3) := by decide +kernel
theorem d_M_least_10 : decode b_M_least 10 = .ok (.iconst (-1), 1) := by decide +kernel
theorem d_M_least_11 : decode b_M_least 11 = .ok (.ireturn, 1) := by decide +kernel
theorem d_M_least_12 : decode b_M_least 12 = .ok (.aload_n 0, 1) := by decide +kernel
theorem d_M_least_13 : decode b_M_least 13 = .ok (.iload_n 1, 1) := by decide +kernel
theorem d_M_least_14 : decode b_M_least 14 = .ok (.iconst 1, 1) := by decide +kernel
theorem d_M_least_15 : decode b_M_least 15 = .ok (.bipush 10, 2) := by decide +kernel
theorem d_M_least_17 : decode b_M_least 17 = .ok (.invokevirtual 218, 3) := by decide +kernel
theorem d_M_least_20 : decode b_M_least 20 = .ok (.ifCond .ne 6, 3) := by decide +kernel
theorem d_M_least_23 : decode b_M_least 23 = .ok (.bipush (-2), 2) := by decide +kernel
theorem d_M_least_25 : decode b_M_least 25 = .ok (.ireturn, 1) := by decide +kernel
theorem d_M_least_26 : decode b_M_least 26 = .ok (.iconst (-1), 1) := by decide +kernel
theorem d_M_least_27 : decode b_M_least 27 = .ok (.istore_n 3, 1) := by decide +kernel
theorem d_M_least_28 : decode b_M_least 28 = .ok (.iconst 0, 1) := by decide +kernel
theorem d_M_least_29 : decode b_M_least 29 = .ok (.istore 4, 2) := by decide +kernel
theorem d_M_least_31 : decode b_M_least 31 = .ok (.iconst 0, 1) := by decide +kernel
theorem d_M_least_32 : decode b_M_least 32 = .ok (.istore 5, 2) := by decide +kernel
theorem d_M_least_34 : decode b_M_least 34 = .ok (.iload 5, 2) := by decide +kernel
theorem d_M_least_36 : decode b_M_least 36 = .ok (.bipush 21, 2) := by decide +kernel
theorem d_M_least_38 : decode b_M_least 38 = .ok (.if_icmp .ge 43, 3) := by decide +kernel
theorem d_M_least_41 : decode b_M_least 41 = .ok (.aload_n 0, 1) := by decide +kernel
theorem d_M_least_42 : decode b_M_least 42 = .ok (.iload 5, 2) := by decide +kernel
theorem d_M_least_44 : decode b_M_least 44 = .ok (.putfield 92, 3) := by decide +kernel
theorem d_M_least_47 : decode b_M_least 47 = .ok (.aload_n 0, 1) := by decide +kernel
theorem d_M_least_48 : decode b_M_least 48 = .ok (.iload_n 1, 1) := by decide +kernel
theorem d_M_least_49 : decode b_M_least 49 = .ok (.invokevirtual 337, 3) := by decide +kernel
theorem d_M_least_52 : decode b_M_least 52 = .ok (.istore 6, 2) := by decide +kernel
theorem d_M_least_54 : decode b_M_least 54 = .ok (.iload_n 3, 1) := by decide +kernel
theorem d_M_least_55 : decode b_M_least 55 = .ok (.ifCond .lt 13, 3) := by decide +kernel
theorem d_M_least_58 : decode b_M_least 58 = .ok (.iload 6, 2) := by decide +kernel
theorem d_M_least_60 : decode b_M_least 60 = .ok (.iload 4, 2) := by decide +kernel
theorem d_M_least_62 : decode b_M_least 62 = .ok (.if_icmp .lt 6, 3) := by decide +kernel
theorem d_M_least_65 : decode b_M_least 65 = .ok (.goto 10, 3) := by decide +kernel
theorem d_M_least_68 : decode b_M_least 68 = .ok (.iload 5, 2) := by decide +kernel
theorem d_M_least_70 : decode b_M_least 70 = .ok (.istore_n 3, 1) := by decide +kernel
theorem d_M_least_71 : decode b_M_least 71 = .ok (.iload 6, 2) := by decide +kernel
theorem d_M_least_73 : decode b_M_least 73 = .ok (.istore 4, 2) := by decide +kernel
theorem d_M_least_75 : decode b_M_least 75 = .ok (.iinc 5 1, 3) := by decide +kernel
theorem d_M_least_78 : decode b_M_least 78 = .ok (.goto (-44), 3) := by decide +kernel
theorem d_M_least_81 : decode b_M_least 81 = .ok (.aload_n 0, 1) := by decide +kernel
theorem d_M_least_82 : decode b_M_least 82 = .ok (.iconst (-1), 1) := by decide +kernel
theorem d_M_least_83 : decode b_M_least 83 = .ok (.putfield 92, 3) := by decide +kernel
theorem d_M_least_86 : decode b_M_least 86 = .ok (.iload_n 2, 1) := by decide +kernel
theorem d_M_least_87 : decode b_M_least 87 = .ok (.ifCond .ne 7, 3) := by decide +kernel
theorem d_M_least_90 : decode b_M_least 90 = .ok (.iload_n 3, 1) := by decide +kernel
theorem d_M_least_91 : decode b_M_least 91 = .ok (.goto 5, 3) := by decide +kernel
theorem d_M_least_94 : decode b_M_least 94 = .ok (.iload 4, 2) := by decide +kernel
theorem d_M_least_96 : decode b_M_least 96 = .ok (.ireturn, 1) := by decide +kernel
theorem d_M_full_0 : decode b_M_full 0 = .ok (.aload_n 0, 1) := by decide +kernel
theorem d_M_full_1 : decode b_M_full 1 = .ok (.iload_n 2, 1) := by decide +kernel
theorem d_M_full_2 : decode b_M_full 2 = .ok (.iconst 0, 1) := by decide +kernel
theorem d_M_full_3 : decode b_M_full 3 = .ok (.iconst 1, 1) := by decide +kernel
theorem d_M_full_4 : decode b_M_full 4 = .ok (.invokevirtual 218, 3) := by decide +kernel
theorem d_M_full_7 : decode b_M_full 7 = .ok (.ifCond .ne 5, 3) := by decide +kernel
theorem d_M_full_10 : decode b_M_full 10 = .ok (.iconst (-1), 1) := by decide +kernel
theorem d_M_full_11 : decode b_M_full 11 = .ok (.ireturn, 1) := by decide +kernel
theorem d_M_full_12 : decode b_M_full 12 = .ok (.aload_n 0, 1) := by decide +kernel
theorem d_M_full_13 : decode b_M_full 13 = .ok (.iload_n 1, 1) := by decide +kernel
theorem d_M_full_14 : decode b_M_full 14 = .ok (.iconst 1, 1) := by decide +kernel
theorem d_M_full_15 : decode b_M_full 15 = .ok (.bipush 10, 2) := by decide +kernel
theorem d_M_full_17 : decode b_M_full 17 = .ok (.invokevirtual 218, 3) := by decide +kernel
theorem d_M_full_20 : decode b_M_full 20 = .ok (.ifCond .ne 6, 3) := by decide +kernel
theorem d_M_full_23 : decode b_M_full 23 = .ok (.bipush (-2), 2) := by decide +kernel
theorem d_M_full_25 : decode b_M_full 25 = .ok (.ireturn, 1) := by decide +kernel
theorem d_M_full_26 : decode b_M_full 26 = .ok (.iconst (-1), 1) := by decide +kernel
theorem d_M_full_27 : decode b_M_full 27 = .ok (.istore_n 3, 1) := by decide +kernel
theorem d_M_full_28 : decode b_M_full 28 = .ok (.iconst 0, 1) := by decide +kernel
theorem d_M_full_29 : decode b_M_full 29 = .ok (.istore 4, 2) := by decide +kernel
theorem d_M_full_31 : decode b_M_full 31 = .ok (.bipush 10, 2) := by decide +kernel
theorem d_M_full_33 : decode b_M_full 33 = .ok (.istore 5, 2) := by decide +kernel
theorem d_M_full_35 : decode b_M_full 35 = .ok (.iload 5, 2) := by decide +kernel
theorem d_M_full_37 : decode b_M_full 37 = .ok (.sipush 301, 3) := by decide +kernel
theorem d_M_full_40 : decode b_M_full 40 = .ok (.if_icmp .ge 52, 3) := by decide +kernel
theorem d_M_full_43 : decode b_M_full 43 = .ok (.aload_n 0, 1) := by decide +kernel
theorem d_M_full_44 : decode b_M_full 44 = .ok (.iload 5, 2) := by decide +kernel
theorem d_M_full_46 : decode b_M_full 46 = .ok (.putfield 95, 3) := by decide +kernel
theorem d_M_full_49 : decode b_M_full 49 = .ok (.aload_n 0, 1) := by decide +kernel
theorem d_M_full_50 : decode b_M_full 50 = .ok (.iload_n 1, 1) := by decide +kernel
theorem d_M_full_51 : decode b_M_full 51 = .ok (.invokevirtual 337, 3) := by decide +kernel
theorem d_M_full_54 : decode b_M_full 54 = .ok (.iload 5, 2) := by decide +kernel
theorem d_M_full_56 : decode b_M_full 56 = .ok (.bipush 10, 2) := by decide +kernel
theorem d_M_full_58 : decode b_M_full 58 = .ok (.idiv, 1) := by decide +kernel
theorem d_M_full_59 : decode b_M_full 59 = .ok (.bipush 9, 2) := by decide +kernel
theorem d_M_full_61 : decode b_M_full 61 = .ok (.iadd, 1) := by decide +kernel
theorem d_M_full_62 : decode b_M_full 62 = .ok (.imul, 1) := by decide +kernel
theorem d_M_full_63 : decode b_M_full 63 = .ok (.istore 6, 2) := by decide +kernel
theorem d_M_full_65 : decode b_M_full 65 = .ok (.iload_n 3, 1) := by decide +kernel
theorem d_M_full_66 : decode b_M_full 66 = .ok (.ifCond .lt 13, 3) := by decide +kernel
theorem d_M_full_69 : decode b_M_full 69 = .ok (.iload 6, 2) := by decide +kernel
theorem d_M_full_71 : decode b_M_full 71 = .ok (.iload 4, 2) := by decide +kernel
theorem d_M_full_73 : decode b_M_full 73 = .ok (.if_icmp .lt 6, 3) := by decide +kernel
theorem d_M_full_76 : decode b_M_full 76 = .ok (.goto 10, 3) := by decide +kernel
theorem d_M_full_79 : decode b_M_full 79 = .ok (.iload 5, 2) := by decide +kernel
theorem d_M_full_81 : decode b_M_full 81 = .ok (.istore_n 3, 1) := by decide +kernel
theorem d_M_full_82 : decode b_M_full 82 = .ok (.iload 6, 2) := by decide +kernel
theorem d_M_full_84 : decode b_M_full 84 = .ok (.istore 4, 2) := by decide +kernel
theorem d_M_full_86 : decode b_M_full 86 = .ok (.iinc 5 10, 3) := by decide +kernel
theorem d_M_full_89 : decode b_M_full 89 = .ok (.goto (-54), 3) := by decide +kernel
theorem d_M_full_92 : decode b_M_full 92 = .ok (.aload_n 0, 1) := by decide +kernel
theorem d_M_full_93 : decode b_M_full 93 = .ok (.iconst (-1), 1) := by decide +kernel
theorem d_M_full_94 : decode b_M_full 94 = .ok (.putfield 95, 3) := by decide +kernel
theorem d_M_full_97 : decode b_M_full 97 = .ok (.iload_n 2, 1) := by decide +kernel
theorem d_M_full_98 : decode b_M_full 98 = .ok (.ifCond .ne 7, 3) := by decide +kernel
theorem d_M_full_101 : decode b_M_full 101 = .ok (.iload_n 3, 1) := by decide +kernel
theorem d_M_full_102 : decode b_M_full 102 = .ok (.goto 5, 3) := by decide +kernel
theorem d_M_full_105 : decode b_M_full 105 = .ok (.iload 4, 2) := by decide +kernel
theorem d_M_full_107 : decode b_M_full 107 = .ok (.ireturn, 1) := by decide +kernel
theorem d_M_layOrder_0 : decode b_M_layOrder 0 = .ok (.iconst 1, 1) := by decide +kernel
theorem d_M_layOrder_1 : decode b_M_layOrder 1 = .ok (.istore_n 2, 1) := by decide +kernel
theorem d_M_layOrder_2 : decode b_M_layOrder 2 = .ok (.iconst 2, 1) := by decide +kernel
theorem d_M_layOrder_3 : decode b_M_layOrder 3 = .ok (.istore_n 3, 1) := by decide +kernel
theorem d_M_layOrder_4 : decode b_M_layOrder 4 = .ok (.iload_n 3, 1) := by decide +kernel
theorem d_M_layOrder_5 : decode b_M_layOrder 5 = .ok (.aload_n 0, 1) := by decide +kernel
theorem d_M_layOrder_6 : decode b_M_layOrder 6 = .ok (.getfield 7, 3) := by decide +kernel
theorem d_M_layOrder_9 : decode b_M_layOrder 9 = .ok (.if_icmp .gt 13, 3) := by decide +kernel
theorem d_M_layOrder_12 : decode b_M_layOrder 12 = .ok (.iload_n 2, 1) := by decide +kernel
theorem d_M_layOrder_13 : decode b_M_layOrder 13 = .ok (.iload_n 3, 1) := by decide +kernel
theorem d_M_layOrder_14 : decode b_M_layOrder 14 = .ok (.imul, 1) := by decide +kernel
theorem d_M_layOrder_15 : decode b_M_layOrder 15 = .ok (.istore_n 2, 1) := by decide +kernel
theorem d_M_layOrder_16 : decode b_M_layOrder 16 = .ok (.iinc 3 1, 3) := by decide +kernel
theorem d_M_layOrder_19 : decode b_M_layOrder 19 = .ok (.goto (-15), 3) := by decide +kernel
theorem d_M_layOrder_22 : decode b_M_layOrder 22 = .ok (.iload_n 1, 1) := by decide +kernel
theorem d_M_layOrder_23 : decode b_M_layOrder 23 = .ok (.iload_n 2, 1) := by decide +kernel
theorem d_M_layOrder_24 : decode b_M_layOrder 24 = .ok (.if_icmp .lt 5, 3) := by decide +kernel
theorem d_M_layOrder_27 : decode b_M_layOrder 27 = .ok (.iconst 0, 1) := by decide +kernel
theorem d_M_layOrder_28 : decode b_M_layOrder 28 = .ok (.ireturn, 1) := by decide +kernel
theorem d_M_layOrder_29 : decode b_M_layOrder 29 = .ok (.iconst 1, 1) := by decide +kernel
theorem d_M_layOrder_30 : decode b_M_layOrder 30 = .ok (.aload_n 0, 1) := by decide +kernel
theorem d_M_layOrder_31 : decode b_M_layOrder 31 = .ok (.getfield 7, 3) := by decide +kernel
theorem d_M_layOrder_34 : decode b_M_layOrder 34 = .ok (.ishl, 1) := by decide +kernel
theorem d_M_layOrder_35 : decode b_M_layOrder 35 = .ok (.iconst 1, 1) := by decide +kernel
theorem d_M_layOrder_36 : decode b_M_layOrder 36 = .ok (.isub, 1) := by decide +kernel
theorem d_M_layOrder_37 : decode b_M_layOrder 37 = .ok (.istore_n 3, 1) := by decide +kernel
theorem d_M_layOrder_38 : decode b_M_layOrder 38 = .ok (.iload_n 1, 1) := by decide +kernel
theorem d_M_layOrder_39 : decode b_M_layOrder 39 = .ok (.istore 4, 2) := by decide +kernel
theorem d_M_layOrder_41 : decode b_M_layOrder 41 = .ok (.iconst 0, 1) := by decide +kernel
theorem d_M_layOrder_42 : decode b_M_layOrder 42 = .ok (.istore 5, 2) := by decide +kernel
theorem d_M_layOrder_44 : decode b_M_layOrder 44 = .ok (.iload 5, 2) := by decide +kernel
theorem d_M_layOrder_46 : decode b_M_layOrder 46 = .ok (.aload_n 0, 1) := by decide +kernel
theorem d_M_layOrder_47 : decode b_M_layOrder 47 = .ok (.getfield 7, 3) := by decide +kernel
theorem d_M_layOrder_50 : decode b_M_layOrder 50 = .ok (.if_icmp .ge 93, 3) := by decide +kernel
theorem d_M_layOrder_53 : decode b_M_layOrder 53 = .ok (.iload_n 2, 1) := by decide +kernel
theorem d_M_layOrder_54 : decode b_M_layOrder 54 = .ok (.aload_n 0, 1) := by decide +kernel
theorem d_M_layOrder_55 : decode b_M_layOrder 55 = .ok (.getfield 7, 3) := by decide +kernel
theorem d_M_layOrder_58 : decode b_M_layOrder 58 = .ok (.iload 5, 2) := by decide +kernel
theorem d_M_layOrder_60 : decode b_M_layOrder 60 = .ok (.isub, 1) := by decide +kernel
theorem d_M_layOrder_61 : decode b_M_layOrder 61 = .ok (.idiv, 1) := by decide +kernel
theorem d_M_layOrder_62 : decode b_M_layOrder 62 = .ok (.istore_n 2, 1) := by decide +kernel
theorem d_M_layOrder_63 : decode b_M_layOrder 63 = .ok (.iload 4, 2) := by decide +kernel
theorem d_M_layOrder_65 : decode b_M_layOrder 65 = .ok (.iload_n 2, 1) := by decide +kernel
theorem d_M_layOrder_66 : decode b_M_layOrder 66 = .ok (.idiv, 1) := by decide +kernel
theorem d_M_layOrder_67 : decode b_M_layOrder 67 = .ok (.istore 6, 2) := by decide +kernel
theorem d_M_layOrder_69 : decode b_M_layOrder 69 = .ok (.iload 4, 2) := by decide +kernel
theorem d_M_layOrder_71 : decode b_M_layOrder 71 = .ok (.iload_n 2, 1) := by decide +kernel
theorem d_M_layOrder_72 : decode b_M_layOrder 72 = .ok (.irem, 1) := by decide +kernel
theorem d_M_layOrder_73 : decode b_M_layOrder 73 = .ok (.istore 4, 2) := by decide +kernel
theorem d_M_layOrder_75 : decode b_M_layOrder 75 = .ok (.iconst 0, 1) := by decide +kernel
theorem d_M_layOrder_76 : decode b_M_layOrder 76 = .ok (.istore 7, 2) := by decide +kernel
theorem d_M_layOrder_78 : decode b_M_layOrder 78 = .ok (.aload_n 0, 1) := by decide +kernel
theorem d_M_layOrder_79 : decode b_M_layOrder 79 = .ok (.iload_n 3, 1) := by decide +kernel
theorem d_M_layOrder_80 : decode b_M_layOrder 80 = .ok (.iload 7, 2) := by decide +kernel
theorem d_M_layOrder_82 : decode b_M_layOrder 82 = .ok (.invokevirtual 340, 3) := by decide +kernel
theorem d_M_layOrder_85 : decode b_M_layOrder 85 = .ok (.ifCond .eq 8, 3) := by decide +kernel
theorem d_M_layOrder_88 : decode b_M_layOrder 88 = .ok (.iload 6, 2) := by decide +kernel
theorem d_M_layOrder_90 : decode b_M_layOrder 90 = .ok (.ifCond .le 29, 3) := by decide +kernel
theorem d_M_layOrder_93 : decode b_M_layOrder 93 = .ok (.iload 6, 2) := by decide +kernel
theorem d_M_layOrder_95 : decode b_M_layOrder 95 = .ok (.aload_n 0, 1) := by decide +kernel
theorem d_M_layOrder_96 : decode b_M_layOrder 96 = .ok (.iload_n 3, 1) := by decide +kernel
theorem d_M_layOrder_97 : decode b_M_layOrder 97 = .ok (.iload 7, 2) := by decide +kernel
theorem d_M_layOrder_99 : decode b_M_layOrder 99 = .ok (.invokevirtual 340, 3) := by decide +kernel
theorem d_M_layOrder_102 : decode b_M_layOrder 102 = .ok (.ifCond .eq 7, 3) := by decide +kernel
theorem d_M_layOrder_105 : decode b_M_layOrder 105 = .ok (.iconst 1, 1) := by decide +kernel
theorem d_M_layOrder_106 : decode b_M_layOrder 106 = .ok (.goto 4, 3) := by decide +kernel
theorem d_M_layOrder_109 : decode b_M_layOrder 109 = .ok (.iconst 0, 1) := by decide +kernel
theorem d_M_layOrder_110 : decode b_M_layOrder 110 = .ok (.isub, 1) := by decide +kernel
theorem d_M_layOrder_111 : decode b_M_layOrder 111 = .ok (.istore 6, 2) := by decide +kernel
theorem d_M_layOrder_113 : decode b_M_layOrder 113 = .ok (.iinc 7 1, 3) := by decide +kernel
theorem d_M_layOrder_116 : decode b_M_layOrder 116 = .ok (.goto (-38), 3) := by decide +kernel
theorem d_M_layOrder_119 : decode b_M_layOrder 119 = .ok (.aload_n 0, 1) := by decide +kernel
theorem d_M_layOrder_120 : decode b_M_layOrder 120 = .ok (.getfield 126, 3) := by decide +kernel
theorem d_M_layOrder_123 : decode b_M_layOrder 123 = .ok (.iload 5, 2) := by decide +kernel
theorem d_M_layOrder_125 : decode b_M_layOrder 125 = .ok (.iload 7, 2) := by decide +kernel
theorem d_M_layOrder_127 : decode b_M_layOrder 127 = .ok (.iastore, 1) := by decide +kernel
theorem d_M_layOrder_128 : decode b_M_layOrder 128 = .ok (.iload_n 3, 1) := by decide +kernel
theorem d_M_layOrder_129 : decode b_M_layOrder 129 = .ok (.iconst 1, 1) := by decide +kernel
theorem d_M_layOrder_130 : decode b_M_layOrder 130 = .ok (.iload 7, 2) := by decide +kernel
theorem d_M_layOrder_132 : decode b_M_layOrder 132 = .ok (.ishl, 1) := by decide +kernel
theorem d_M_layOrder_133 : decode b_M_layOrder 133 = .ok (.iconst (-1), 1) := by decide +kernel
theorem d_M_layOrder_134 : decode b_M_layOrder 134 = .ok (.ixor, 1) := by decide +kernel
theorem d_M_layOrder_135 : decode b_M_layOrder 135 = .ok (.iand, 1) := by decide +kernel
theorem d_M_layOrder_136 : decode b_M_layOrder 136 = .ok (.istore_n 3, 1) := by decide +kernel
theorem d_M_layOrder_137 : decode b_M_layOrder 137 = .ok (.iinc 5 1, 3) := by decide +kernel
theorem d_M_layOrder_140 : decode b_M_layOrder 140 = .ok (.goto (-96), 3) := by decide +kernel
theorem d_M_layOrder_143 : decode b_M_layOrder 143 = .ok (.iconst 1, 1) := by decide +kernel
theorem d_M_layOrder_144 : decode b_M_layOrder 144 = .ok (.ireturn, 1) := by decide +kernel
theorem d_M_order_0 : decode b_M_order 0 = .ok (.aload_n 0, 1) := by decide +kernel
theorem d_M_order_1 : decode b_M_order 1 = .ok (.iload_n 1, 1) := by decide +kernel
theorem d_M_order_2 : decode b_M_order 2 = .ok (.iconst (-1), 1) := by decide +kernel
theorem d_M_order_3 : decode b_M_order 3 = .ok (.iconst 4, 1) := by decide +kernel
theorem d_M_order_4 : decode b_M_order 4 = .ok (.invokevirtual 218, 3) := by decide +kernel
theorem d_M_order_7 : decode b_M_order 7 = .ok (.ifCond .ne 5, 3) := by decide +kernel
theorem d_M_order_10 : decode b_M_order 10 = .ok (.iconst (-1), 1) := by decide +kernel
theorem d_M_order_11 : decode b_M_order 11 = .ok (.ireturn, 1) := by decide +kernel
theorem d_M_order_12 : decode b_M_order 12 = .ok (.aload_n 0, 1) := by decide +kernel
theorem d_M_order_13 : decode b_M_order 13 = .ok (.getfield 7, 3) := by decide +kernel
theorem d_M_order_16 : decode b_M_order 16 = .ok (.iconst 5, 1) := by decide +kernel
theorem d_M_order_17 : decode b_M_order 17 = .ok (.if_icmp .le 6, 3) := by decide +kernel
theorem d_M_order_20 : decode b_M_order 20 = .ok (.bipush (-9), 2) := by decide +kernel
theorem d_M_order_22 : decode b_M_order 22 = .ok (.ireturn, 1) := by decide +kernel
theorem d_M_order_23 : decode b_M_order 23 = .ok (.iconst (-1), 1) := by decide +kernel
theorem d_M_order_24 : decode b_M_order 24 = .ok (.istore_n 2, 1) := by decide +kernel
theorem d_M_order_25 : decode b_M_order 25 = .ok (.iconst 0, 1) := by decide +kernel
theorem d_M_order_26 : decode b_M_order 26 = .ok (.istore_n 3, 1) := by decide +kernel
theorem d_M_order_27 : decode b_M_order 27 = .ok (.aload_n 0, 1) := by decide +kernel
theorem d_M_order_28 : decode b_M_order 28 = .ok (.iload_n 3, 1) := by decide +kernel
theorem d_M_order_29 : decode b_M_order 29 = .ok (.invokevirtual 343, 3) := by decide +kernel
theorem d_M_order_32 : decode b_M_order 32 = .ok (.ifCond .eq 95, 3) := by decide +kernel
theorem d_M_order_35 : decode b_M_order 35 = .ok (.aload_n 0, 1) := by decide +kernel
theorem d_M_order_36 : decode b_M_order 36 = .ok (.invokevirtual 325, 3) := by decide +kernel
theorem d_M_order_39 : decode b_M_order 39 = .ok (.iconst 0, 1) := by decide +kernel
theorem d_M_order_40 : decode b_M_order 40 = .ok (.istore 4, 2) := by decide +kernel
theorem d_M_order_42 : decode b_M_order 42 = .ok (.iconst 0, 1) := by decide +kernel
theorem d_M_order_43 : decode b_M_order 43 = .ok (.istore 5, 2) := by decide +kernel
theorem d_M_order_45 : decode b_M_order 45 = .ok (.iload 5, 2) := by decide +kernel
theorem d_M_order_47 : decode b_M_order 47 = .ok (.aload_n 0, 1) := by decide +kernel
theorem d_M_order_48 : decode b_M_order 48 = .ok (.getfield 7, 3) := by decide +kernel
theorem d_M_order_51 : decode b_M_order 51 = .ok (.if_icmp .ge 25, 3) := by decide +kernel
theorem d_M_order_54 : decode b_M_order 54 = .ok (.iload 4, 2) := by decide +kernel
theorem d_M_order_56 : decode b_M_order 56 = .ok (.aload_n 0, 1) := by decide +kernel
theorem d_M_order_57 : decode b_M_order 57 = .ok (.aload_n 0, 1) := by decide +kernel
theorem d_M_order_58 : decode b_M_order 58 = .ok (.getfield 126, 3) := by decide +kernel
theorem d_M_order_61 : decode b_M_order 61 = .ok (.iload 5, 2) := by decide +kernel
theorem d_M_order_63 : decode b_M_order 63 = .ok (.iaload, 1) := by decide +kernel
theorem d_M_order_64 : decode b_M_order 64 = .ok (.invokevirtual 319, 3) := by decide +kernel
theorem d_M_order_67 : decode b_M_order 67 = .ok (.iadd, 1) := by decide +kernel
theorem d_M_order_68 : decode b_M_order 68 = .ok (.istore 4, 2) := by decide +kernel
theorem d_M_order_70 : decode b_M_order 70 = .ok (.iinc 5 1, 3) := by decide +kernel
theorem d_M_order_73 : decode b_M_order 73 = .ok (.goto (-28), 3) := by decide +kernel
theorem d_M_order_76 : decode b_M_order 76 = .ok (.aload_n 0, 1) := by decide +kernel
theorem d_M_order_77 : decode b_M_order 77 = .ok (.invokevirtual 334, 3) := by decide +kernel
theorem d_M_order_80 : decode b_M_order 80 = .ok (.iload 4, 2) := by decide +kernel
theorem d_M_order_82 : decode b_M_order 82 = .ok (.iload_n 2, 1) := by decide +kernel
theorem d_M_order_83 : decode b_M_order 83 = .ok (.if_icmp .gt 6, 3) := by decide +kernel
theorem d_M_order_86 : decode b_M_order 86 = .ok (.goto 35, 3) := by decide +kernel
theorem d_M_order_89 : decode b_M_order 89 = .ok (.iload 4, 2) := by decide +kernel
theorem d_M_order_91 : decode b_M_order 91 = .ok (.istore_n 2, 1) := by decide +kernel
theorem d_M_order_92 : decode b_M_order 92 = .ok (.iconst 0, 1) := by decide +kernel
theorem d_M_order_93 : decode b_M_order 93 = .ok (.istore 5, 2) := by decide +kernel
theorem d_M_order_95 : decode b_M_order 95 = .ok (.iload 5, 2) := by decide +kernel
theorem d_M_order_97 : decode b_M_order 97 = .ok (.iconst 5, 1) := by decide +kernel
theorem d_M_order_98 : decode b_M_order 98 = .ok (.if_icmp .ge 23, 3) := by decide +kernel
theorem d_M_order_101 : decode b_M_order 101 = .ok (.aload_n 0, 1) := by decide +kernel
theorem d_M_order_102 : decode b_M_order 102 = .ok (.getfield 129, 3) := by decide +kernel
theorem d_M_order_105 : decode b_M_order 105 = .ok (.iload 5, 2) := by decide +kernel
theorem d_M_order_107 : decode b_M_order 107 = .ok (.aload_n 0, 1) := by decide +kernel
theorem d_M_order_108 : decode b_M_order 108 = .ok (.getfield 126, 3) := by decide +kernel
theorem d_M_order_111 : decode b_M_order 111 = .ok (.iload 5, 2) := by decide +kernel
theorem d_M_order_113 : decode b_M_order 113 = .ok (.iaload, 1) := by decide +kernel
theorem d_M_order_114 : decode b_M_order 114 = .ok (.iastore, 1) := by decide +kernel
theorem d_M_order_115 : decode b_M_order 115 = .ok (.iinc 5 1, 3) := by decide +kernel
theorem d_M_order_118 : decode b_M_order 118 = .ok (.goto (-23), 3) := by decide +kernel
theorem d_M_order_121 : decode b_M_order 121 = .ok (.iinc 3 1, 3) := by decide +kernel
theorem d_M_order_124 : decode b_M_order 124 = .ok (.goto (-97), 3) := by decide +kernel
theorem d_M_order_127 : decode b_M_order 127 = .ok (.iload_n 1, 1) := by decide +kernel
theorem d_M_order_128 : decode b_M_order 128 = .ok (.ifCond .ge 7, 3) := by decide +kernel
theorem d_M_order_131 : decode b_M_order 131 = .ok (.iload_n 2, 1) := by decide +kernel
theorem d_M_order_132 : decode b_M_order 132 = .ok (.goto 22, 3) := by decide +kernel
theorem d_M_order_135 : decode b_M_order 135 = .ok (.iload_n 1, 1) := by decide +kernel
theorem d_M_order_136 : decode b_M_order 136 = .ok (.aload_n 0, 1) := by decide +kernel
theorem d_M_order_137 : decode b_M_order 137 = .ok (.getfield 7, 3) := by decide +kernel
theorem d_M_order_140 : decode b_M_order 140 = .ok (.if_icmp .ge 12, 3) := by decide +kernel
theorem d_M_order_143 : decode b_M_order 143 = .ok (.aload_n 0, 1) := by decide +kernel
theorem d_M_order_144 : decode b_M_order 144 = .ok (.getfield 129, 3) := by decide +kernel
theorem d_M_order_147 : decode b_M_order 147 = .ok (.iload_n 1, 1) := by decide +kernel
theorem d_M_order_148 : decode b_M_order 148 = .ok (.iaload, 1) := by decide +kernel
theorem d_M_order_149 : decode b_M_order 149 = .ok (.goto 5, 3) := by decide +kernel
theorem d_M_order_152 : decode b_M_order 152 = .ok (.bipush (-5), 2) := by decide +kernel
theorem d_M_order_154 : decode b_M_order 154 = .ok (.ireturn, 1) := by decide +kernel
theorem d_M_without_0 : decode b_M_without 0 = .ok (.aload_n 0, 1) := by decide +kernel
theorem d_M_without_1 : decode b_M_without 1 = .ok (.iload_n 1, 1) := by decide +kernel
theorem d_M_without_2 : decode b_M_without 2 = .ok (.invokevirtual 222, 3) := by decide +kernel
theorem d_M_without_5 : decode b_M_without 5 = .ok (.ifCond .ne 7, 3) := by decide +kernel
theorem d_M_without_8 : decode b_M_without 8 = .ok (.sipush (-10001), 3) := by decide +kernel
theorem d_M_without_11 : decode b_M_without 11 = .ok (.ireturn, 1) := by decide +kernel
theorem d_M_without_12 : decode b_M_without 12 = .ok (.aload_n 0, 1) := by decide +kernel
theorem d_M_without_13 : decode b_M_without 13 = .ok (.iload_n 2, 1) := by decide +kernel
theorem d_M_without_14 : decode b_M_without 14 = .ok (.iconst 0, 1) := by decide +kernel
theorem d_M_without_15 : decode b_M_without 15 = .ok (.bipush 30, 2) := by decide +kernel
theorem d_M_without_17 : decode b_M_without 17 = .ok (.invokevirtual 218, 3) := by decide +kernel
theorem d_M_without_20 : decode b_M_without 20 = .ok (.ifCond .ne 7, 3) := by decide +kernel
theorem d_M_without_23 : decode b_M_without 23 = .ok (.sipush (-10002), 3) := by decide +kernel
theorem d_M_without_26 : decode b_M_without 26 = .ok (.ireturn, 1) := by decide +kernel
theorem d_M_without_27 : decode b_M_without 27 = .ok (.aload_n 0, 1) := by decide +kernel
theorem d_M_without_28 : decode b_M_without 28 = .ok (.iload_n 2, 1) := by decide +kernel
theorem d_M_without_29 : decode b_M_without 29 = .ok (.invokevirtual 337, 3) := by decide +kernel
theorem d_M_without_32 : decode b_M_without 32 = .ok (.istore_n 3, 1) := by decide +kernel
theorem d_M_without_33 : decode b_M_without 33 = .ok (.aload_n 0, 1) := by decide +kernel
theorem d_M_without_34 : decode b_M_without 34 = .ok (.iload_n 1, 1) := by decide +kernel
theorem d_M_without_35 : decode b_M_without 35 = .ok (.putfield 105, 3) := by decide +kernel
theorem d_M_without_38 : decode b_M_without 38 = .ok (.aload_n 0, 1) := by decide +kernel
theorem d_M_without_39 : decode b_M_without 39 = .ok (.iload_n 2, 1) := by decide +kernel
theorem d_M_without_40 : decode b_M_without 40 = .ok (.invokevirtual 337, 3) := by decide +kernel
theorem d_M_without_43 : decode b_M_without 43 = .ok (.istore 4, 2) := by decide +kernel
theorem d_M_without_45 : decode b_M_without 45 = .ok (.aload_n 0, 1) := by decide +kernel
theorem d_M_without_46 : decode b_M_without 46 = .ok (.iconst (-1), 1) := by decide +kernel
theorem d_M_without_47 : decode b_M_without 47 = .ok (.putfield 105, 3) := by decide +kernel
theorem d_M_without_50 : decode b_M_without 50 = .ok (.iload_n 3, 1) := by decide +kernel
theorem d_M_without_51 : decode b_M_without 51 = .ok (.iload 4, 2) := by decide +kernel
theorem d_M_without_53 : decode b_M_without 53 = .ok (.isub, 1) := by decide +kernel
theorem d_M_without_54 : decode b_M_without 54 = .ok (.ireturn, 1) := by decide +kernel
theorem d_M_few_0 : decode b_M_few 0 = .ok (.aload_n 0, 1) := by decide +kernel
theorem d_M_few_1 : decode b_M_few 1 = .ok (.iload_n 2, 1) := by decide +kernel
theorem d_M_few_2 : decode b_M_few 2 = .ok (.iconst 0, 1) := by decide +kernel
theorem d_M_few_3 : decode b_M_few 3 = .ok (.iconst 1, 1) := by decide +kernel
theorem d_M_few_4 : decode b_M_few 4 = .ok (.invokevirtual 218, 3) := by decide +kernel
theorem d_M_few_7 : decode b_M_few 7 = .ok (.ifCond .ne 5, 3) := by decide +kernel
theorem d_M_few_10 : decode b_M_few 10 = .ok (.iconst (-1), 1) := by decide +kernel
theorem d_M_few_11 : decode b_M_few 11 = .ok (.ireturn, 1) := by decide +kernel
theorem d_M_few_12 : decode b_M_few 12 = .ok (.aload_n 0, 1) := by decide +kernel
theorem d_M_few_13 : decode b_M_few 13 = .ok (.iload_n 1, 1) := by decide +kernel
theorem d_M_few_14 : decode b_M_few 14 = .ok (.iconst 0, 1) := by decide +kernel
theorem d_M_few_15 : decode b_M_few 15 = .ok (.bipush 99, 2) := by decide +kernel
theorem d_M_few_17 : decode b_M_few 17 = .ok (.invokevirtual 218, 3) := by decide +kernel
theorem d_M_few_20 : decode b_M_few 20 = .ok (.ifCond .ne 6, 3) := by decide +kernel
theorem d_M_few_23 : decode b_M_few 23 = .ok (.bipush (-2), 2) := by decide +kernel
theorem d_M_few_25 : decode b_M_few 25 = .ok (.ireturn, 1) := by decide +kernel
theorem d_M_few_26 : decode b_M_few 26 = .ok (.aload_n 0, 1) := by decide +kernel
theorem d_M_few_27 : decode b_M_few 27 = .ok (.invokevirtual 325, 3) := by decide +kernel
theorem d_M_few_30 : decode b_M_few 30 = .ok (.bipush (-5), 2) := by decide +kernel
theorem d_M_few_32 : decode b_M_few 32 = .ok (.istore_n 3, 1) := by decide +kernel
theorem d_M_few_33 : decode b_M_few 33 = .ok (.iconst 0, 1) := by decide +kernel
theorem d_M_few_34 : decode b_M_few 34 = .ok (.istore 4, 2) := by decide +kernel
theorem d_M_few_36 : decode b_M_few 36 = .ok (.iload 4, 2) := by decide +kernel
theorem d_M_few_38 : decode b_M_few 38 = .ok (.sipush 300, 3) := by decide +kernel
theorem d_M_few_41 : decode b_M_few 41 = .ok (.if_icmp .ge 84, 3) := by decide +kernel
theorem d_M_few_44 : decode b_M_few 44 = .ok (.aload_n 0, 1) := by decide +kernel
theorem d_M_few_45 : decode b_M_few 45 = .ok (.getfield 7, 3) := by decide +kernel
theorem d_M_few_48 : decode b_M_few 48 = .ok (.ifCond .le 77, 3) := by decide +kernel
theorem d_M_few_51 : decode b_M_few 51 = .ok (.iload_n 3, 1) := by decide +kernel
theorem d_M_few_52 : decode b_M_few 52 = .ok (.ifCond .ge 73, 3) := by decide +kernel
theorem d_M_few_55 : decode b_M_few 55 = .ok (.aload_n 0, 1) := by decide +kernel
theorem d_M_few_56 : decode b_M_few 56 = .ok (.iload 4, 2) := by decide +kernel
theorem d_M_few_58 : decode b_M_few 58 = .ok (.aload_n 0, 1) := by decide +kernel
theorem d_M_few_59 : decode b_M_few 59 = .ok (.getfield 7, 3) := by decide +kernel
theorem d_M_few_62 : decode b_M_few 62 = .ok (.irem, 1) := by decide +kernel
theorem d_M_few_63 : decode b_M_few 63 = .ok (.invokevirtual 319, 3) := by decide +kernel
theorem d_M_few_66 : decode b_M_few 66 = .ok (.istore 5, 2) := by decide +kernel
theorem d_M_few_68 : decode b_M_few 68 = .ok (.aload_n 0, 1) := by decide +kernel
theorem d_M_few_69 : decode b_M_few 69 = .ok (.aload_n 0, 1) := by decide +kernel
theorem d_M_few_70 : decode b_M_few 70 = .ok (.getfield 102, 3) := by decide +kernel
theorem d_M_few_73 : decode b_M_few 73 = .ok (.iconst 1, 1) := by decide +kernel
theorem d_M_few_74 : decode b_M_few 74 = .ok (.iload_n 1, 1) := by decide +kernel
theorem d_M_few_75 : decode b_M_few 75 = .ok (.invokevirtual 218, 3) := by decide +kernel
theorem d_M_few_78 : decode b_M_few 78 = .ok (.ifCond .eq 8, 3) := by decide +kernel
theorem d_M_few_81 : decode b_M_few 81 = .ok (.iload 4, 2) := by decide +kernel
theorem d_M_few_83 : decode b_M_few 83 = .ok (.goto 5, 3) := by decide +kernel
theorem d_M_few_86 : decode b_M_few 86 = .ok (.bipush (-5), 2) := by decide +kernel
theorem d_M_few_88 : decode b_M_few 88 = .ok (.istore_n 3, 1) := by decide +kernel
theorem d_M_few_89 : decode b_M_few 89 = .ok (.aload_n 0, 1) := by decide +kernel
theorem d_M_few_90 : decode b_M_few 90 = .ok (.dup, 1) := by decide +kernel
theorem d_M_few_91 : decode b_M_few 91 = .ok (.getfield 16, 3) := by decide +kernel
theorem d_M_few_94 : decode b_M_few 94 = .ok (.iload 4, 2) := by decide +kernel
theorem d_M_few_96 : decode b_M_few 96 = .ok (.aload_n 0, 1) := by decide +kernel
theorem d_M_few_97 : decode b_M_few 97 = .ok (.getfield 7, 3) := by decide +kernel
theorem d_M_few_100 : decode b_M_few 100 = .ok (.irem, 1) := by decide +kernel
theorem d_M_few_101 : decode b_M_few 101 = .ok (.aload_n 0, 1) := by decide +kernel
theorem d_M_few_102 : decode b_M_few 102 = .ok (.getfield 7, 3) := by decide +kernel
theorem d_M_few_105 : decode b_M_few 105 = .ok (.iconst 1, 1) := by decide +kernel
theorem d_M_few_106 : decode b_M_few 106 = .ok (.isub, 1) := by decide +kernel
theorem d_M_few_107 : decode b_M_few 107 = .ok (.if_icmp .ne 7, 3) := by decide +kernel
theorem d_M_few_110 : decode b_M_few 110 = .ok (.iconst 1, 1) := by decide +kernel
theorem d_M_few_111 : decode b_M_few 111 = .ok (.goto 4, 3) := by decide +kernel
theorem d_M_few_114 : decode b_M_few 114 = .ok (.iconst 0, 1) := by decide +kernel
theorem d_M_few_115 : decode b_M_few 115 = .ok (.iadd, 1) := by decide +kernel
theorem d_M_few_116 : decode b_M_few 116 = .ok (.putfield 16, 3) := by decide +kernel
theorem d_M_few_119 : decode b_M_few 119 = .ok (.iinc 4 1, 3) := by decide +kernel
theorem d_M_few_122 : decode b_M_few 122 = .ok (.goto (-86), 3) := by decide +kernel
theorem d_M_few_125 : decode b_M_few 125 = .ok (.aload_n 0, 1) := by decide +kernel
theorem d_M_few_126 : decode b_M_few 126 = .ok (.invokevirtual 334, 3) := by decide +kernel
theorem d_M_few_129 : decode b_M_few 129 = .ok (.iload_n 3, 1) := by decide +kernel
theorem d_M_few_130 : decode b_M_few 130 = .ok (.ifCond .lt 7, 3) := by decide +kernel
theorem d_M_few_133 : decode b_M_few 133 = .ok (.iload_n 2, 1) := by decide +kernel
theorem d_M_few_134 : decode b_M_few 134 = .ok (.ifCond .ne 7, 3) := by decide +kernel
theorem d_M_few_137 : decode b_M_few 137 = .ok (.iload_n 3, 1) := by decide +kernel
theorem d_M_few_138 : decode b_M_few 138 = .ok (.goto 9, 3) := by decide +kernel
theorem d_M_few_141 : decode b_M_few 141 = .ok (.iload_n 3, 1) := by decide +kernel
theorem d_M_few_142 : decode b_M_few 142 = .ok (.aload_n 0, 1) := by decide +kernel
theorem d_M_few_143 : decode b_M_few 143 = .ok (.getfield 7, 3) := by decide +kernel
theorem d_M_few_146 : decode b_M_few 146 = .ok (.irem, 1) := by decide +kernel
theorem d_M_few_147 : decode b_M_few 147 = .ok (.ireturn, 1) := by decide +kernel
theorem d_M_pitied_0 : decode b_M_pitied 0 = .ok (.aload_n 0, 1) := by decide +kernel
theorem d_M_pitied_1 : decode b_M_pitied 1 = .ok (.iload_n 1, 1) := by decide +kernel
theorem d_M_pitied_2 : decode b_M_pitied 2 = .ok (.iconst 1, 1) := by decide +kernel
theorem d_M_pitied_3 : decode b_M_pitied 3 = .ok (.bipush 60, 2) := by decide +kernel
theorem d_M_pitied_5 : decode b_M_pitied 5 = .ok (.invokevirtual 218, 3) := by decide +kernel
theorem d_M_pitied_8 : decode b_M_pitied 8 = .ok (.ifCond .ne 6, 3) := by decide +kernel
theorem d_M_pitied_11 : decode b_M_pitied 11 = .ok (.bipush (-2), 2) := by decide +kernel
theorem d_M_pitied_13 : decode b_M_pitied 13 = .ok (.ireturn, 1) := by decide +kernel
theorem d_M_pitied_14 : decode b_M_pitied 14 = .ok (.aload_n 0, 1) := by decide +kernel
theorem d_M_pitied_15 : decode b_M_pitied 15 = .ok (.invokevirtual 325, 3) := by decide +kernel
theorem d_M_pitied_18 : decode b_M_pitied 18 = .ok (.aload_n 0, 1) := by decide +kernel
theorem d_M_pitied_19 : decode b_M_pitied 19 = .ok (.iload_n 1, 1) := by decide +kernel
theorem d_M_pitied_20 : decode b_M_pitied 20 = .ok (.invokevirtual 328, 3) := by decide +kernel
theorem d_M_pitied_23 : decode b_M_pitied 23 = .ok (.bipush (-5), 2) := by decide +kernel
theorem d_M_pitied_25 : decode b_M_pitied 25 = .ok (.istore_n 2, 1) := by decide +kernel
theorem d_M_pitied_26 : decode b_M_pitied 26 = .ok (.iconst 0, 1) := by decide +kernel
theorem d_M_pitied_27 : decode b_M_pitied 27 = .ok (.istore_n 3, 1) := by decide +kernel
theorem d_M_pitied_28 : decode b_M_pitied 28 = .ok (.iconst 1, 1) := by decide +kernel
theorem d_M_pitied_29 : decode b_M_pitied 29 = .ok (.istore 4, 2) := by decide +kernel
theorem d_M_pitied_31 : decode b_M_pitied 31 = .ok (.iconst 0, 1) := by decide +kernel
theorem d_M_pitied_32 : decode b_M_pitied 32 = .ok (.istore 5, 2) := by decide +kernel
theorem d_M_pitied_34 : decode b_M_pitied 34 = .ok (.iload 5, 2) := by decide +kernel
theorem d_M_pitied_36 : decode b_M_pitied 36 = .ok (.aload_n 0, 1) := by decide +kernel
theorem d_M_pitied_37 : decode b_M_pitied 37 = .ok (.getfield 7, 3) := by decide +kernel
theorem d_M_pitied_40 : decode b_M_pitied 40 = .ok (.if_icmp .ge 74, 3) := by decide +kernel
theorem d_M_pitied_43 : decode b_M_pitied 43 = .ok (.aload_n 0, 1) := by decide +kernel
theorem d_M_pitied_44 : decode b_M_pitied 44 = .ok (.getfield 32, 3) := by decide +kernel
theorem d_M_pitied_47 : decode b_M_pitied 47 = .ok (.iload 5, 2) := by decide +kernel
theorem d_M_pitied_49 : decode b_M_pitied 49 = .ok (.iaload, 1) := by decide +kernel
theorem d_M_pitied_50 : decode b_M_pitied 50 = .ok (.aload_n 0, 1) := by decide +kernel
theorem d_M_pitied_51 : decode b_M_pitied 51 = .ok (.getfield 120, 3) := by decide +kernel
theorem d_M_pitied_54 : decode b_M_pitied 54 = .ok (.iload 5, 2) := by decide +kernel
theorem d_M_pitied_56 : decode b_M_pitied 56 = .ok (.iaload, 1) := by decide +kernel
theorem d_M_pitied_57 : decode b_M_pitied 57 = .ok (.isub, 1) := by decide +kernel
theorem d_M_pitied_58 : decode b_M_pitied 58 = .ok (.istore 6, 2) := by decide +kernel
theorem d_M_pitied_60 : decode b_M_pitied 60 = .ok (.aload_n 0, 1) := by decide +kernel
theorem d_M_pitied_61 : decode b_M_pitied 61 = .ok (.getfield 29, 3) := by decide +kernel
theorem d_M_pitied_64 : decode b_M_pitied 64 = .ok (.iload 5, 2) := by decide +kernel
theorem d_M_pitied_66 : decode b_M_pitied 66 = .ok (.iaload, 1) := by decide +kernel
theorem d_M_pitied_67 : decode b_M_pitied 67 = .ok (.aload_n 0, 1) := by decide +kernel
theorem d_M_pitied_68 : decode b_M_pitied 68 = .ok (.getfield 117, 3) := by decide +kernel
theorem d_M_pitied_71 : decode b_M_pitied 71 = .ok (.iload 5, 2) := by decide +kernel
theorem d_M_pitied_73 : decode b_M_pitied 73 = .ok (.iaload, 1) := by decide +kernel
theorem d_M_pitied_74 : decode b_M_pitied 74 = .ok (.isub, 1) := by decide +kernel
theorem d_M_pitied_75 : decode b_M_pitied 75 = .ok (.iconst 1, 1) := by decide +kernel
theorem d_M_pitied_76 : decode b_M_pitied 76 = .ok (.iadd, 1) := by decide +kernel
theorem d_M_pitied_77 : decode b_M_pitied 77 = .ok (.istore 7, 2) := by decide +kernel
theorem d_M_pitied_79 : decode b_M_pitied 79 = .ok (.iload_n 2, 1) := by decide +kernel
theorem d_M_pitied_80 : decode b_M_pitied 80 = .ok (.ifCond .lt 18, 3) := by decide +kernel
theorem d_M_pitied_83 : decode b_M_pitied 83 = .ok (.iload 6, 2) := by decide +kernel
theorem d_M_pitied_85 : decode b_M_pitied 85 = .ok (.iload 4, 2) := by decide +kernel
theorem d_M_pitied_87 : decode b_M_pitied 87 = .ok (.imul, 1) := by decide +kernel
theorem d_M_pitied_88 : decode b_M_pitied 88 = .ok (.iload_n 3, 1) := by decide +kernel
theorem d_M_pitied_89 : decode b_M_pitied 89 = .ok (.iload 7, 2) := by decide +kernel
theorem d_M_pitied_91 : decode b_M_pitied 91 = .ok (.imul, 1) := by decide +kernel
theorem d_M_pitied_92 : decode b_M_pitied 92 = .ok (.if_icmp .gt 6, 3) := by decide +kernel
theorem d_M_pitied_95 : decode b_M_pitied 95 = .ok (.goto 13, 3) := by decide +kernel
theorem d_M_pitied_98 : decode b_M_pitied 98 = .ok (.iload 5, 2) := by decide +kernel
theorem d_M_pitied_100 : decode b_M_pitied 100 = .ok (.istore_n 2, 1) := by decide +kernel
theorem d_M_pitied_101 : decode b_M_pitied 101 = .ok (.iload 6, 2) := by decide +kernel
theorem d_M_pitied_103 : decode b_M_pitied 103 = .ok (.istore_n 3, 1) := by decide +kernel
theorem d_M_pitied_104 : decode b_M_pitied 104 = .ok (.iload 7, 2) := by decide +kernel
theorem d_M_pitied_106 : decode b_M_pitied 106 = .ok (.istore 4, 2) := by decide +kernel
theorem d_M_pitied_108 : decode b_M_pitied 108 = .ok (.iinc 5 1, 3) := by decide +kernel
theorem d_M_pitied_111 : decode b_M_pitied 111 = .ok (.goto (-77), 3) := by decide +kernel
theorem d_M_pitied_114 : decode b_M_pitied 114 = .ok (.aload_n 0, 1) := by decide +kernel
theorem d_M_pitied_115 : decode b_M_pitied 115 = .ok (.invokevirtual 334, 3) := by decide +kernel
theorem d_M_pitied_118 : decode b_M_pitied 118 = .ok (.iload_n 2, 1) := by decide +kernel
theorem d_M_pitied_119 : decode b_M_pitied 119 = .ok (.ireturn, 1) := by decide +kernel
theorem d_M_see_0 : decode b_M_see 0 = .ok (.iload_n 1, 1) := by decide +kernel
theorem d_M_see_1 : decode b_M_see 1 = .ok (.iconst (-1), 1) := by decide +kernel
theorem d_M_see_2 : decode b_M_see 2 = .ok (.if_icmp .ne 10, 3) := by decide +kernel
theorem d_M_see_5 : decode b_M_see 5 = .ok (.aload_n 0, 1) := by decide +kernel
theorem d_M_see_6 : decode b_M_see 6 = .ok (.iconst 0, 1) := by decide +kernel
theorem d_M_see_7 : decode b_M_see 7 = .ok (.putfield 132, 3) := by decide +kernel
theorem d_M_see_10 : decode b_M_see 10 = .ok (.iconst 0, 1) := by decide +kernel
theorem d_M_see_11 : decode b_M_see 11 = .ok (.ireturn, 1) := by decide +kernel
theorem d_M_see_12 : decode b_M_see 12 = .ok (.aload_n 0, 1) := by decide +kernel
theorem d_M_see_13 : decode b_M_see 13 = .ok (.iload_n 1, 1) := by decide +kernel
theorem d_M_see_14 : decode b_M_see 14 = .ok (.iconst 0, 1) := by decide +kernel
theorem d_M_see_15 : decode b_M_see 15 = .ok (.sipush 990, 3) := by decide +kernel
theorem d_M_see_18 : decode b_M_see 18 = .ok (.invokevirtual 218, 3) := by decide +kernel
theorem d_M_see_21 : decode b_M_see 21 = .ok (.ifCond .eq 15, 3) := by decide +kernel
theorem d_M_see_24 : decode b_M_see 24 = .ok (.aload_n 0, 1) := by decide +kernel
theorem d_M_see_25 : decode b_M_see 25 = .ok (.iload_n 2, 1) := by decide +kernel
theorem d_M_see_26 : decode b_M_see 26 = .ok (.iconst 0, 1) := by decide +kernel
theorem d_M_see_27 : decode b_M_see 27 = .ok (.sipush 990, 3) := by decide +kernel
theorem d_M_see_30 : decode b_M_see 30 = .ok (.invokevirtual 218, 3) := by decide +kernel
theorem d_M_see_33 : decode b_M_see 33 = .ok (.ifCond .ne 6, 3) := by decide +kernel
theorem d_M_see_36 : decode b_M_see 36 = .ok (.bipush (-2), 2) := by decide +kernel
theorem d_M_see_38 : decode b_M_see 38 = .ok (.ireturn, 1) := by decide +kernel
theorem d_M_see_39 : decode b_M_see 39 = .ok (.aload_n 0, 1) := by decide +kernel
theorem d_M_see_40 : decode b_M_see 40 = .ok (.getfield 132, 3) := by decide +kernel
theorem d_M_see_43 : decode b_M_see 43 = .ok (.bipush 6, 2) := by decide +kernel
theorem d_M_see_45 : decode b_M_see 45 = .ok (.if_icmp .ne 6, 3) := by decide +kernel
theorem d_M_see_48 : decode b_M_see 48 = .ok (.bipush (-4), 2) := by decide +kernel
theorem d_M_see_50 : decode b_M_see 50 = .ok (.ireturn, 1) := by decide +kernel
theorem d_M_see_51 : decode b_M_see 51 = .ok (.aload_n 0, 1) := by decide +kernel
theorem d_M_see_52 : decode b_M_see 52 = .ok (.getfield 135, 3) := by decide +kernel
theorem d_M_see_55 : decode b_M_see 55 = .ok (.aload_n 0, 1) := by decide +kernel
theorem d_M_see_56 : decode b_M_see 56 = .ok (.getfield 132, 3) := by decide +kernel
theorem d_M_see_59 : decode b_M_see 59 = .ok (.iload_n 1, 1) := by decide +kernel
theorem d_M_see_60 : decode b_M_see 60 = .ok (.iastore, 1) := by decide +kernel
theorem d_M_see_61 : decode b_M_see 61 = .ok (.aload_n 0, 1) := by decide +kernel
theorem d_M_see_62 : decode b_M_see 62 = .ok (.getfield 138, 3) := by decide +kernel
theorem d_M_see_65 : decode b_M_see 65 = .ok (.aload_n 0, 1) := by decide +kernel
theorem d_M_see_66 : decode b_M_see 66 = .ok (.getfield 132, 3) := by decide +kernel
theorem d_M_see_69 : decode b_M_see 69 = .ok (.iload_n 2, 1) := by decide +kernel
theorem d_M_see_70 : decode b_M_see 70 = .ok (.iastore, 1) := by decide +kernel
theorem d_M_see_71 : decode b_M_see 71 = .ok (.aload_n 0, 1) := by decide +kernel
theorem d_M_see_72 : decode b_M_see 72 = .ok (.dup, 1) := by decide +kernel
theorem d_M_see_73 : decode b_M_see 73 = .ok (.getfield 132, 3) := by decide +kernel
theorem d_M_see_76 : decode b_M_see 76 = .ok (.iconst 1, 1) := by decide +kernel
theorem d_M_see_77 : decode b_M_see 77 = .ok (.iadd, 1) := by decide +kernel
theorem d_M_see_78 : decode b_M_see 78 = .ok (.putfield 132, 3) := by decide +kernel
theorem d_M_see_81 : decode b_M_see 81 = .ok (.aload_n 0, 1) := by decide +kernel
theorem d_M_see_82 : decode b_M_see 82 = .ok (.getfield 132, 3) := by decide +kernel
theorem d_M_see_85 : decode b_M_see 85 = .ok (.ireturn, 1) := by decide +kernel
theorem d_M_isSeen_0 : decode b_M_isSeen 0 = .ok (.aload_n 0, 1) := by decide +kernel
theorem d_M_isSeen_1 : decode b_M_isSeen 1 = .ok (.invokevirtual 325, 3) := by decide +kernel
theorem d_M_isSeen_4 : decode b_M_isSeen 4 = .ok (.aload_n 0, 1) := by decide +kernel
theorem d_M_isSeen_5 : decode b_M_isSeen 5 = .ok (.aload_n 0, 1) := by decide +kernel
theorem d_M_isSeen_6 : decode b_M_isSeen 6 = .ok (.getfield 135, 3) := by decide +kernel
theorem d_M_isSeen_9 : decode b_M_isSeen 9 = .ok (.iload_n 2, 1) := by decide +kernel
theorem d_M_isSeen_10 : decode b_M_isSeen 10 = .ok (.iaload, 1) := by decide +kernel
theorem d_M_isSeen_11 : decode b_M_isSeen 11 = .ok (.putfield 13, 3) := by decide +kernel
theorem d_M_isSeen_14 : decode b_M_isSeen 14 = .ok (.aload_n 0, 1) := by decide +kernel
theorem d_M_isSeen_15 : decode b_M_isSeen 15 = .ok (.iload_n 1, 1) := by decide +kernel
theorem d_M_isSeen_16 : decode b_M_isSeen 16 = .ok (.invokevirtual 319, 3) := by decide +kernel
theorem d_M_isSeen_19 : decode b_M_isSeen 19 = .ok (.istore_n 3, 1) := by decide +kernel
theorem d_M_isSeen_20 : decode b_M_isSeen 20 = .ok (.aload_n 0, 1) := by decide +kernel
theorem d_M_isSeen_21 : decode b_M_isSeen 21 = .ok (.getfield 13, 3) := by decide +kernel
theorem d_M_isSeen_24 : decode b_M_isSeen 24 = .ok (.aload_n 0, 1) := by decide +kernel
theorem d_M_isSeen_25 : decode b_M_isSeen 25 = .ok (.getfield 138, 3) := by decide +kernel
theorem d_M_isSeen_28 : decode b_M_isSeen 28 = .ok (.iload_n 2, 1) := by decide +kernel
theorem d_M_isSeen_29 : decode b_M_isSeen 29 = .ok (.iaload, 1) := by decide +kernel
theorem d_M_isSeen_30 : decode b_M_isSeen 30 = .ok (.if_icmp .ne 7, 3) := by decide +kernel
theorem d_M_isSeen_33 : decode b_M_isSeen 33 = .ok (.iconst 1, 1) := by decide +kernel
theorem d_M_isSeen_34 : decode b_M_isSeen 34 = .ok (.goto 4, 3) := by decide +kernel
theorem d_M_isSeen_37 : decode b_M_isSeen 37 = .ok (.iconst 0, 1) := by decide +kernel
theorem d_M_isSeen_38 : decode b_M_isSeen 38 = .ok (.istore 4, 2) := by decide +kernel
theorem d_M_isSeen_40 : decode b_M_isSeen 40 = .ok (.aload_n 0, 1) := by decide +kernel
theorem d_M_isSeen_41 : decode b_M_isSeen 41 = .ok (.invokevirtual 334, 3) := by decide +kernel
theorem d_M_isSeen_44 : decode b_M_isSeen 44 = .ok (.iload 4, 2) := by decide +kernel
theorem d_M_isSeen_46 : decode b_M_isSeen 46 = .ok (.ireturn, 1) := by decide +kernel
theorem d_M_who_0 : decode b_M_who 0 = .ok (.iconst 0, 1) := by decide +kernel
theorem d_M_who_1 : decode b_M_who 1 = .ok (.istore_n 1, 1) := by decide +kernel
theorem d_M_who_2 : decode b_M_who 2 = .ok (.iconst 0, 1) := by decide +kernel
theorem d_M_who_3 : decode b_M_who 3 = .ok (.istore_n 2, 1) := by decide +kernel
theorem d_M_who_4 : decode b_M_who 4 = .ok (.iload_n 2, 1) := by decide +kernel
theorem d_M_who_5 : decode b_M_who 5 = .ok (.aload_n 0, 1) := by decide +kernel
theorem d_M_who_6 : decode b_M_who 6 = .ok (.getfield 7, 3) := by decide +kernel
theorem d_M_who_9 : decode b_M_who 9 = .ok (.if_icmp .ge 55, 3) := by decide +kernel
theorem d_M_who_12 : decode b_M_who 12 = .ok (.iconst 1, 1) := by decide +kernel
theorem d_M_who_13 : decode b_M_who 13 = .ok (.istore_n 3, 1) := by decide +kernel
theorem d_M_who_14 : decode b_M_who 14 = .ok (.iconst 0, 1) := by decide +kernel
theorem d_M_who_15 : decode b_M_who 15 = .ok (.istore 4, 2) := by decide +kernel
theorem d_M_who_17 : decode b_M_who 17 = .ok (.iload 4, 2) := by decide +kernel
theorem d_M_who_19 : decode b_M_who 19 = .ok (.aload_n 0, 1) := by decide +kernel
theorem d_M_who_20 : decode b_M_who 20 = .ok (.getfield 132, 3) := by decide +kernel
theorem d_M_who_23 : decode b_M_who 23 = .ok (.if_icmp .ge 21, 3) := by decide +kernel
theorem d_M_who_26 : decode b_M_who 26 = .ok (.iload_n 3, 1) := by decide +kernel
theorem d_M_who_27 : decode b_M_who 27 = .ok (.ifCond .eq 17, 3) := by decide +kernel
theorem d_M_who_30 : decode b_M_who 30 = .ok (.aload_n 0, 1) := by decide +kernel
theorem d_M_who_31 : decode b_M_who 31 = .ok (.iload_n 2, 1) := by decide +kernel
theorem d_M_who_32 : decode b_M_who 32 = .ok (.iload 4, 2) := by decide +kernel
theorem d_M_who_34 : decode b_M_who 34 = .ok (.invokevirtual 346, 3) := by decide +kernel
theorem d_M_who_37 : decode b_M_who 37 = .ok (.istore_n 3, 1) := by decide +kernel
theorem d_M_who_38 : decode b_M_who 38 = .ok (.iinc 4 1, 3) := by decide +kernel
theorem d_M_who_41 : decode b_M_who 41 = .ok (.goto (-24), 3) := by decide +kernel
theorem d_M_who_44 : decode b_M_who 44 = .ok (.iload_n 1, 1) := by decide +kernel
theorem d_M_who_45 : decode b_M_who 45 = .ok (.iload_n 3, 1) := by decide +kernel
theorem d_M_who_46 : decode b_M_who 46 = .ok (.ifCond .eq 9, 3) := by decide +kernel
theorem d_M_who_49 : decode b_M_who 49 = .ok (.iconst 1, 1) := by decide +kernel
theorem d_M_who_50 : decode b_M_who 50 = .ok (.iload_n 2, 1) := by decide +kernel
theorem d_M_who_51 : decode b_M_who 51 = .ok (.ishl, 1) := by decide +kernel
theorem d_M_who_52 : decode b_M_who 52 = .ok (.goto 4, 3) := by decide +kernel
theorem d_M_who_55 : decode b_M_who 55 = .ok (.iconst 0, 1) := by decide +kernel
theorem d_M_who_56 : decode b_M_who 56 = .ok (.ior, 1) := by decide +kernel
theorem d_M_who_57 : decode b_M_who 57 = .ok (.istore_n 1, 1) := by decide +kernel
theorem d_M_who_58 : decode b_M_who 58 = .ok (.iinc 2 1, 3) := by decide +kernel
theorem d_M_who_61 : decode b_M_who 61 = .ok (.goto (-57), 3) := by decide +kernel
theorem d_M_who_64 : decode b_M_who 64 = .ok (.iload_n 1, 1) := by decide +kernel
theorem d_M_who_65 : decode b_M_who 65 = .ok (.ireturn, 1) := by decide +kernel
theorem d_M_divisor_0 : decode b_M_divisor 0 = .ok (.iload_n 1, 1) := by decide +kernel
theorem d_M_divisor_1 : decode b_M_divisor 1 = .ok (.istore_n 3, 1) := by decide +kernel
theorem d_M_divisor_2 : decode b_M_divisor 2 = .ok (.iload_n 2, 1) := by decide +kernel
theorem d_M_divisor_3 : decode b_M_divisor 3 = .ok (.istore 4, 2) := by decide +kernel
theorem d_M_divisor_5 : decode b_M_divisor 5 = .ok (.iload 4, 2) := by decide +kernel
theorem d_M_divisor_7 : decode b_M_divisor 7 = .ok (.ifCond .eq 19, 3) := by decide +kernel
theorem d_M_divisor_10 : decode b_M_divisor 10 = .ok (.iload_n 3, 1) := by decide +kernel
theorem d_M_divisor_11 : decode b_M_divisor 11 = .ok (.iload 4, 2) := by decide +kernel
theorem d_M_divisor_13 : decode b_M_divisor 13 = .ok (.irem, 1) := by decide +kernel
theorem d_M_divisor_14 : decode b_M_divisor 14 = .ok (.istore 5, 2) := by decide +kernel
theorem d_M_divisor_16 : decode b_M_divisor 16 = .ok (.iload 4, 2) := by decide +kernel
theorem d_M_divisor_18 : decode b_M_divisor 18 = .ok (.istore_n 3, 1) := by decide +kernel
theorem d_M_divisor_19 : decode b_M_divisor 19 = .ok (.iload 5, 2) := by decide +kernel
theorem d_M_divisor_21 : decode b_M_divisor 21 = .ok (.istore 4, 2) := by decide +kernel
theorem d_M_divisor_23 : decode b_M_divisor 23 = .ok (.goto (-18), 3) := by decide +kernel
theorem d_M_divisor_26 : decode b_M_divisor 26 = .ok (.iload_n 3, 1) := by decide +kernel
theorem d_M_divisor_27 : decode b_M_divisor 27 = .ok (.ireturn, 1) := by decide +kernel
theorem d_M_lowest_0 : decode b_M_lowest 0 = .ok (.aload_n 0, 1) := by decide +kernel
theorem d_M_lowest_1 : decode b_M_lowest 1 = .ok (.iload_n 1, 1) := by decide +kernel
theorem d_M_lowest_2 : decode b_M_lowest 2 = .ok (.iload_n 2, 1) := by decide +kernel
theorem d_M_lowest_3 : decode b_M_lowest 3 = .ok (.invokevirtual 349, 3) := by decide +kernel
theorem d_M_lowest_6 : decode b_M_lowest 6 = .ok (.istore 4, 2) := by decide +kernel
theorem d_M_lowest_8 : decode b_M_lowest 8 = .ok (.iload_n 3, 1) := by decide +kernel
theorem d_M_lowest_9 : decode b_M_lowest 9 = .ok (.ifCond .ne 11, 3) := by decide +kernel
theorem d_M_lowest_12 : decode b_M_lowest 12 = .ok (.iload_n 1, 1) := by decide +kernel
theorem d_M_lowest_13 : decode b_M_lowest 13 = .ok (.iload 4, 2) := by decide +kernel
theorem d_M_lowest_15 : decode b_M_lowest 15 = .ok (.idiv, 1) := by decide +kernel
theorem d_M_lowest_16 : decode b_M_lowest 16 = .ok (.i2l, 1) := by decide +kernel
theorem d_M_lowest_17 : decode b_M_lowest 17 = .ok (.goto 8, 3) := by decide +kernel
theorem d_M_lowest_20 : decode b_M_lowest 20 = .ok (.iload_n 2, 1) := by decide +kernel
theorem d_M_lowest_21 : decode b_M_lowest 21 = .ok (.iload 4, 2) := by decide +kernel
theorem d_M_lowest_23 : decode b_M_lowest 23 = .ok (.idiv, 1) := by decide +kernel
theorem d_M_lowest_24 : decode b_M_lowest 24 = .ok (.i2l, 1) := by decide +kernel
theorem d_M_lowest_25 : decode b_M_lowest 25 = .ok (.lreturn, 1) := by decide +kernel
theorem d_M_odds_0 : decode b_M_odds 0 = .ok (.aload_n 0, 1) := by decide +kernel
theorem d_M_odds_1 : decode b_M_odds 1 = .ok (.iload_n 1, 1) := by decide +kernel
theorem d_M_odds_2 : decode b_M_odds 2 = .ok (.invokevirtual 222, 3) := by decide +kernel
theorem d_M_odds_5 : decode b_M_odds 5 = .ok (.ifCond .eq 24, 3) := by decide +kernel
theorem d_M_odds_8 : decode b_M_odds 8 = .ok (.aload_n 0, 1) := by decide +kernel
theorem d_M_odds_9 : decode b_M_odds 9 = .ok (.iload_n 2, 1) := by decide +kernel
theorem d_M_odds_10 : decode b_M_odds 10 = .ok (.iconst 0, 1) := by decide +kernel
theorem d_M_odds_11 : decode b_M_odds 11 = .ok (.bipush 30, 2) := by decide +kernel
theorem d_M_odds_13 : decode b_M_odds 13 = .ok (.invokevirtual 218, 3) := by decide +kernel
theorem d_M_odds_16 : decode b_M_odds 16 = .ok (.ifCond .eq 13, 3) := by decide +kernel
theorem d_M_odds_19 : decode b_M_odds 19 = .ok (.aload_n 0, 1) := by decide +kernel
theorem d_M_odds_20 : decode b_M_odds 20 = .ok (.iload_n 3, 1) := by decide +kernel
theorem d_M_odds_21 : decode b_M_odds 21 = .ok (.iconst 0, 1) := by decide +kernel
theorem d_M_odds_22 : decode b_M_odds 22 = .ok (.iconst 1, 1) := by decide +kernel
theorem d_M_odds_23 : decode b_M_odds 23 = .ok (.invokevirtual 218, 3) := by decide +kernel
theorem d_M_odds_26 : decode b_M_odds 26 = .ok (.ifCond .ne 7, 3) := by decide +kernel
theorem d_M_odds_29 : decode b_M_odds 29 = .ok (.ldc2_w 352, 3) := by decide +kernel
theorem d_M_odds_32 : decode b_M_odds 32 = .ok (.lreturn, 1) := by decide +kernel
theorem d_M_odds_33 : decode b_M_odds 33 = .ok (.iconst 0, 1) := by decide +kernel
theorem d_M_odds_34 : decode b_M_odds 34 = .ok (.istore 4, 2) := by decide +kernel
theorem d_M_odds_36 : decode b_M_odds 36 = .ok (.iconst 0, 1) := by decide +kernel
theorem d_M_odds_37 : decode b_M_odds 37 = .ok (.istore 5, 2) := by decide +kernel
theorem d_M_odds_39 : decode b_M_odds 39 = .ok (.iload 5, 2) := by decide +kernel
theorem d_M_odds_41 : decode b_M_odds 41 = .ok (.aload_n 0, 1) := by decide +kernel
theorem d_M_odds_42 : decode b_M_odds 42 = .ok (.getfield 7, 3) := by decide +kernel
theorem d_M_odds_45 : decode b_M_odds 45 = .ok (.if_icmp .ge 58, 3) := by decide +kernel
theorem d_M_odds_48 : decode b_M_odds 48 = .ok (.aload_n 0, 1) := by decide +kernel
theorem d_M_odds_49 : decode b_M_odds 49 = .ok (.invokevirtual 325, 3) := by decide +kernel
theorem d_M_odds_52 : decode b_M_odds 52 = .ok (.aload_n 0, 1) := by decide +kernel
theorem d_M_odds_53 : decode b_M_odds 53 = .ok (.iload 5, 2) := by decide +kernel
theorem d_M_odds_55 : decode b_M_odds 55 = .ok (.putfield 108, 3) := by decide +kernel
theorem d_M_odds_58 : decode b_M_odds 58 = .ok (.aload_n 0, 1) := by decide +kernel
theorem d_M_odds_59 : decode b_M_odds 59 = .ok (.iload_n 2, 1) := by decide +kernel
theorem d_M_odds_60 : decode b_M_odds 60 = .ok (.invokevirtual 328, 3) := by decide +kernel
theorem d_M_odds_63 : decode b_M_odds 63 = .ok (.aload_n 0, 1) := by decide +kernel
theorem d_M_odds_64 : decode b_M_odds 64 = .ok (.iconst (-1), 1) := by decide +kernel
theorem d_M_odds_65 : decode b_M_odds 65 = .ok (.putfield 108, 3) := by decide +kernel
theorem d_M_odds_68 : decode b_M_odds 68 = .ok (.iload 4, 2) := by decide +kernel
theorem d_M_odds_70 : decode b_M_odds 70 = .ok (.aload_n 0, 1) := by decide +kernel
theorem d_M_odds_71 : decode b_M_odds 71 = .ok (.getfield 32, 3) := by decide +kernel
theorem d_M_odds_74 : decode b_M_odds 74 = .ok (.iload_n 1, 1) := by decide +kernel
theorem d_M_odds_75 : decode b_M_odds 75 = .ok (.iaload, 1) := by decide +kernel
theorem d_M_odds_76 : decode b_M_odds 76 = .ok (.aload_n 0, 1) := by decide +kernel
theorem d_M_odds_77 : decode b_M_odds 77 = .ok (.getfield 120, 3) := by decide +kernel
theorem d_M_odds_80 : decode b_M_odds 80 = .ok (.iload_n 1, 1) := by decide +kernel
theorem d_M_odds_81 : decode b_M_odds 81 = .ok (.iaload, 1) := by decide +kernel
theorem d_M_odds_82 : decode b_M_odds 82 = .ok (.if_icmp .le 7, 3) := by decide +kernel
theorem d_M_odds_85 : decode b_M_odds 85 = .ok (.iconst 1, 1) := by decide +kernel
theorem d_M_odds_86 : decode b_M_odds 86 = .ok (.goto 4, 3) := by decide +kernel
theorem d_M_odds_89 : decode b_M_odds 89 = .ok (.iconst 0, 1) := by decide +kernel
theorem d_M_odds_90 : decode b_M_odds 90 = .ok (.iadd, 1) := by decide +kernel
theorem d_M_odds_91 : decode b_M_odds 91 = .ok (.istore 4, 2) := by decide +kernel
theorem d_M_odds_93 : decode b_M_odds 93 = .ok (.aload_n 0, 1) := by decide +kernel
theorem d_M_odds_94 : decode b_M_odds 94 = .ok (.invokevirtual 334, 3) := by decide +kernel
theorem d_M_odds_97 : decode b_M_odds 97 = .ok (.iinc 5 1, 3) := by decide +kernel
theorem d_M_odds_100 : decode b_M_odds 100 = .ok (.goto (-61), 3) := by decide +kernel
theorem d_M_odds_103 : decode b_M_odds 103 = .ok (.aload_n 0, 1) := by decide +kernel
theorem d_M_odds_104 : decode b_M_odds 104 = .ok (.iload 4, 2) := by decide +kernel
theorem d_M_odds_106 : decode b_M_odds 106 = .ok (.aload_n 0, 1) := by decide +kernel
theorem d_M_odds_107 : decode b_M_odds 107 = .ok (.getfield 7, 3) := by decide +kernel
theorem d_M_odds_110 : decode b_M_odds 110 = .ok (.iload_n 3, 1) := by decide +kernel
theorem d_M_odds_111 : decode b_M_odds 111 = .ok (.invokevirtual 354, 3) := by decide +kernel
theorem d_M_odds_114 : decode b_M_odds 114 = .ok (.lreturn, 1) := by decide +kernel
theorem d_M_mean_0 : decode b_M_mean 0 = .ok (.aload_n 0, 1) := by decide +kernel
theorem d_M_mean_1 : decode b_M_mean 1 = .ok (.iload_n 1, 1) := by decide +kernel
theorem d_M_mean_2 : decode b_M_mean 2 = .ok (.iconst 1, 1) := by decide +kernel
theorem d_M_mean_3 : decode b_M_mean 3 = .ok (.bipush 60, 2) := by decide +kernel
theorem d_M_mean_5 : decode b_M_mean 5 = .ok (.invokevirtual 218, 3) := by decide +kernel
theorem d_M_mean_8 : decode b_M_mean 8 = .ok (.ifCond .eq 13, 3) := by decide +kernel
theorem d_M_mean_11 : decode b_M_mean 11 = .ok (.aload_n 0, 1) := by decide +kernel
theorem d_M_mean_12 : decode b_M_mean 12 = .ok (.iload_n 2, 1) := by decide +kernel
theorem d_M_mean_13 : decode b_M_mean 13 = .ok (.iconst 0, 1) := by decide +kernel
theorem d_M_mean_14 : decode b_M_mean 14 = .ok (.iconst 1, 1) := by decide +kernel
theorem d_M_mean_15 : decode b_M_mean 15 = .ok (.invokevirtual 218, 3) := by decide +kernel
theorem d_M_mean_18 : decode b_M_mean 18 = .ok (.ifCond .ne 7, 3) := by decide +kernel
theorem d_M_mean_21 : decode b_M_mean 21 = .ok (.ldc2_w 352, 3) := by decide +kernel
theorem d_M_mean_24 : decode b_M_mean 24 = .ok (.lreturn, 1) := by decide +kernel
theorem d_M_mean_25 : decode b_M_mean 25 = .ok (.aload_n 0, 1) := by decide +kernel
theorem d_M_mean_26 : decode b_M_mean 26 = .ok (.invokevirtual 325, 3) := by decide +kernel
theorem d_M_mean_29 : decode b_M_mean 29 = .ok (.iconst 0, 1) := by decide +kernel
theorem d_M_mean_30 : decode b_M_mean 30 = .ok (.istore_n 3, 1) := by decide +kernel
theorem d_M_mean_31 : decode b_M_mean 31 = .ok (.iconst 0, 1) := by decide +kernel
theorem d_M_mean_32 : decode b_M_mean 32 = .ok (.istore 4, 2) := by decide +kernel
theorem d_M_mean_34 : decode b_M_mean 34 = .ok (.iload 4, 2) := by decide +kernel
theorem d_M_mean_36 : decode b_M_mean 36 = .ok (.iload_n 1, 1) := by decide +kernel
theorem d_M_mean_37 : decode b_M_mean 37 = .ok (.if_icmp .ge 20, 3) := by decide +kernel
theorem d_M_mean_40 : decode b_M_mean 40 = .ok (.aload_n 0, 1) := by decide +kernel
theorem d_M_mean_41 : decode b_M_mean 41 = .ok (.invokevirtual 322, 3) := by decide +kernel
theorem d_M_mean_44 : decode b_M_mean 44 = .ok (.iload_n 3, 1) := by decide +kernel
theorem d_M_mean_45 : decode b_M_mean 45 = .ok (.aload_n 0, 1) := by decide +kernel
theorem d_M_mean_46 : decode b_M_mean 46 = .ok (.getfield 13, 3) := by decide +kernel
theorem d_M_mean_49 : decode b_M_mean 49 = .ok (.iadd, 1) := by decide +kernel
theorem d_M_mean_50 : decode b_M_mean 50 = .ok (.istore_n 3, 1) := by decide +kernel
theorem d_M_mean_51 : decode b_M_mean 51 = .ok (.iinc 4 1, 3) := by decide +kernel
theorem d_M_mean_54 : decode b_M_mean 54 = .ok (.goto (-20), 3) := by decide +kernel
theorem d_M_mean_57 : decode b_M_mean 57 = .ok (.aload_n 0, 1) := by decide +kernel
theorem d_M_mean_58 : decode b_M_mean 58 = .ok (.invokevirtual 334, 3) := by decide +kernel
theorem d_M_mean_61 : decode b_M_mean 61 = .ok (.aload_n 0, 1) := by decide +kernel
theorem d_M_mean_62 : decode b_M_mean 62 = .ok (.iload_n 3, 1) := by decide +kernel
theorem d_M_mean_63 : decode b_M_mean 63 = .ok (.iload_n 1, 1) := by decide +kernel
theorem d_M_mean_64 : decode b_M_mean 64 = .ok (.iload_n 2, 1) := by decide +kernel
theorem d_M_mean_65 : decode b_M_mean 65 = .ok (.invokevirtual 354, 3) := by decide +kernel
theorem d_M_mean_68 : decode b_M_mean 68 = .ok (.lreturn, 1) := by decide +kernel
theorem d_M_book_0 : decode b_M_book 0 = .ok (.iload_n 1, 1) := by decide +kernel
theorem d_M_book_1 : decode b_M_book 1 = .ok (.iconst (-1), 1) := by decide +kernel
theorem d_M_book_2 : decode b_M_book 2 = .ok (.if_icmp .ne 10, 3) := by decide +kernel
theorem d_M_book_5 : decode b_M_book 5 = .ok (.aload_n 0, 1) := by decide +kernel
theorem d_M_book_6 : decode b_M_book 6 = .ok (.iconst 0, 1) := by decide +kernel
theorem d_M_book_7 : decode b_M_book 7 = .ok (.putfield 141, 3) := by decide +kernel
theorem d_M_book_10 : decode b_M_book 10 = .ok (.iconst 0, 1) := by decide +kernel
theorem d_M_book_11 : decode b_M_book 11 = .ok (.ireturn, 1) := by decide +kernel
theorem d_M_book_12 : decode b_M_book 12 = .ok (.aload_n 0, 1) := by decide +kernel
theorem d_M_book_13 : decode b_M_book 13 = .ok (.iload_n 1, 1) := by decide +kernel
theorem d_M_book_14 : decode b_M_book 14 = .ok (.iconst 0, 1) := by decide +kernel
theorem d_M_book_15 : decode b_M_book 15 = .ok (.sipush 999, 3) := by decide +kernel
theorem d_M_book_18 : decode b_M_book 18 = .ok (.invokevirtual 218, 3) := by decide +kernel
theorem d_M_book_21 : decode b_M_book 21 = .ok (.ifCond .ne 6, 3) := by decide +kernel
theorem d_M_book_24 : decode b_M_book 24 = .ok (.bipush (-2), 2) := by decide +kernel
theorem d_M_book_26 : decode b_M_book 26 = .ok (.ireturn, 1) := by decide +kernel
theorem d_M_book_27 : decode b_M_book 27 = .ok (.aload_n 0, 1) := by decide +kernel
theorem d_M_book_28 : decode b_M_book 28 = .ok (.getfield 141, 3) := by decide +kernel
theorem d_M_book_31 : decode b_M_book 31 = .ok (.bipush 12, 2) := by decide +kernel
theorem d_M_book_33 : decode b_M_book 33 = .ok (.if_icmp .ne 6, 3) := by decide +kernel
theorem d_M_book_36 : decode b_M_book 36 = .ok (.bipush (-4), 2) := by decide +kernel
theorem d_M_book_38 : decode b_M_book 38 = .ok (.ireturn, 1) := by decide +kernel
theorem d_M_book_39 : decode b_M_book 39 = .ok (.aload_n 0, 1) := by decide +kernel
theorem d_M_book_40 : decode b_M_book 40 = .ok (.getfield 144, 3) := by decide +kernel
theorem d_M_book_43 : decode b_M_book 43 = .ok (.aload_n 0, 1) := by decide +kernel
theorem d_M_book_44 : decode b_M_book 44 = .ok (.getfield 141, 3) := by decide +kernel
theorem d_M_book_47 : decode b_M_book 47 = .ok (.iload_n 1, 1) := by decide +kernel
theorem d_M_book_48 : decode b_M_book 48 = .ok (.iastore, 1) := by decide +kernel
theorem d_M_book_49 : decode b_M_book 49 = .ok (.aload_n 0, 1) := by decide +kernel
theorem d_M_book_50 : decode b_M_book 50 = .ok (.dup, 1) := by decide +kernel
theorem d_M_book_51 : decode b_M_book 51 = .ok (.getfield 141, 3) := by decide +kernel
theorem d_M_book_54 : decode b_M_book 54 = .ok (.iconst 1, 1) := by decide +kernel
theorem d_M_book_55 : decode b_M_book 55 = .ok (.iadd, 1) := by decide +kernel
theorem d_M_book_56 : decode b_M_book 56 = .ok (.putfield 141, 3) := by decide +kernel
theorem d_M_book_59 : decode b_M_book 59 = .ok (.aload_n 0, 1) := by decide +kernel
theorem d_M_book_60 : decode b_M_book 60 = .ok (.getfield 141, 3) := by decide +kernel
theorem d_M_book_63 : decode b_M_book 63 = .ok (.ireturn, 1) := by decide +kernel
theorem d_M_looked_0 : decode b_M_looked 0 = .ok (.aload_n 0, 1) := by decide +kernel
theorem d_M_looked_1 : decode b_M_looked 1 = .ok (.invokevirtual 325, 3) := by decide +kernel
theorem d_M_looked_4 : decode b_M_looked 4 = .ok (.bipush (-5), 2) := by decide +kernel
theorem d_M_looked_6 : decode b_M_looked 6 = .ok (.istore_n 1, 1) := by decide +kernel
theorem d_M_looked_7 : decode b_M_looked 7 = .ok (.iconst 0, 1) := by decide +kernel
theorem d_M_looked_8 : decode b_M_looked 8 = .ok (.istore_n 2, 1) := by decide +kernel
theorem d_M_looked_9 : decode b_M_looked 9 = .ok (.iload_n 2, 1) := by decide +kernel
theorem d_M_looked_10 : decode b_M_looked 10 = .ok (.aload_n 0, 1) := by decide +kernel
theorem d_M_looked_11 : decode b_M_looked 11 = .ok (.getfield 141, 3) := by decide +kernel
theorem d_M_looked_14 : decode b_M_looked 14 = .ok (.if_icmp .ge 37, 3) := by decide +kernel
theorem d_M_looked_17 : decode b_M_looked 17 = .ok (.iload_n 1, 1) := by decide +kernel
theorem d_M_looked_18 : decode b_M_looked 18 = .ok (.ifCond .ge 33, 3) := by decide +kernel
theorem d_M_looked_21 : decode b_M_looked 21 = .ok (.aload_n 0, 1) := by decide +kernel
theorem d_M_looked_22 : decode b_M_looked 22 = .ok (.invokevirtual 322, 3) := by decide +kernel
theorem d_M_looked_25 : decode b_M_looked 25 = .ok (.aload_n 0, 1) := by decide +kernel
theorem d_M_looked_26 : decode b_M_looked 26 = .ok (.getfield 13, 3) := by decide +kernel
theorem d_M_looked_29 : decode b_M_looked 29 = .ok (.aload_n 0, 1) := by decide +kernel
theorem d_M_looked_30 : decode b_M_looked 30 = .ok (.getfield 144, 3) := by decide +kernel
theorem d_M_looked_33 : decode b_M_looked 33 = .ok (.iload_n 2, 1) := by decide +kernel
theorem d_M_looked_34 : decode b_M_looked 34 = .ok (.iaload, 1) := by decide +kernel
theorem d_M_looked_35 : decode b_M_looked 35 = .ok (.if_icmp .ne 8, 3) := by decide +kernel
theorem d_M_looked_38 : decode b_M_looked 38 = .ok (.bipush (-5), 2) := by decide +kernel
theorem d_M_looked_40 : decode b_M_looked 40 = .ok (.goto 4, 3) := by decide +kernel
theorem d_M_looked_43 : decode b_M_looked 43 = .ok (.iload_n 2, 1) := by decide +kernel
theorem d_M_looked_44 : decode b_M_looked 44 = .ok (.istore_n 1, 1) := by decide +kernel
theorem d_M_looked_45 : decode b_M_looked 45 = .ok (.iinc 2 1, 3) := by decide +kernel
theorem d_M_looked_48 : decode b_M_looked 48 = .ok (.goto (-39), 3) := by decide +kernel
theorem d_M_looked_51 : decode b_M_looked 51 = .ok (.aload_n 0, 1) := by decide +kernel
theorem d_M_looked_52 : decode b_M_looked 52 = .ok (.invokevirtual 334, 3) := by decide +kernel
theorem d_M_looked_55 : decode b_M_looked 55 = .ok (.iload_n 1, 1) := by decide +kernel
theorem d_M_looked_56 : decode b_M_looked 56 = .ok (.ireturn, 1) := by decide +kernel
theorem d_M_judge_0 : decode b_M_judge 0 = .ok (.aload_n 0, 1) := by decide +kernel
theorem d_M_judge_1 : decode b_M_judge 1 = .ok (.iload_n 1, 1) := by decide +kernel
theorem d_M_judge_2 : decode b_M_judge 2 = .ok (.invokevirtual 358, 3) := by decide +kernel
theorem d_M_judge_5 : decode b_M_judge 5 = .ok (.ifCond .ne 5, 3) := by decide +kernel
theorem d_M_judge_8 : decode b_M_judge 8 = .ok (.iconst (-1), 1) := by decide +kernel
theorem d_M_judge_9 : decode b_M_judge 9 = .ok (.ireturn, 1) := by decide +kernel
theorem d_M_judge_10 : decode b_M_judge 10 = .ok (.aload_n 0, 1) := by decide +kernel
theorem d_M_judge_11 : decode b_M_judge 11 = .ok (.getfield 205, 3) := by decide +kernel
theorem d_M_judge_14 : decode b_M_judge 14 = .ok (.iload_n 1, 1) := by decide +kernel
theorem d_M_judge_15 : decode b_M_judge 15 = .ok (.iaload, 1) := by decide +kernel
theorem d_M_judge_16 : decode b_M_judge 16 = .ok (.ifCond .lt 16, 3) := by decide +kernel
theorem d_M_judge_19 : decode b_M_judge 19 = .ok (.aload_n 0, 1) := by decide +kernel
theorem d_M_judge_20 : decode b_M_judge 20 = .ok (.getfield 205, 3) := by decide +kernel
theorem d_M_judge_23 : decode b_M_judge 23 = .ok (.iload_n 1, 1) := by decide +kernel
theorem d_M_judge_24 : decode b_M_judge 24 = .ok (.iaload, 1) := by decide +kernel
theorem d_M_judge_25 : decode b_M_judge 25 = .ok (.iconst 2, 1) := by decide +kernel
theorem d_M_judge_26 : decode b_M_judge 26 = .ok (.if_icmp .eq 6, 3) := by decide +kernel
theorem d_M_judge_29 : decode b_M_judge 29 = .ok (.bipush (-12), 2) := by decide +kernel
theorem d_M_judge_31 : decode b_M_judge 31 = .ok (.ireturn, 1) := by decide +kernel
theorem d_M_judge_32 : decode b_M_judge 32 = .ok (.iconst 0, 1) := by decide +kernel
theorem d_M_judge_33 : decode b_M_judge 33 = .ok (.istore_n 3, 1) := by decide +kernel
theorem d_M_judge_34 : decode b_M_judge 34 = .ok (.iload_n 3, 1) := by decide +kernel
theorem d_M_judge_35 : decode b_M_judge 35 = .ok (.aload_n 0, 1) := by decide +kernel
theorem d_M_judge_36 : decode b_M_judge 36 = .ok (.getfield 7, 3) := by decide +kernel
theorem d_M_judge_39 : decode b_M_judge 39 = .ok (.if_icmp .ge 67, 3) := by decide +kernel
theorem d_M_judge_42 : decode b_M_judge 42 = .ok (.aload_n 0, 1) := by decide +kernel
theorem d_M_judge_43 : decode b_M_judge 43 = .ok (.getfield 205, 3) := by decide +kernel
theorem d_M_judge_46 : decode b_M_judge 46 = .ok (.iload_n 1, 1) := by decide +kernel
theorem d_M_judge_47 : decode b_M_judge 47 = .ok (.iaload, 1) := by decide +kernel
theorem d_M_judge_48 : decode b_M_judge 48 = .ok (.ifCond .lt 21, 3) := by decide +kernel
theorem d_M_judge_51 : decode b_M_judge 51 = .ok (.iload_n 2, 1) := by decide +kernel
theorem d_M_judge_52 : decode b_M_judge 52 = .ok (.ifCond .lt 17, 3) := by decide +kernel
theorem d_M_judge_55 : decode b_M_judge 55 = .ok (.iload_n 2, 1) := by decide +kernel
theorem d_M_judge_56 : decode b_M_judge 56 = .ok (.aload_n 0, 1) := by decide +kernel
theorem d_M_judge_57 : decode b_M_judge 57 = .ok (.getfield 208, 3) := by decide +kernel
theorem d_M_judge_60 : decode b_M_judge 60 = .ok (.iload_n 1, 1) := by decide +kernel
theorem d_M_judge_61 : decode b_M_judge 61 = .ok (.iaload, 1) := by decide +kernel
theorem d_M_judge_62 : decode b_M_judge 62 = .ok (.iload_n 3, 1) := by decide +kernel
theorem d_M_judge_63 : decode b_M_judge 63 = .ok (.isub, 1) := by decide +kernel
theorem d_M_judge_64 : decode b_M_judge 64 = .ok (.iconst 1, 1) := by decide +kernel
theorem d_M_judge_65 : decode b_M_judge 65 = .ok (.isub, 1) := by decide +kernel
theorem d_M_judge_66 : decode b_M_judge 66 = .ok (.if_icmp .le 8, 3) := by decide +kernel
theorem d_M_judge_69 : decode b_M_judge 69 = .ok (.bipush 100, 2) := by decide +kernel
theorem d_M_judge_71 : decode b_M_judge 71 = .ok (.iload_n 3, 1) := by decide +kernel
theorem d_M_judge_72 : decode b_M_judge 72 = .ok (.iadd, 1) := by decide +kernel
theorem d_M_judge_73 : decode b_M_judge 73 = .ok (.ireturn, 1) := by decide +kernel
theorem d_M_judge_74 : decode b_M_judge 74 = .ok (.aload_n 0, 1) := by decide +kernel
theorem d_M_judge_75 : decode b_M_judge 75 = .ok (.getfield 211, 3) := by decide +kernel
theorem d_M_judge_78 : decode b_M_judge 78 = .ok (.bipush 60, 2) := by decide +kernel
theorem d_M_judge_80 : decode b_M_judge 80 = .ok (.iload_n 1, 1) := by decide +kernel
theorem d_M_judge_81 : decode b_M_judge 81 = .ok (.imul, 1) := by decide +kernel
theorem d_M_judge_82 : decode b_M_judge 82 = .ok (.iload_n 2, 1) := by decide +kernel
theorem d_M_judge_83 : decode b_M_judge 83 = .ok (.iadd, 1) := by decide +kernel
theorem d_M_judge_84 : decode b_M_judge 84 = .ok (.iload_n 3, 1) := by decide +kernel
theorem d_M_judge_85 : decode b_M_judge 85 = .ok (.iadd, 1) := by decide +kernel
theorem d_M_judge_86 : decode b_M_judge 86 = .ok (.laload, 1) := by decide +kernel
theorem d_M_judge_87 : decode b_M_judge 87 = .ok (.aload_n 0, 1) := by decide +kernel
theorem d_M_judge_88 : decode b_M_judge 88 = .ok (.getfield 32, 3) := by decide +kernel
theorem d_M_judge_91 : decode b_M_judge 91 = .ok (.iload_n 3, 1) := by decide +kernel
theorem d_M_judge_92 : decode b_M_judge 92 = .ok (.iaload, 1) := by decide +kernel
theorem d_M_judge_93 : decode b_M_judge 93 = .ok (.i2l, 1) := by decide +kernel
theorem d_M_judge_94 : decode b_M_judge 94 = .ok (.lcmp, 1) := by decide +kernel
theorem d_M_judge_95 : decode b_M_judge 95 = .ok (.ifCond .eq 5, 3) := by decide +kernel
theorem d_M_judge_98 : decode b_M_judge 98 = .ok (.iload_n 3, 1) := by decide +kernel
theorem d_M_judge_99 : decode b_M_judge 99 = .ok (.ireturn, 1) := by decide +kernel
theorem d_M_judge_100 : decode b_M_judge 100 = .ok (.iinc 3 1, 3) := by decide +kernel
theorem d_M_judge_103 : decode b_M_judge 103 = .ok (.goto (-69), 3) := by decide +kernel
theorem d_M_judge_106 : decode b_M_judge 106 = .ok (.bipush (-5), 2) := by decide +kernel
theorem d_M_judge_108 : decode b_M_judge 108 = .ok (.ireturn, 1) := by decide +kernel
theorem d_M_image_0 : decode b_M_image 0 = .ok (.aload_n 0, 1) := by decide +kernel
theorem d_M_image_1 : decode b_M_image 1 = .ok (.iconst 1, 1) := by decide +kernel
theorem d_M_image_2 : decode b_M_image 2 = .ok (.putfield 147, 3) := by decide +kernel
theorem d_M_image_5 : decode b_M_image 5 = .ok (.aload_n 0, 1) := by decide +kernel
theorem d_M_image_6 : decode b_M_image 6 = .ok (.aload_n 0, 1) := by decide +kernel
theorem d_M_image_7 : decode b_M_image 7 = .ok (.getfield 44, 3) := by decide +kernel
theorem d_M_image_10 : decode b_M_image 10 = .ok (.putfield 151, 3) := by decide +kernel
theorem d_M_image_13 : decode b_M_image 13 = .ok (.aload_n 0, 1) := by decide +kernel
theorem d_M_image_14 : decode b_M_image 14 = .ok (.aload_n 0, 1) := by decide +kernel
theorem d_M_image_15 : decode b_M_image 15 = .ok (.getfield 7, 3) := by decide +kernel
theorem d_M_image_18 : decode b_M_image 18 = .ok (.putfield 154, 3) := by decide +kernel
theorem d_M_image_21 : decode b_M_image 21 = .ok (.aload_n 0, 1) := by decide +kernel
theorem d_M_image_22 : decode b_M_image 22 = .ok (.aload_n 0, 1) := by decide +kernel
theorem d_M_image_23 : decode b_M_image 23 = .ok (.getfield 13, 3) := by decide +kernel
theorem d_M_image_26 : decode b_M_image 26 = .ok (.putfield 157, 3) := by decide +kernel
theorem d_M_image_29 : decode b_M_image 29 = .ok (.aload_n 0, 1) := by decide +kernel
theorem d_M_image_30 : decode b_M_image 30 = .ok (.aload_n 0, 1) := by decide +kernel
theorem d_M_image_31 : decode b_M_image 31 = .ok (.getfield 16, 3) := by decide +kernel
theorem d_M_image_34 : decode b_M_image 34 = .ok (.putfield 160, 3) := by decide +kernel
theorem d_M_image_37 : decode b_M_image 37 = .ok (.aload_n 0, 1) := by decide +kernel
theorem d_M_image_38 : decode b_M_image 38 = .ok (.aload_n 0, 1) := by decide +kernel
theorem d_M_image_39 : decode b_M_image 39 = .ok (.getfield 132, 3) := by decide +kernel
theorem d_M_image_42 : decode b_M_image 42 = .ok (.putfield 163, 3) := by decide +kernel
theorem d_M_image_45 : decode b_M_image 45 = .ok (.aload_n 0, 1) := by decide +kernel
theorem d_M_image_46 : decode b_M_image 46 = .ok (.aload_n 0, 1) := by decide +kernel
theorem d_M_image_47 : decode b_M_image 47 = .ok (.getfield 141, 3) := by decide +kernel
theorem d_M_image_50 : decode b_M_image 50 = .ok (.putfield 166, 3) := by decide +kernel
theorem d_M_image_53 : decode b_M_image 53 = .ok (.iconst 0, 1) := by decide +kernel
theorem d_M_image_54 : decode b_M_image 54 = .ok (.istore_n 1, 1) := by decide +kernel
theorem d_M_image_55 : decode b_M_image 55 = .ok (.iload_n 1, 1) := by decide +kernel
theorem d_M_image_56 : decode b_M_image 56 = .ok (.bipush 6, 2) := by decide +kernel
theorem d_M_image_58 : decode b_M_image 58 = .ok (.if_icmp .ge 105, 3) := by decide +kernel
theorem d_M_image_61 : decode b_M_image 61 = .ok (.aload_n 0, 1) := by decide +kernel
theorem d_M_image_62 : decode b_M_image 62 = .ok (.getfield 169, 3) := by decide +kernel
theorem d_M_image_65 : decode b_M_image 65 = .ok (.iload_n 1, 1) := by decide +kernel
theorem d_M_image_66 : decode b_M_image 66 = .ok (.aload_n 0, 1) := by decide +kernel
theorem d_M_image_67 : decode b_M_image 67 = .ok (.getfield 19, 3) := by decide +kernel
theorem d_M_image_70 : decode b_M_image 70 = .ok (.iload_n 1, 1) := by decide +kernel
theorem d_M_image_71 : decode b_M_image 71 = .ok (.iaload, 1) := by decide +kernel
theorem d_M_image_72 : decode b_M_image 72 = .ok (.iastore, 1) := by decide +kernel
theorem d_M_image_73 : decode b_M_image 73 = .ok (.aload_n 0, 1) := by decide +kernel
theorem d_M_image_74 : decode b_M_image 74 = .ok (.getfield 172, 3) := by decide +kernel
theorem d_M_image_77 : decode b_M_image 77 = .ok (.iload_n 1, 1) := by decide +kernel
theorem d_M_image_78 : decode b_M_image 78 = .ok (.aload_n 0, 1) := by decide +kernel
theorem d_M_image_79 : decode b_M_image 79 = .ok (.getfield 23, 3) := by decide +kernel
theorem d_M_image_82 : decode b_M_image 82 = .ok (.iload_n 1, 1) := by decide +kernel
theorem d_M_image_83 : decode b_M_image 83 = .ok (.iaload, 1) := by decide +kernel
theorem d_M_image_84 : decode b_M_image 84 = .ok (.iastore, 1) := by decide +kernel
theorem d_M_image_85 : decode b_M_image 85 = .ok (.aload_n 0, 1) := by decide +kernel
theorem d_M_image_86 : decode b_M_image 86 = .ok (.getfield 175, 3) := by decide +kernel
theorem d_M_image_89 : decode b_M_image 89 = .ok (.iload_n 1, 1) := by decide +kernel
theorem d_M_image_90 : decode b_M_image 90 = .ok (.aload_n 0, 1) := by decide +kernel
theorem d_M_image_91 : decode b_M_image 91 = .ok (.getfield 26, 3) := by decide +kernel
theorem d_M_image_94 : decode b_M_image 94 = .ok (.iload_n 1, 1) := by decide +kernel
theorem d_M_image_95 : decode b_M_image 95 = .ok (.iaload, 1) := by decide +kernel
theorem d_M_image_96 : decode b_M_image 96 = .ok (.iastore, 1) := by decide +kernel
theorem d_M_image_97 : decode b_M_image 97 = .ok (.aload_n 0, 1) := by decide +kernel
theorem d_M_image_98 : decode b_M_image 98 = .ok (.getfield 178, 3) := by decide +kernel
theorem d_M_image_101 : decode b_M_image 101 = .ok (.iload_n 1, 1) := by decide +kernel
theorem d_M_image_102 : decode b_M_image 102 = .ok (.aload_n 0, 1) := by decide +kernel
theorem d_M_image_103 : decode b_M_image 103 = .ok (.getfield 29, 3) := by decide +kernel
theorem d_M_image_106 : decode b_M_image 106 = .ok (.iload_n 1, 1) := by decide +kernel
theorem d_M_image_107 : decode b_M_image 107 = .ok (.iaload, 1) := by decide +kernel
theorem d_M_image_108 : decode b_M_image 108 = .ok (.iastore, 1) := by decide +kernel
theorem d_M_image_109 : decode b_M_image 109 = .ok (.aload_n 0, 1) := by decide +kernel
theorem d_M_image_110 : decode b_M_image 110 = .ok (.getfield 181, 3) := by decide +kernel
theorem d_M_image_113 : decode b_M_image 113 = .ok (.iload_n 1, 1) := by decide +kernel
theorem d_M_image_114 : decode b_M_image 114 = .ok (.aload_n 0, 1) := by decide +kernel
theorem d_M_image_115 : decode b_M_image 115 = .ok (.getfield 32, 3) := by decide +kernel
theorem d_M_image_118 : decode b_M_image 118 = .ok (.iload_n 1, 1) := by decide +kernel
theorem d_M_image_119 : decode b_M_image 119 = .ok (.iaload, 1) := by decide +kernel
theorem d_M_image_120 : decode b_M_image 120 = .ok (.iastore, 1) := by decide +kernel
theorem d_M_image_121 : decode b_M_image 121 = .ok (.aload_n 0, 1) := by decide +kernel
theorem d_M_image_122 : decode b_M_image 122 = .ok (.getfield 184, 3) := by decide +kernel
theorem d_M_image_125 : decode b_M_image 125 = .ok (.iload_n 1, 1) := by decide +kernel
theorem d_M_image_126 : decode b_M_image 126 = .ok (.aload_n 0, 1) := by decide +kernel
theorem d_M_image_127 : decode b_M_image 127 = .ok (.getfield 35, 3) := by decide +kernel
theorem d_M_image_130 : decode b_M_image 130 = .ok (.iload_n 1, 1) := by decide +kernel
theorem d_M_image_131 : decode b_M_image 131 = .ok (.iaload, 1) := by decide +kernel
theorem d_M_image_132 : decode b_M_image 132 = .ok (.iastore, 1) := by decide +kernel
theorem d_M_image_133 : decode b_M_image 133 = .ok (.aload_n 0, 1) := by decide +kernel
theorem d_M_image_134 : decode b_M_image 134 = .ok (.getfield 190, 3) := by decide +kernel
theorem d_M_image_137 : decode b_M_image 137 = .ok (.iload_n 1, 1) := by decide +kernel
theorem d_M_image_138 : decode b_M_image 138 = .ok (.aload_n 0, 1) := by decide +kernel
theorem d_M_image_139 : decode b_M_image 139 = .ok (.getfield 135, 3) := by decide +kernel
theorem d_M_image_142 : decode b_M_image 142 = .ok (.iload_n 1, 1) := by decide +kernel
theorem d_M_image_143 : decode b_M_image 143 = .ok (.iaload, 1) := by decide +kernel
theorem d_M_image_144 : decode b_M_image 144 = .ok (.iastore, 1) := by decide +kernel
theorem d_M_image_145 : decode b_M_image 145 = .ok (.aload_n 0, 1) := by decide +kernel
theorem d_M_image_146 : decode b_M_image 146 = .ok (.getfield 193, 3) := by decide +kernel
theorem d_M_image_149 : decode b_M_image 149 = .ok (.iload_n 1, 1) := by decide +kernel
theorem d_M_image_150 : decode b_M_image 150 = .ok (.aload_n 0, 1) := by decide +kernel
theorem d_M_image_151 : decode b_M_image 151 = .ok (.getfield 138, 3) := by decide +kernel
theorem d_M_image_154 : decode b_M_image 154 = .ok (.iload_n 1, 1) := by decide +kernel
theorem d_M_image_155 : decode b_M_image 155 = .ok (.iaload, 1) := by decide +kernel
theorem d_M_image_156 : decode b_M_image 156 = .ok (.iastore, 1) := by decide +kernel
theorem d_M_image_157 : decode b_M_image 157 = .ok (.iinc 1 1, 3) := by decide +kernel
theorem d_M_image_160 : decode b_M_image 160 = .ok (.goto (-105), 3) := by decide +kernel
theorem d_M_image_163 : decode b_M_image 163 = .ok (.iconst 0, 1) := by decide +kernel
theorem d_M_image_164 : decode b_M_image 164 = .ok (.istore_n 1, 1) := by decide +kernel
theorem d_M_image_165 : decode b_M_image 165 = .ok (.iload_n 1, 1) := by decide +kernel
theorem d_M_image_166 : decode b_M_image 166 = .ok (.bipush 24, 2) := by decide +kernel
theorem d_M_image_168 : decode b_M_image 168 = .ok (.if_icmp .ge 21, 3) := by decide +kernel
theorem d_M_image_171 : decode b_M_image 171 = .ok (.aload_n 0, 1) := by decide +kernel
theorem d_M_image_172 : decode b_M_image 172 = .ok (.getfield 187, 3) := by decide +kernel
theorem d_M_image_175 : decode b_M_image 175 = .ok (.iload_n 1, 1) := by decide +kernel
theorem d_M_image_176 : decode b_M_image 176 = .ok (.aload_n 0, 1) := by decide +kernel
theorem d_M_image_177 : decode b_M_image 177 = .ok (.getfield 38, 3) := by decide +kernel
theorem d_M_image_180 : decode b_M_image 180 = .ok (.iload_n 1, 1) := by decide +kernel
theorem d_M_image_181 : decode b_M_image 181 = .ok (.iaload, 1) := by decide +kernel
theorem d_M_image_182 : decode b_M_image 182 = .ok (.iastore, 1) := by decide +kernel
theorem d_M_image_183 : decode b_M_image 183 = .ok (.iinc 1 1, 3) := by decide +kernel
theorem d_M_image_186 : decode b_M_image 186 = .ok (.goto (-21), 3) := by decide +kernel
theorem d_M_image_189 : decode b_M_image 189 = .ok (.iconst 0, 1) := by decide +kernel
theorem d_M_image_190 : decode b_M_image 190 = .ok (.istore_n 1, 1) := by decide +kernel
theorem d_M_image_191 : decode b_M_image 191 = .ok (.iload_n 1, 1) := by decide +kernel
theorem d_M_image_192 : decode b_M_image 192 = .ok (.bipush 12, 2) := by decide +kernel
theorem d_M_image_194 : decode b_M_image 194 = .ok (.if_icmp .ge 21, 3) := by decide +kernel
theorem d_M_image_197 : decode b_M_image 197 = .ok (.aload_n 0, 1) := by decide +kernel
theorem d_M_image_198 : decode b_M_image 198 = .ok (.getfield 196, 3) := by decide +kernel
theorem d_M_image_201 : decode b_M_image 201 = .ok (.iload_n 1, 1) := by decide +kernel
theorem d_M_image_202 : decode b_M_image 202 = .ok (.aload_n 0, 1) := by decide +kernel
theorem d_M_image_203 : decode b_M_image 203 = .ok (.getfield 144, 3) := by decide +kernel
theorem d_M_image_206 : decode b_M_image 206 = .ok (.iload_n 1, 1) := by decide +kernel
theorem d_M_image_207 : decode b_M_image 207 = .ok (.iaload, 1) := by decide +kernel
theorem d_M_image_208 : decode b_M_image 208 = .ok (.iastore, 1) := by decide +kernel
theorem d_M_image_209 : decode b_M_image 209 = .ok (.iinc 1 1, 3) := by decide +kernel
theorem d_M_image_212 : decode b_M_image 212 = .ok (.goto (-21), 3) := by decide +kernel
theorem d_M_image_215 : decode b_M_image 215 = .ok (.aload_n 0, 1) := by decide +kernel
theorem d_M_image_216 : decode b_M_image 216 = .ok (.getfield 7, 3) := by decide +kernel
theorem d_M_image_219 : decode b_M_image 219 = .ok (.ireturn, 1) := by decide +kernel
theorem d_M_undo_0 : decode b_M_undo 0 = .ok (.aload_n 0, 1) := by decide +kernel
theorem d_M_undo_1 : decode b_M_undo 1 = .ok (.getfield 147, 3) := by decide +kernel
theorem d_M_undo_4 : decode b_M_undo 4 = .ok (.ifCond .ne 6, 3) := by decide +kernel
theorem d_M_undo_7 : decode b_M_undo 7 = .ok (.bipush (-3), 2) := by decide +kernel
theorem d_M_undo_9 : decode b_M_undo 9 = .ok (.ireturn, 1) := by decide +kernel
theorem d_M_undo_10 : decode b_M_undo 10 = .ok (.aload_n 0, 1) := by decide +kernel
theorem d_M_undo_11 : decode b_M_undo 11 = .ok (.aload_n 0, 1) := by decide +kernel
theorem d_M_undo_12 : decode b_M_undo 12 = .ok (.getfield 151, 3) := by decide +kernel
theorem d_M_undo_15 : decode b_M_undo 15 = .ok (.putfield 44, 3) := by decide +kernel
theorem d_M_undo_18 : decode b_M_undo 18 = .ok (.aload_n 0, 1) := by decide +kernel
theorem d_M_undo_19 : decode b_M_undo 19 = .ok (.aload_n 0, 1) := by decide +kernel
theorem d_M_undo_20 : decode b_M_undo 20 = .ok (.getfield 154, 3) := by decide +kernel
theorem d_M_undo_23 : decode b_M_undo 23 = .ok (.putfield 7, 3) := by decide +kernel
theorem d_M_undo_26 : decode b_M_undo 26 = .ok (.aload_n 0, 1) := by decide +kernel
theorem d_M_undo_27 : decode b_M_undo 27 = .ok (.aload_n 0, 1) := by decide +kernel
theorem d_M_undo_28 : decode b_M_undo 28 = .ok (.getfield 157, 3) := by decide +kernel
theorem d_M_undo_31 : decode b_M_undo 31 = .ok (.putfield 13, 3) := by decide +kernel
theorem d_M_undo_34 : decode b_M_undo 34 = .ok (.aload_n 0, 1) := by decide +kernel
theorem d_M_undo_35 : decode b_M_undo 35 = .ok (.aload_n 0, 1) := by decide +kernel
theorem d_M_undo_36 : decode b_M_undo 36 = .ok (.getfield 160, 3) := by decide +kernel
theorem d_M_undo_39 : decode b_M_undo 39 = .ok (.putfield 16, 3) := by decide +kernel
theorem d_M_undo_42 : decode b_M_undo 42 = .ok (.aload_n 0, 1) := by decide +kernel
theorem d_M_undo_43 : decode b_M_undo 43 = .ok (.aload_n 0, 1) := by decide +kernel
theorem d_M_undo_44 : decode b_M_undo 44 = .ok (.getfield 163, 3) := by decide +kernel
theorem d_M_undo_47 : decode b_M_undo 47 = .ok (.putfield 132, 3) := by decide +kernel
theorem d_M_undo_50 : decode b_M_undo 50 = .ok (.aload_n 0, 1) := by decide +kernel
theorem d_M_undo_51 : decode b_M_undo 51 = .ok (.aload_n 0, 1) := by decide +kernel
theorem d_M_undo_52 : decode b_M_undo 52 = .ok (.getfield 166, 3) := by decide +kernel
theorem d_M_undo_55 : decode b_M_undo 55 = .ok (.putfield 141, 3) := by decide +kernel
theorem d_M_undo_58 : decode b_M_undo 58 = .ok (.iconst 0, 1) := by decide +kernel
theorem d_M_undo_59 : decode b_M_undo 59 = .ok (.istore_n 1, 1) := by decide +kernel
theorem d_M_undo_60 : decode b_M_undo 60 = .ok (.iload_n 1, 1) := by decide +kernel
theorem d_M_undo_61 : decode b_M_undo 61 = .ok (.bipush 6, 2) := by decide +kernel
theorem d_M_undo_63 : decode b_M_undo 63 = .ok (.if_icmp .ge 105, 3) := by decide +kernel
theorem d_M_undo_66 : decode b_M_undo 66 = .ok (.aload_n 0, 1) := by decide +kernel
theorem d_M_undo_67 : decode b_M_undo 67 = .ok (.getfield 19, 3) := by decide +kernel
theorem d_M_undo_70 : decode b_M_undo 70 = .ok (.iload_n 1, 1) := by decide +kernel
theorem d_M_undo_71 : decode b_M_undo 71 = .ok (.aload_n 0, 1) := by decide +kernel
theorem d_M_undo_72 : decode b_M_undo 72 = .ok (.getfield 169, 3) := by decide +kernel
theorem d_M_undo_75 : decode b_M_undo 75 = .ok (.iload_n 1, 1) := by decide +kernel
theorem d_M_undo_76 : decode b_M_undo 76 = .ok (.iaload, 1) := by decide +kernel
theorem d_M_undo_77 : decode b_M_undo 77 = .ok (.iastore, 1) := by decide +kernel
theorem d_M_undo_78 : decode b_M_undo 78 = .ok (.aload_n 0, 1) := by decide +kernel
theorem d_M_undo_79 : decode b_M_undo 79 = .ok (.getfield 23, 3) := by decide +kernel
theorem d_M_undo_82 : decode b_M_undo 82 = .ok (.iload_n 1, 1) := by decide +kernel
theorem d_M_undo_83 : decode b_M_undo 83 = .ok (.aload_n 0, 1) := by decide +kernel
theorem d_M_undo_84 : decode b_M_undo 84 = .ok (.getfield 172, 3) := by decide +kernel
theorem d_M_undo_87 : decode b_M_undo 87 = .ok (.iload_n 1, 1) := by decide +kernel
theorem d_M_undo_88 : decode b_M_undo 88 = .ok (.iaload, 1) := by decide +kernel
theorem d_M_undo_89 : decode b_M_undo 89 = .ok (.iastore, 1) := by decide +kernel
theorem d_M_undo_90 : decode b_M_undo 90 = .ok (.aload_n 0, 1) := by decide +kernel
theorem d_M_undo_91 : decode b_M_undo 91 = .ok (.getfield 26, 3) := by decide +kernel
theorem d_M_undo_94 : decode b_M_undo 94 = .ok (.iload_n 1, 1) := by decide +kernel
theorem d_M_undo_95 : decode b_M_undo 95 = .ok (.aload_n 0, 1) := by decide +kernel
theorem d_M_undo_96 : decode b_M_undo 96 = .ok (.getfield 175, 3) := by decide +kernel
theorem d_M_undo_99 : decode b_M_undo 99 = .ok (.iload_n 1, 1) := by decide +kernel
theorem d_M_undo_100 : decode b_M_undo 100 = .ok (.iaload, 1) := by decide +kernel
theorem d_M_undo_101 : decode b_M_undo 101 = .ok (.iastore, 1) := by decide +kernel
theorem d_M_undo_102 : decode b_M_undo 102 = .ok (.aload_n 0, 1) := by decide +kernel
theorem d_M_undo_103 : decode b_M_undo 103 = .ok (.getfield 29, 3) := by decide +kernel
theorem d_M_undo_106 : decode b_M_undo 106 = .ok (.iload_n 1, 1) := by decide +kernel
theorem d_M_undo_107 : decode b_M_undo 107 = .ok (.aload_n 0, 1) := by decide +kernel
theorem d_M_undo_108 : decode b_M_undo 108 = .ok (.getfield 178, 3) := by decide +kernel
theorem d_M_undo_111 : decode b_M_undo 111 = .ok (.iload_n 1, 1) := by decide +kernel
theorem d_M_undo_112 : decode b_M_undo 112 = .ok (.iaload, 1) := by decide +kernel
theorem d_M_undo_113 : decode b_M_undo 113 = .ok (.iastore, 1) := by decide +kernel
theorem d_M_undo_114 : decode b_M_undo 114 = .ok (.aload_n 0, 1) := by decide +kernel
theorem d_M_undo_115 : decode b_M_undo 115 = .ok (.getfield 32, 3) := by decide +kernel
theorem d_M_undo_118 : decode b_M_undo 118 = .ok (.iload_n 1, 1) := by decide +kernel
theorem d_M_undo_119 : decode b_M_undo 119 = .ok (.aload_n 0, 1) := by decide +kernel
theorem d_M_undo_120 : decode b_M_undo 120 = .ok (.getfield 181, 3) := by decide +kernel
theorem d_M_undo_123 : decode b_M_undo 123 = .ok (.iload_n 1, 1) := by decide +kernel
theorem d_M_undo_124 : decode b_M_undo 124 = .ok (.iaload, 1) := by decide +kernel
theorem d_M_undo_125 : decode b_M_undo 125 = .ok (.iastore, 1) := by decide +kernel
theorem d_M_undo_126 : decode b_M_undo 126 = .ok (.aload_n 0, 1) := by decide +kernel
theorem d_M_undo_127 : decode b_M_undo 127 = .ok (.getfield 35, 3) := by decide +kernel
theorem d_M_undo_130 : decode b_M_undo 130 = .ok (.iload_n 1, 1) := by decide +kernel
theorem d_M_undo_131 : decode b_M_undo 131 = .ok (.aload_n 0, 1) := by decide +kernel
theorem d_M_undo_132 : decode b_M_undo 132 = .ok (.getfield 184, 3) := by decide +kernel
theorem d_M_undo_135 : decode b_M_undo 135 = .ok (.iload_n 1, 1) := by decide +kernel
theorem d_M_undo_136 : decode b_M_undo 136 = .ok (.iaload, 1) := by decide +kernel
theorem d_M_undo_137 : decode b_M_undo 137 = .ok (.iastore, 1) := by decide +kernel
theorem d_M_undo_138 : decode b_M_undo 138 = .ok (.aload_n 0, 1) := by decide +kernel
theorem d_M_undo_139 : decode b_M_undo 139 = .ok (.getfield 135, 3) := by decide +kernel
theorem d_M_undo_142 : decode b_M_undo 142 = .ok (.iload_n 1, 1) := by decide +kernel
theorem d_M_undo_143 : decode b_M_undo 143 = .ok (.aload_n 0, 1) := by decide +kernel
theorem d_M_undo_144 : decode b_M_undo 144 = .ok (.getfield 190, 3) := by decide +kernel
theorem d_M_undo_147 : decode b_M_undo 147 = .ok (.iload_n 1, 1) := by decide +kernel
theorem d_M_undo_148 : decode b_M_undo 148 = .ok (.iaload, 1) := by decide +kernel
theorem d_M_undo_149 : decode b_M_undo 149 = .ok (.iastore, 1) := by decide +kernel
theorem d_M_undo_150 : decode b_M_undo 150 = .ok (.aload_n 0, 1) := by decide +kernel
theorem d_M_undo_151 : decode b_M_undo 151 = .ok (.getfield 138, 3) := by decide +kernel
theorem d_M_undo_154 : decode b_M_undo 154 = .ok (.iload_n 1, 1) := by decide +kernel
theorem d_M_undo_155 : decode b_M_undo 155 = .ok (.aload_n 0, 1) := by decide +kernel
theorem d_M_undo_156 : decode b_M_undo 156 = .ok (.getfield 193, 3) := by decide +kernel
theorem d_M_undo_159 : decode b_M_undo 159 = .ok (.iload_n 1, 1) := by decide +kernel
theorem d_M_undo_160 : decode b_M_undo 160 = .ok (.iaload, 1) := by decide +kernel
theorem d_M_undo_161 : decode b_M_undo 161 = .ok (.iastore, 1) := by decide +kernel
theorem d_M_undo_162 : decode b_M_undo 162 = .ok (.iinc 1 1, 3) := by decide +kernel
theorem d_M_undo_165 : decode b_M_undo 165 = .ok (.goto (-105), 3) := by decide +kernel
theorem d_M_undo_168 : decode b_M_undo 168 = .ok (.iconst 0, 1) := by decide +kernel
theorem d_M_undo_169 : decode b_M_undo 169 = .ok (.istore_n 1, 1) := by decide +kernel
theorem d_M_undo_170 : decode b_M_undo 170 = .ok (.iload_n 1, 1) := by decide +kernel
theorem d_M_undo_171 : decode b_M_undo 171 = .ok (.bipush 24, 2) := by decide +kernel
theorem d_M_undo_173 : decode b_M_undo 173 = .ok (.if_icmp .ge 21, 3) := by decide +kernel
theorem d_M_undo_176 : decode b_M_undo 176 = .ok (.aload_n 0, 1) := by decide +kernel
theorem d_M_undo_177 : decode b_M_undo 177 = .ok (.getfield 38, 3) := by decide +kernel
theorem d_M_undo_180 : decode b_M_undo 180 = .ok (.iload_n 1, 1) := by decide +kernel
theorem d_M_undo_181 : decode b_M_undo 181 = .ok (.aload_n 0, 1) := by decide +kernel
theorem d_M_undo_182 : decode b_M_undo 182 = .ok (.getfield 187, 3) := by decide +kernel
theorem d_M_undo_185 : decode b_M_undo 185 = .ok (.iload_n 1, 1) := by decide +kernel
theorem d_M_undo_186 : decode b_M_undo 186 = .ok (.iaload, 1) := by decide +kernel
theorem d_M_undo_187 : decode b_M_undo 187 = .ok (.iastore, 1) := by decide +kernel
theorem d_M_undo_188 : decode b_M_undo 188 = .ok (.iinc 1 1, 3) := by decide +kernel
theorem d_M_undo_191 : decode b_M_undo 191 = .ok (.goto (-21), 3) := by decide +kernel
theorem d_M_undo_194 : decode b_M_undo 194 = .ok (.iconst 0, 1) := by decide +kernel
theorem d_M_undo_195 : decode b_M_undo 195 = .ok (.istore_n 1, 1) := by decide +kernel
theorem d_M_undo_196 : decode b_M_undo 196 = .ok (.iload_n 1, 1) := by decide +kernel
theorem d_M_undo_197 : decode b_M_undo 197 = .ok (.bipush 12, 2) := by decide +kernel
theorem d_M_undo_199 : decode b_M_undo 199 = .ok (.if_icmp .ge 21, 3) := by decide +kernel
theorem d_M_undo_202 : decode b_M_undo 202 = .ok (.aload_n 0, 1) := by decide +kernel
theorem d_M_undo_203 : decode b_M_undo 203 = .ok (.getfield 144, 3) := by decide +kernel
theorem d_M_undo_206 : decode b_M_undo 206 = .ok (.iload_n 1, 1) := by decide +kernel
theorem d_M_undo_207 : decode b_M_undo 207 = .ok (.aload_n 0, 1) := by decide +kernel
theorem d_M_undo_208 : decode b_M_undo 208 = .ok (.getfield 196, 3) := by decide +kernel
theorem d_M_undo_211 : decode b_M_undo 211 = .ok (.iload_n 1, 1) := by decide +kernel
theorem d_M_undo_212 : decode b_M_undo 212 = .ok (.iaload, 1) := by decide +kernel
theorem d_M_undo_213 : decode b_M_undo 213 = .ok (.iastore, 1) := by decide +kernel
theorem d_M_undo_214 : decode b_M_undo 214 = .ok (.iinc 1 1, 3) := by decide +kernel
theorem d_M_undo_217 : decode b_M_undo 217 = .ok (.goto (-21), 3) := by decide +kernel
theorem d_M_undo_220 : decode b_M_undo 220 = .ok (.aload_n 0, 1) := by decide +kernel
theorem d_M_undo_221 : decode b_M_undo 221 = .ok (.getfield 7, 3) := by decide +kernel
theorem d_M_undo_224 : decode b_M_undo 224 = .ok (.ireturn, 1) := by decide +kernel
theorem d_M_body_0 : decode b_M_body 0 = .ok (.aload_n 0, 1) := by decide +kernel
theorem d_M_body_1 : decode b_M_body 1 = .ok (.getfield 199, 3) := by decide +kernel
theorem d_M_body_4 : decode b_M_body 4 = .ok (.bipush 20, 2) := by decide +kernel
theorem d_M_body_6 : decode b_M_body 6 = .ok (.if_icmp .ge 13, 3) := by decide +kernel
theorem d_M_body_9 : decode b_M_body 9 = .ok (.aload_n 0, 1) := by decide +kernel
theorem d_M_body_10 : decode b_M_body 10 = .ok (.getfield 202, 3) := by decide +kernel
theorem d_M_body_13 : decode b_M_body 13 = .ok (.aload_n 0, 1) := by decide +kernel
theorem d_M_body_14 : decode b_M_body 14 = .ok (.getfield 199, 3) := by decide +kernel
theorem d_M_body_17 : decode b_M_body 17 = .ok (.iload_n 1, 1) := by decide +kernel
theorem d_M_body_18 : decode b_M_body 18 = .ok (.iastore, 1) := by decide +kernel
theorem d_M_body_19 : decode b_M_body 19 = .ok (.aload_n 0, 1) := by decide +kernel
theorem d_M_body_20 : decode b_M_body 20 = .ok (.dup, 1) := by decide +kernel
theorem d_M_body_21 : decode b_M_body 21 = .ok (.getfield 199, 3) := by decide +kernel
theorem d_M_body_24 : decode b_M_body 24 = .ok (.iconst 1, 1) := by decide +kernel
theorem d_M_body_25 : decode b_M_body 25 = .ok (.iadd, 1) := by decide +kernel
theorem d_M_body_26 : decode b_M_body 26 = .ok (.putfield 199, 3) := by decide +kernel
theorem d_M_body_29 : decode b_M_body 29 = .ok (.return_, 1) := by decide +kernel
theorem d_M_takerTakes_0 : decode b_M_takerTakes 0 = .ok (.aload_n 0, 1) := by decide +kernel
theorem d_M_takerTakes_1 : decode b_M_takerTakes 1 = .ok (.bipush 10, 2) := by decide +kernel
theorem d_M_takerTakes_3 : decode b_M_takerTakes 3 = .ok (.invokevirtual 361, 3) := by decide +kernel
theorem d_M_takerTakes_6 : decode b_M_takerTakes 6 = .ok (.iload_n 2, 1) := by decide +kernel
theorem d_M_takerTakes_7 : decode b_M_takerTakes 7 = .ok (.iload_n 1, 1) := by decide +kernel
theorem d_M_takerTakes_8 : decode b_M_takerTakes 8 = .ok (.iadd, 1) := by decide +kernel
theorem d_M_takerTakes_9 : decode b_M_takerTakes 9 = .ok (.ireturn, 1) := by decide +kernel
theorem d_M_takesAct_0 : decode b_M_takesAct 0 = .ok (.aload_n 0, 1) := by decide +kernel
theorem d_M_takesAct_1 : decode b_M_takesAct 1 = .ok (.getfield 19, 3) := by decide +kernel
theorem d_M_takesAct_4 : decode b_M_takesAct 4 = .ok (.iload_n 1, 1) := by decide +kernel
theorem d_M_takesAct_5 : decode b_M_takesAct 5 = .ok (.iaload, 1) := by decide +kernel
theorem d_M_takesAct_6 : decode b_M_takesAct 6 = .ok (.tableswitch 83 2 6 #[34, 83, 49, 34, 63], 34) := by decide +kernel
theorem d_M_takesAct_40 : decode b_M_takesAct 40 = .ok (.aload_n 0, 1) := by decide +kernel
theorem d_M_takesAct_41 : decode b_M_takesAct 41 = .ok (.bipush 30, 2) := by decide +kernel
theorem d_M_takesAct_43 : decode b_M_takesAct 43 = .ok (.invokevirtual 361, 3) := by decide +kernel
theorem d_M_takesAct_46 : decode b_M_takesAct 46 = .ok (.aload_n 0, 1) := by decide +kernel
theorem d_M_takesAct_47 : decode b_M_takesAct 47 = .ok (.iload_n 1, 1) := by decide +kernel
theorem d_M_takesAct_48 : decode b_M_takesAct 48 = .ok (.iload_n 2, 1) := by decide +kernel
theorem d_M_takesAct_49 : decode b_M_takesAct 49 = .ok (.iconst 3, 1) := by decide +kernel
theorem d_M_takesAct_50 : decode b_M_takesAct 50 = .ok (.imul, 1) := by decide +kernel
theorem d_M_takesAct_51 : decode b_M_takesAct 51 = .ok (.invokevirtual 364, 3) := by decide +kernel
theorem d_M_takesAct_54 : decode b_M_takesAct 54 = .ok (.ireturn, 1) := by decide +kernel
theorem d_M_takesAct_55 : decode b_M_takesAct 55 = .ok (.aload_n 0, 1) := by decide +kernel
theorem d_M_takesAct_56 : decode b_M_takesAct 56 = .ok (.bipush 50, 2) := by decide +kernel
theorem d_M_takesAct_58 : decode b_M_takesAct 58 = .ok (.invokevirtual 361, 3) := by decide +kernel
theorem d_M_takesAct_61 : decode b_M_takesAct 61 = .ok (.aload_n 0, 1) := by decide +kernel
theorem d_M_takesAct_62 : decode b_M_takesAct 62 = .ok (.iload_n 1, 1) := by decide +kernel
theorem d_M_takesAct_63 : decode b_M_takesAct 63 = .ok (.iload_n 2, 1) := by decide +kernel
theorem d_M_takesAct_64 : decode b_M_takesAct 64 = .ok (.invokevirtual 364, 3) := by decide +kernel
theorem d_M_takesAct_67 : decode b_M_takesAct 67 = .ok (.ineg, 1) := by decide +kernel
theorem d_M_takesAct_68 : decode b_M_takesAct 68 = .ok (.ireturn, 1) := by decide +kernel
theorem d_M_takesAct_69 : decode b_M_takesAct 69 = .ok (.aload_n 0, 1) := by decide +kernel
theorem d_M_takesAct_70 : decode b_M_takesAct 70 = .ok (.bipush 71, 2) := by decide +kernel
theorem d_M_takesAct_72 : decode b_M_takesAct 72 = .ok (.invokevirtual 361, 3) := by decide +kernel
theorem d_M_takesAct_75 : decode b_M_takesAct 75 = .ok (.aload_n 0, 1) := by decide +kernel
theorem d_M_takesAct_76 : decode b_M_takesAct 76 = .ok (.iload_n 1, 1) := by decide +kernel
theorem d_M_takesAct_77 : decode b_M_takesAct 77 = .ok (.iload_n 2, 1) := by decide +kernel
theorem d_M_takesAct_78 : decode b_M_takesAct 78 = .ok (.invokevirtual 364, 3) := by decide +kernel
theorem d_M_takesAct_81 : decode b_M_takesAct 81 = .ok (.aload_n 0, 1) := by decide +kernel
theorem d_M_takesAct_82 : decode b_M_takesAct 82 = .ok (.getfield 23, 3) := by decide +kernel
theorem d_M_takesAct_85 : decode b_M_takesAct 85 = .ok (.iload_n 1, 1) := by decide +kernel
theorem d_M_takesAct_86 : decode b_M_takesAct 86 = .ok (.iaload, 1) := by decide +kernel
theorem d_M_takesAct_87 : decode b_M_takesAct 87 = .ok (.ixor, 1) := by decide +kernel
theorem d_M_takesAct_88 : decode b_M_takesAct 88 = .ok (.ireturn, 1) := by decide +kernel
theorem d_M_takesAct_89 : decode b_M_takesAct 89 = .ok (.aload_n 0, 1) := by decide +kernel
theorem d_M_takesAct_90 : decode b_M_takesAct 90 = .ok (.iload_n 1, 1) := by decide +kernel
theorem d_M_takesAct_91 : decode b_M_takesAct 91 = .ok (.iload_n 2, 1) := by decide +kernel
theorem d_M_takesAct_92 : decode b_M_takesAct 92 = .ok (.invokevirtual 364, 3) := by decide +kernel
theorem d_M_takesAct_95 : decode b_M_takesAct 95 = .ok (.ireturn, 1) := by decide +kernel
theorem d_M_takerLeaves_0 : decode b_M_takerLeaves 0 = .ok (.aload_n 0, 1) := by decide +kernel
theorem d_M_takerLeaves_1 : decode b_M_takerLeaves 1 = .ok (.bipush 11, 2) := by decide +kernel
theorem d_M_takerLeaves_3 : decode b_M_takerLeaves 3 = .ok (.invokevirtual 361, 3) := by decide +kernel
theorem d_M_takerLeaves_6 : decode b_M_takerLeaves 6 = .ok (.aload_n 0, 1) := by decide +kernel
theorem d_M_takerLeaves_7 : decode b_M_takerLeaves 7 = .ok (.iload_n 1, 1) := by decide +kernel
theorem d_M_takerLeaves_8 : decode b_M_takerLeaves 8 = .ok (.iload_n 2, 1) := by decide +kernel
theorem d_M_takerLeaves_9 : decode b_M_takerLeaves 9 = .ok (.invokevirtual 367, 3) := by decide +kernel
theorem d_M_takerLeaves_12 : decode b_M_takerLeaves 12 = .ok (.aload_n 0, 1) := by decide +kernel
theorem d_M_takerLeaves_13 : decode b_M_takerLeaves 13 = .ok (.getfield 23, 3) := by decide +kernel
theorem d_M_takerLeaves_16 : decode b_M_takerLeaves 16 = .ok (.iload_n 1, 1) := by decide +kernel
theorem d_M_takerLeaves_17 : decode b_M_takerLeaves 17 = .ok (.iaload, 1) := by decide +kernel
theorem d_M_takerLeaves_18 : decode b_M_takerLeaves 18 = .ok (.isub, 1) := by decide +kernel
theorem d_M_takerLeaves_19 : decode b_M_takerLeaves 19 = .ok (.ireturn, 1) := by decide +kernel
theorem d_M_halverLeaves_0 : decode b_M_halverLeaves 0 = .ok (.aload_n 0, 1) := by decide +kernel
theorem d_M_halverLeaves_1 : decode b_M_halverLeaves 1 = .ok (.bipush 20, 2) := by decide +kernel
theorem d_M_halverLeaves_3 : decode b_M_halverLeaves 3 = .ok (.invokevirtual 361, 3) := by decide +kernel
theorem d_M_halverLeaves_6 : decode b_M_halverLeaves 6 = .ok (.aload_n 0, 1) := by decide +kernel
theorem d_M_halverLeaves_7 : decode b_M_halverLeaves 7 = .ok (.iload_n 1, 1) := by decide +kernel
theorem d_M_halverLeaves_8 : decode b_M_halverLeaves 8 = .ok (.iload_n 2, 1) := by decide +kernel
theorem d_M_halverLeaves_9 : decode b_M_halverLeaves 9 = .ok (.invokevirtual 370, 3) := by decide +kernel
theorem d_M_halverLeaves_12 : decode b_M_halverLeaves 12 = .ok (.bipush 6, 2) := by decide +kernel
theorem d_M_halverLeaves_14 : decode b_M_halverLeaves 14 = .ok (.ixor, 1) := by decide +kernel
theorem d_M_halverLeaves_15 : decode b_M_halverLeaves 15 = .ok (.ireturn, 1) := by decide +kernel
theorem d_M_leavesAct_0 : decode b_M_leavesAct 0 = .ok (.aload_n 0, 1) := by decide +kernel
theorem d_M_leavesAct_1 : decode b_M_leavesAct 1 = .ok (.getfield 19, 3) := by decide +kernel
theorem d_M_leavesAct_4 : decode b_M_leavesAct 4 = .ok (.iload_n 1, 1) := by decide +kernel
theorem d_M_leavesAct_5 : decode b_M_leavesAct 5 = .ok (.iaload, 1) := by decide +kernel
theorem d_M_leavesAct_6 : decode b_M_leavesAct 6 = .ok (.lookupswitch 78 #[(1, 34), (4, 41), (6, 56)], 34) := by decide +kernel
theorem d_M_leavesAct_40 : decode b_M_leavesAct 40 = .ok (.aload_n 0, 1) := by decide +kernel
theorem d_M_leavesAct_41 : decode b_M_leavesAct 41 = .ok (.iload_n 1, 1) := by decide +kernel
theorem d_M_leavesAct_42 : decode b_M_leavesAct 42 = .ok (.iload_n 2, 1) := by decide +kernel
theorem d_M_leavesAct_43 : decode b_M_leavesAct 43 = .ok (.invokevirtual 373, 3) := by decide +kernel
theorem d_M_leavesAct_46 : decode b_M_leavesAct 46 = .ok (.ireturn, 1) := by decide +kernel
theorem d_M_leavesAct_47 : decode b_M_leavesAct 47 = .ok (.aload_n 0, 1) := by decide +kernel
theorem d_M_leavesAct_48 : decode b_M_leavesAct 48 = .ok (.bipush 51, 2) := by decide +kernel
theorem d_M_leavesAct_50 : decode b_M_leavesAct 50 = .ok (.invokevirtual 361, 3) := by decide +kernel
theorem d_M_leavesAct_53 : decode b_M_leavesAct 53 = .ok (.aload_n 0, 1) := by decide +kernel
theorem d_M_leavesAct_54 : decode b_M_leavesAct 54 = .ok (.iload_n 1, 1) := by decide +kernel
theorem d_M_leavesAct_55 : decode b_M_leavesAct 55 = .ok (.iload_n 2, 1) := by decide +kernel
theorem d_M_leavesAct_56 : decode b_M_leavesAct 56 = .ok (.iconst 1, 1) := by decide +kernel
theorem d_M_leavesAct_57 : decode b_M_leavesAct 57 = .ok (.iadd, 1) := by decide +kernel
theorem d_M_leavesAct_58 : decode b_M_leavesAct 58 = .ok (.invokevirtual 373, 3) := by decide +kernel
theorem d_M_leavesAct_61 : decode b_M_leavesAct 61 = .ok (.ireturn, 1) := by decide +kernel
theorem d_M_leavesAct_62 : decode b_M_leavesAct 62 = .ok (.aload_n 0, 1) := by decide +kernel
theorem d_M_leavesAct_63 : decode b_M_leavesAct 63 = .ok (.bipush 70, 2) := by decide +kernel
theorem d_M_leavesAct_65 : decode b_M_leavesAct 65 = .ok (.invokevirtual 361, 3) := by decide +kernel
theorem d_M_leavesAct_68 : decode b_M_leavesAct 68 = .ok (.aload_n 0, 1) := by decide +kernel
theorem d_M_leavesAct_69 : decode b_M_leavesAct 69 = .ok (.iload_n 1, 1) := by decide +kernel
theorem d_M_leavesAct_70 : decode b_M_leavesAct 70 = .ok (.iload_n 2, 1) := by decide +kernel
theorem d_M_leavesAct_71 : decode b_M_leavesAct 71 = .ok (.invokevirtual 370, 3) := by decide +kernel
theorem d_M_leavesAct_74 : decode b_M_leavesAct 74 = .ok (.istore_n 3, 1) := by decide +kernel
theorem d_M_leavesAct_75 : decode b_M_leavesAct 75 = .ok (.iload_n 3, 1) := by decide +kernel
theorem d_M_leavesAct_76 : decode b_M_leavesAct 76 = .ok (.aload_n 0, 1) := by decide +kernel
theorem d_M_leavesAct_77 : decode b_M_leavesAct 77 = .ok (.iload_n 1, 1) := by decide +kernel
theorem d_M_leavesAct_78 : decode b_M_leavesAct 78 = .ok (.iconst 2, 1) := by decide +kernel
theorem d_M_leavesAct_79 : decode b_M_leavesAct 79 = .ok (.invokevirtual 364, 3) := by decide +kernel
theorem d_M_leavesAct_82 : decode b_M_leavesAct 82 = .ok (.iadd, 1) := by decide +kernel
theorem d_M_leavesAct_83 : decode b_M_leavesAct 83 = .ok (.ireturn, 1) := by decide +kernel
theorem d_M_leavesAct_84 : decode b_M_leavesAct 84 = .ok (.aload_n 0, 1) := by decide +kernel
theorem d_M_leavesAct_85 : decode b_M_leavesAct 85 = .ok (.iload_n 1, 1) := by decide +kernel
theorem d_M_leavesAct_86 : decode b_M_leavesAct 86 = .ok (.iload_n 2, 1) := by decide +kernel
theorem d_M_leavesAct_87 : decode b_M_leavesAct 87 = .ok (.invokevirtual 370, 3) := by decide +kernel
theorem d_M_leavesAct_90 : decode b_M_leavesAct 90 = .ok (.ireturn, 1) := by decide +kernel
theorem d_M_takerTells_0 : decode b_M_takerTells 0 = .ok (.aload_n 0, 1) := by decide +kernel
theorem d_M_takerTells_1 : decode b_M_takerTells 1 = .ok (.bipush 12, 2) := by decide +kernel
theorem d_M_takerTells_3 : decode b_M_takerTells 3 = .ok (.invokevirtual 361, 3) := by decide +kernel
theorem d_M_takerTells_6 : decode b_M_takerTells 6 = .ok (.aload_n 0, 1) := by decide +kernel
theorem d_M_takerTells_7 : decode b_M_takerTells 7 = .ok (.iload_n 1, 1) := by decide +kernel
theorem d_M_takerTells_8 : decode b_M_takerTells 8 = .ok (.iload_n 2, 1) := by decide +kernel
theorem d_M_takerTells_9 : decode b_M_takerTells 9 = .ok (.invokevirtual 376, 3) := by decide +kernel
theorem d_M_takerTells_12 : decode b_M_takerTells 12 = .ok (.iconst 2, 1) := by decide +kernel
theorem d_M_takerTells_13 : decode b_M_takerTells 13 = .ok (.imul, 1) := by decide +kernel
theorem d_M_takerTells_14 : decode b_M_takerTells 14 = .ok (.ireturn, 1) := by decide +kernel
theorem d_M_tellsAct_0 : decode b_M_tellsAct 0 = .ok (.aload_n 0, 1) := by decide +kernel
theorem d_M_tellsAct_1 : decode b_M_tellsAct 1 = .ok (.getfield 19, 3) := by decide +kernel
theorem d_M_tellsAct_4 : decode b_M_tellsAct 4 = .ok (.iload_n 1, 1) := by decide +kernel
theorem d_M_tellsAct_5 : decode b_M_tellsAct 5 = .ok (.iaload, 1) := by decide +kernel
theorem d_M_tellsAct_6 : decode b_M_tellsAct 6 = .ok (.tableswitch 67 3 6 #[30, 67, 52, 30], 30) := by decide +kernel
theorem d_M_tellsAct_36 : decode b_M_tellsAct 36 = .ok (.aload_n 0, 1) := by decide +kernel
theorem d_M_tellsAct_37 : decode b_M_tellsAct 37 = .ok (.bipush 40, 2) := by decide +kernel
theorem d_M_tellsAct_39 : decode b_M_tellsAct 39 = .ok (.invokevirtual 361, 3) := by decide +kernel
theorem d_M_tellsAct_42 : decode b_M_tellsAct 42 = .ok (.aload_n 0, 1) := by decide +kernel
theorem d_M_tellsAct_43 : decode b_M_tellsAct 43 = .ok (.iload_n 1, 1) := by decide +kernel
theorem d_M_tellsAct_44 : decode b_M_tellsAct 44 = .ok (.iload_n 2, 1) := by decide +kernel
theorem d_M_tellsAct_45 : decode b_M_tellsAct 45 = .ok (.invokevirtual 379, 3) := by decide +kernel
theorem d_M_tellsAct_48 : decode b_M_tellsAct 48 = .ok (.istore_n 3, 1) := by decide +kernel
theorem d_M_tellsAct_49 : decode b_M_tellsAct 49 = .ok (.iload_n 3, 1) := by decide +kernel
theorem d_M_tellsAct_50 : decode b_M_tellsAct 50 = .ok (.aload_n 0, 1) := by decide +kernel
theorem d_M_tellsAct_51 : decode b_M_tellsAct 51 = .ok (.iload_n 1, 1) := by decide +kernel
theorem d_M_tellsAct_52 : decode b_M_tellsAct 52 = .ok (.iconst 1, 1) := by decide +kernel
theorem d_M_tellsAct_53 : decode b_M_tellsAct 53 = .ok (.invokevirtual 376, 3) := by decide +kernel
theorem d_M_tellsAct_56 : decode b_M_tellsAct 56 = .ok (.iadd, 1) := by decide +kernel
theorem d_M_tellsAct_57 : decode b_M_tellsAct 57 = .ok (.ireturn, 1) := by decide +kernel
theorem d_M_tellsAct_58 : decode b_M_tellsAct 58 = .ok (.aload_n 0, 1) := by decide +kernel
theorem d_M_tellsAct_59 : decode b_M_tellsAct 59 = .ok (.bipush 60, 2) := by decide +kernel
theorem d_M_tellsAct_61 : decode b_M_tellsAct 61 = .ok (.invokevirtual 361, 3) := by decide +kernel
theorem d_M_tellsAct_64 : decode b_M_tellsAct 64 = .ok (.aload_n 0, 1) := by decide +kernel
theorem d_M_tellsAct_65 : decode b_M_tellsAct 65 = .ok (.iload_n 1, 1) := by decide +kernel
theorem d_M_tellsAct_66 : decode b_M_tellsAct 66 = .ok (.iload_n 2, 1) := by decide +kernel
theorem d_M_tellsAct_67 : decode b_M_tellsAct 67 = .ok (.iload_n 1, 1) := by decide +kernel
theorem d_M_tellsAct_68 : decode b_M_tellsAct 68 = .ok (.isub, 1) := by decide +kernel
theorem d_M_tellsAct_69 : decode b_M_tellsAct 69 = .ok (.invokevirtual 379, 3) := by decide +kernel
theorem d_M_tellsAct_72 : decode b_M_tellsAct 72 = .ok (.ireturn, 1) := by decide +kernel
theorem d_M_tellsAct_73 : decode b_M_tellsAct 73 = .ok (.aload_n 0, 1) := by decide +kernel
theorem d_M_tellsAct_74 : decode b_M_tellsAct 74 = .ok (.iload_n 1, 1) := by decide +kernel
theorem d_M_tellsAct_75 : decode b_M_tellsAct 75 = .ok (.iload_n 2, 1) := by decide +kernel
theorem d_M_tellsAct_76 : decode b_M_tellsAct 76 = .ok (.invokevirtual 379, 3) := by decide +kernel
theorem d_M_tellsAct_79 : decode b_M_tellsAct 79 = .ok (.ireturn, 1) := by decide +kernel
theorem d_M_act_0 : decode b_M_act 0 = .ok (.aload_n 0, 1) := by decide +kernel
theorem d_M_act_1 : decode b_M_act 1 = .ok (.iconst 0, 1) := by decide +kernel
theorem d_M_act_2 : decode b_M_act 2 = .ok (.putfield 199, 3) := by decide +kernel
theorem d_M_act_5 : decode b_M_act 5 = .ok (.aload_n 0, 1) := by decide +kernel
theorem d_M_act_6 : decode b_M_act 6 = .ok (.iload_n 1, 1) := by decide +kernel
theorem d_M_act_7 : decode b_M_act 7 = .ok (.invokevirtual 222, 3) := by decide +kernel
theorem d_M_act_10 : decode b_M_act 10 = .ok (.ifCond .eq 13, 3) := by decide +kernel
theorem d_M_act_13 : decode b_M_act 13 = .ok (.aload_n 0, 1) := by decide +kernel
theorem d_M_act_14 : decode b_M_act 14 = .ok (.iload_n 2, 1) := by decide +kernel
theorem d_M_act_15 : decode b_M_act 15 = .ok (.iconst 0, 1) := by decide +kernel
theorem d_M_act_16 : decode b_M_act 16 = .ok (.iconst 2, 1) := by decide +kernel
theorem d_M_act_17 : decode b_M_act 17 = .ok (.invokevirtual 218, 3) := by decide +kernel
theorem d_M_act_20 : decode b_M_act 20 = .ok (.ifCond .ne 5, 3) := by decide +kernel
theorem d_M_act_23 : decode b_M_act 23 = .ok (.iconst 0, 1) := by decide +kernel
theorem d_M_act_24 : decode b_M_act 24 = .ok (.ireturn, 1) := by decide +kernel
theorem d_M_act_25 : decode b_M_act 25 = .ok (.iload_n 2, 1) := by decide +kernel
theorem d_M_act_26 : decode b_M_act 26 = .ok (.ifCond .ne 12, 3) := by decide +kernel
theorem d_M_act_29 : decode b_M_act 29 = .ok (.aload_n 0, 1) := by decide +kernel
theorem d_M_act_30 : decode b_M_act 30 = .ok (.iload_n 1, 1) := by decide +kernel
theorem d_M_act_31 : decode b_M_act 31 = .ok (.iload_n 3, 1) := by decide +kernel
theorem d_M_act_32 : decode b_M_act 32 = .ok (.invokevirtual 367, 3) := by decide +kernel
theorem d_M_act_35 : decode b_M_act 35 = .ok (.goto 23, 3) := by decide +kernel
theorem d_M_act_38 : decode b_M_act 38 = .ok (.iload_n 2, 1) := by decide +kernel
theorem d_M_act_39 : decode b_M_act 39 = .ok (.iconst 1, 1) := by decide +kernel
theorem d_M_act_40 : decode b_M_act 40 = .ok (.if_icmp .ne 12, 3) := by decide +kernel
theorem d_M_act_43 : decode b_M_act 43 = .ok (.aload_n 0, 1) := by decide +kernel
theorem d_M_act_44 : decode b_M_act 44 = .ok (.iload_n 1, 1) := by decide +kernel
theorem d_M_act_45 : decode b_M_act 45 = .ok (.iload_n 3, 1) := by decide +kernel
theorem d_M_act_46 : decode b_M_act 46 = .ok (.invokevirtual 376, 3) := by decide +kernel
theorem d_M_act_49 : decode b_M_act 49 = .ok (.goto 9, 3) := by decide +kernel
theorem d_M_act_52 : decode b_M_act 52 = .ok (.aload_n 0, 1) := by decide +kernel
theorem d_M_act_53 : decode b_M_act 53 = .ok (.iload_n 1, 1) := by decide +kernel
theorem d_M_act_54 : decode b_M_act 54 = .ok (.iload_n 3, 1) := by decide +kernel
theorem d_M_act_55 : decode b_M_act 55 = .ok (.invokevirtual 382, 3) := by decide +kernel
theorem d_M_act_58 : decode b_M_act 58 = .ok (.ireturn, 1) := by decide +kernel
theorem d_M_trace_0 : decode b_M_trace 0 = .ok (.aload_n 0, 1) := by decide +kernel
theorem d_M_trace_1 : decode b_M_trace 1 = .ok (.iload_n 1, 1) := by decide +kernel
theorem d_M_trace_2 : decode b_M_trace 2 = .ok (.iconst 0, 1) := by decide +kernel
theorem d_M_trace_3 : decode b_M_trace 3 = .ok (.bipush 19, 2) := by decide +kernel
theorem d_M_trace_5 : decode b_M_trace 5 = .ok (.invokevirtual 218, 3) := by decide +kernel
theorem d_M_trace_8 : decode b_M_trace 8 = .ok (.ifCond .eq 20, 3) := by decide +kernel
theorem d_M_trace_11 : decode b_M_trace 11 = .ok (.iload_n 1, 1) := by decide +kernel
theorem d_M_trace_12 : decode b_M_trace 12 = .ok (.aload_n 0, 1) := by decide +kernel
theorem d_M_trace_13 : decode b_M_trace 13 = .ok (.getfield 199, 3) := by decide +kernel
theorem d_M_trace_16 : decode b_M_trace 16 = .ok (.if_icmp .ge 12, 3) := by decide +kernel
theorem d_M_trace_19 : decode b_M_trace 19 = .ok (.aload_n 0, 1) := by decide +kernel
theorem d_M_trace_20 : decode b_M_trace 20 = .ok (.getfield 202, 3) := by decide +kernel
theorem d_M_trace_23 : decode b_M_trace 23 = .ok (.iload_n 1, 1) := by decide +kernel
theorem d_M_trace_24 : decode b_M_trace 24 = .ok (.iaload, 1) := by decide +kernel
theorem d_M_trace_25 : decode b_M_trace 25 = .ok (.goto 4, 3) := by decide +kernel
theorem d_M_trace_28 : decode b_M_trace 28 = .ok (.iconst (-1), 1) := by decide +kernel
theorem d_M_trace_29 : decode b_M_trace 29 = .ok (.ireturn, 1) := by decide +kernel
theorem d_M_taken_0 : decode b_M_taken 0 = .ok (.aload_n 0, 1) := by decide +kernel
theorem d_M_taken_1 : decode b_M_taken 1 = .ok (.iload_n 2, 1) := by decide +kernel
theorem d_M_taken_2 : decode b_M_taken 2 = .ok (.iconst 0, 1) := by decide +kernel
theorem d_M_taken_3 : decode b_M_taken 3 = .ok (.bipush 6, 2) := by decide +kernel
theorem d_M_taken_5 : decode b_M_taken 5 = .ok (.invokevirtual 218, 3) := by decide +kernel
theorem d_M_taken_8 : decode b_M_taken 8 = .ok (.ifCond .ne 6, 3) := by decide +kernel
theorem d_M_taken_11 : decode b_M_taken 11 = .ok (.bipush (-2), 2) := by decide +kernel
theorem d_M_taken_13 : decode b_M_taken 13 = .ok (.ireturn, 1) := by decide +kernel
theorem d_M_taken_14 : decode b_M_taken 14 = .ok (.aload_n 0, 1) := by decide +kernel
theorem d_M_taken_15 : decode b_M_taken 15 = .ok (.iload_n 1, 1) := by decide +kernel
theorem d_M_taken_16 : decode b_M_taken 16 = .ok (.invokevirtual 222, 3) := by decide +kernel
theorem d_M_taken_19 : decode b_M_taken 19 = .ok (.ifCond .ne 6, 3) := by decide +kernel
theorem d_M_taken_22 : decode b_M_taken 22 = .ok (.bipush (-11), 2) := by decide +kernel
theorem d_M_taken_24 : decode b_M_taken 24 = .ok (.ireturn, 1) := by decide +kernel
theorem d_M_taken_25 : decode b_M_taken 25 = .ok (.aload_n 0, 1) := by decide +kernel
theorem d_M_taken_26 : decode b_M_taken 26 = .ok (.getfield 19, 3) := by decide +kernel
theorem d_M_taken_29 : decode b_M_taken 29 = .ok (.iload_n 1, 1) := by decide +kernel
theorem d_M_taken_30 : decode b_M_taken 30 = .ok (.iaload, 1) := by decide +kernel
theorem d_M_taken_31 : decode b_M_taken 31 = .ok (.istore_n 3, 1) := by decide +kernel
theorem d_M_taken_32 : decode b_M_taken 32 = .ok (.iload_n 2, 1) := by decide +kernel
theorem d_M_taken_33 : decode b_M_taken 33 = .ok (.ifCond .eq 39, 3) := by decide +kernel
theorem d_M_taken_36 : decode b_M_taken 36 = .ok (.iload_n 3, 1) := by decide +kernel
theorem d_M_taken_37 : decode b_M_taken 37 = .ok (.iload_n 2, 1) := by decide +kernel
theorem d_M_taken_38 : decode b_M_taken 38 = .ok (.if_icmp .eq 34, 3) := by decide +kernel
theorem d_M_taken_41 : decode b_M_taken 41 = .ok (.iload_n 2, 1) := by decide +kernel
theorem d_M_taken_42 : decode b_M_taken 42 = .ok (.iconst 1, 1) := by decide +kernel
theorem d_M_taken_43 : decode b_M_taken 43 = .ok (.if_icmp .ne 8, 3) := by decide +kernel
theorem d_M_taken_46 : decode b_M_taken 46 = .ok (.iload_n 3, 1) := by decide +kernel
theorem d_M_taken_47 : decode b_M_taken 47 = .ok (.iconst 4, 1) := by decide +kernel
theorem d_M_taken_48 : decode b_M_taken 48 = .ok (.if_icmp .eq 24, 3) := by decide +kernel
theorem d_M_taken_51 : decode b_M_taken 51 = .ok (.iload_n 2, 1) := by decide +kernel
theorem d_M_taken_52 : decode b_M_taken 52 = .ok (.iconst 2, 1) := by decide +kernel
theorem d_M_taken_53 : decode b_M_taken 53 = .ok (.if_icmp .ne 8, 3) := by decide +kernel
theorem d_M_taken_56 : decode b_M_taken 56 = .ok (.iload_n 3, 1) := by decide +kernel
theorem d_M_taken_57 : decode b_M_taken 57 = .ok (.iconst 5, 1) := by decide +kernel
theorem d_M_taken_58 : decode b_M_taken 58 = .ok (.if_icmp .eq 14, 3) := by decide +kernel
theorem d_M_taken_61 : decode b_M_taken 61 = .ok (.iload_n 2, 1) := by decide +kernel
theorem d_M_taken_62 : decode b_M_taken 62 = .ok (.iconst 3, 1) := by decide +kernel
theorem d_M_taken_63 : decode b_M_taken 63 = .ok (.if_icmp .ne 13, 3) := by decide +kernel
theorem d_M_taken_66 : decode b_M_taken 66 = .ok (.iload_n 3, 1) := by decide +kernel
theorem d_M_taken_67 : decode b_M_taken 67 = .ok (.bipush 6, 2) := by decide +kernel
theorem d_M_taken_69 : decode b_M_taken 69 = .ok (.if_icmp .ne 7, 3) := by decide +kernel
theorem d_M_taken_72 : decode b_M_taken 72 = .ok (.iload_n 3, 1) := by decide +kernel
theorem d_M_taken_73 : decode b_M_taken 73 = .ok (.goto 5, 3) := by decide +kernel
theorem d_M_taken_76 : decode b_M_taken 76 = .ok (.bipush (-12), 2) := by decide +kernel
theorem d_M_taken_78 : decode b_M_taken 78 = .ok (.ireturn, 1) := by decide +kernel
theorem d_M_count_0 : decode b_M_count 0 = .ok (.iload_n 1, 1) := by decide +kernel
theorem d_M_count_1 : decode b_M_count 1 = .ok (.tableswitch 69 0 5 #[39, 44, 49, 54, 59, 64], 39) := by decide +kernel
theorem d_M_count_40 : decode b_M_count 40 = .ok (.aload_n 0, 1) := by decide +kernel
theorem d_M_count_41 : decode b_M_count 41 = .ok (.getfield 7, 3) := by decide +kernel
theorem d_M_count_44 : decode b_M_count 44 = .ok (.ireturn, 1) := by decide +kernel
theorem d_M_count_45 : decode b_M_count 45 = .ok (.aload_n 0, 1) := by decide +kernel
theorem d_M_count_46 : decode b_M_count 46 = .ok (.getfield 41, 3) := by decide +kernel
theorem d_M_count_49 : decode b_M_count 49 = .ok (.ireturn, 1) := by decide +kernel
theorem d_M_count_50 : decode b_M_count 50 = .ok (.aload_n 0, 1) := by decide +kernel
theorem d_M_count_51 : decode b_M_count 51 = .ok (.getfield 132, 3) := by decide +kernel
theorem d_M_count_54 : decode b_M_count 54 = .ok (.ireturn, 1) := by decide +kernel
theorem d_M_count_55 : decode b_M_count 55 = .ok (.aload_n 0, 1) := by decide +kernel
theorem d_M_count_56 : decode b_M_count 56 = .ok (.getfield 141, 3) := by decide +kernel
theorem d_M_count_59 : decode b_M_count 59 = .ok (.ireturn, 1) := by decide +kernel
theorem d_M_count_60 : decode b_M_count 60 = .ok (.aload_n 0, 1) := by decide +kernel
theorem d_M_count_61 : decode b_M_count 61 = .ok (.getfield 47, 3) := by decide +kernel
theorem d_M_count_64 : decode b_M_count 64 = .ok (.ireturn, 1) := by decide +kernel
theorem d_M_count_65 : decode b_M_count 65 = .ok (.aload_n 0, 1) := by decide +kernel
theorem d_M_count_66 : decode b_M_count 66 = .ok (.getfield 199, 3) := by decide +kernel
theorem d_M_count_69 : decode b_M_count 69 = .ok (.ireturn, 1) := by decide +kernel
theorem d_M_count_70 : decode b_M_count 70 = .ok (.bipush (-2), 2) := by decide +kernel
theorem d_M_count_72 : decode b_M_count 72 = .ok (.ireturn, 1) := by decide +kernel
theorem d_M_isTape_0 : decode b_M_isTape 0 = .ok (.aload_n 0, 1) := by decide +kernel
theorem d_M_isTape_1 : decode b_M_isTape 1 = .ok (.iload_n 1, 1) := by decide +kernel
theorem d_M_isTape_2 : decode b_M_isTape 2 = .ok (.iconst 0, 1) := by decide +kernel
theorem d_M_isTape_3 : decode b_M_isTape 3 = .ok (.iconst 5, 1) := by decide +kernel
theorem d_M_isTape_4 : decode b_M_isTape 4 = .ok (.invokevirtual 218, 3) := by decide +kernel
theorem d_M_isTape_7 : decode b_M_isTape 7 = .ok (.ireturn, 1) := by decide +kernel
theorem d_M_tape_0 : decode b_M_tape 0 = .ok (.aload_n 0, 1) := by decide +kernel
theorem d_M_tape_1 : decode b_M_tape 1 = .ok (.iload_n 1, 1) := by decide +kernel
theorem d_M_tape_2 : decode b_M_tape 2 = .ok (.invokevirtual 358, 3) := by decide +kernel
theorem d_M_tape_5 : decode b_M_tape 5 = .ok (.ifCond .ne 5, 3) := by decide +kernel
theorem d_M_tape_8 : decode b_M_tape 8 = .ok (.iconst (-1), 1) := by decide +kernel
theorem d_M_tape_9 : decode b_M_tape 9 = .ok (.ireturn, 1) := by decide +kernel
theorem d_M_tape_10 : decode b_M_tape 10 = .ok (.aload_n 0, 1) := by decide +kernel
theorem d_M_tape_11 : decode b_M_tape 11 = .ok (.iload_n 2, 1) := by decide +kernel
theorem d_M_tape_12 : decode b_M_tape 12 = .ok (.iconst (-1), 1) := by decide +kernel
theorem d_M_tape_13 : decode b_M_tape 13 = .ok (.iconst 4, 1) := by decide +kernel
theorem d_M_tape_14 : decode b_M_tape 14 = .ok (.invokevirtual 218, 3) := by decide +kernel
theorem d_M_tape_17 : decode b_M_tape 17 = .ok (.ifCond .eq 13, 3) := by decide +kernel
theorem d_M_tape_20 : decode b_M_tape 20 = .ok (.iload_n 2, 1) := by decide +kernel
theorem d_M_tape_21 : decode b_M_tape 21 = .ok (.ifCond .lt 12, 3) := by decide +kernel
theorem d_M_tape_24 : decode b_M_tape 24 = .ok (.iload_n 3, 1) := by decide +kernel
theorem d_M_tape_25 : decode b_M_tape 25 = .ok (.bipush 60, 2) := by decide +kernel
theorem d_M_tape_27 : decode b_M_tape 27 = .ok (.if_icmp .le 6, 3) := by decide +kernel
theorem d_M_tape_30 : decode b_M_tape 30 = .ok (.bipush (-2), 2) := by decide +kernel
theorem d_M_tape_32 : decode b_M_tape 32 = .ok (.ireturn, 1) := by decide +kernel
theorem d_M_tape_33 : decode b_M_tape 33 = .ok (.iload_n 2, 1) := by decide +kernel
theorem d_M_tape_34 : decode b_M_tape 34 = .ok (.ifCond .lt 10, 3) := by decide +kernel
theorem d_M_tape_37 : decode b_M_tape 37 = .ok (.iload_n 3, 1) := by decide +kernel
theorem d_M_tape_38 : decode b_M_tape 38 = .ok (.ifCond .ge 6, 3) := by decide +kernel
theorem d_M_tape_41 : decode b_M_tape 41 = .ok (.bipush (-14), 2) := by decide +kernel
theorem d_M_tape_43 : decode b_M_tape 43 = .ok (.ireturn, 1) := by decide +kernel
theorem d_M_tape_44 : decode b_M_tape 44 = .ok (.aload_n 0, 1) := by decide +kernel
theorem d_M_tape_45 : decode b_M_tape 45 = .ok (.getfield 205, 3) := by decide +kernel
theorem d_M_tape_48 : decode b_M_tape 48 = .ok (.iload_n 1, 1) := by decide +kernel
theorem d_M_tape_49 : decode b_M_tape 49 = .ok (.iload_n 2, 1) := by decide +kernel
theorem d_M_tape_50 : decode b_M_tape 50 = .ok (.iastore, 1) := by decide +kernel
theorem d_M_tape_51 : decode b_M_tape 51 = .ok (.aload_n 0, 1) := by decide +kernel
theorem d_M_tape_52 : decode b_M_tape 52 = .ok (.getfield 208, 3) := by decide +kernel
theorem d_M_tape_55 : decode b_M_tape 55 = .ok (.iload_n 1, 1) := by decide +kernel
theorem d_M_tape_56 : decode b_M_tape 56 = .ok (.iload_n 2, 1) := by decide +kernel
theorem d_M_tape_57 : decode b_M_tape 57 = .ok (.ifCond .ge 7, 3) := by decide +kernel
theorem d_M_tape_60 : decode b_M_tape 60 = .ok (.iconst 0, 1) := by decide +kernel
theorem d_M_tape_61 : decode b_M_tape 61 = .ok (.goto 4, 3) := by decide +kernel
theorem d_M_tape_64 : decode b_M_tape 64 = .ok (.iload_n 3, 1) := by decide +kernel
theorem d_M_tape_65 : decode b_M_tape 65 = .ok (.iastore, 1) := by decide +kernel
theorem d_M_tape_66 : decode b_M_tape 66 = .ok (.iconst 0, 1) := by decide +kernel
theorem d_M_tape_67 : decode b_M_tape 67 = .ok (.istore 4, 2) := by decide +kernel
theorem d_M_tape_69 : decode b_M_tape 69 = .ok (.iload 4, 2) := by decide +kernel
theorem d_M_tape_71 : decode b_M_tape 71 = .ok (.bipush 60, 2) := by decide +kernel
theorem d_M_tape_73 : decode b_M_tape 73 = .ok (.if_icmp .ge 22, 3) := by decide +kernel
theorem d_M_tape_76 : decode b_M_tape 76 = .ok (.aload_n 0, 1) := by decide +kernel
theorem d_M_tape_77 : decode b_M_tape 77 = .ok (.getfield 211, 3) := by decide +kernel
theorem d_M_tape_80 : decode b_M_tape 80 = .ok (.bipush 60, 2) := by decide +kernel
theorem d_M_tape_82 : decode b_M_tape 82 = .ok (.iload_n 1, 1) := by decide +kernel
theorem d_M_tape_83 : decode b_M_tape 83 = .ok (.imul, 1) := by decide +kernel
theorem d_M_tape_84 : decode b_M_tape 84 = .ok (.iload 4, 2) := by decide +kernel
theorem d_M_tape_86 : decode b_M_tape 86 = .ok (.iadd, 1) := by decide +kernel
theorem d_M_tape_87 : decode b_M_tape 87 = .ok (.lconst 0, 1) := by decide +kernel
theorem d_M_tape_88 : decode b_M_tape 88 = .ok (.lastore, 1) := by decide +kernel
theorem d_M_tape_89 : decode b_M_tape 89 = .ok (.iinc 4 1, 3) := by decide +kernel
theorem d_M_tape_92 : decode b_M_tape 92 = .ok (.goto (-23), 3) := by decide +kernel
theorem d_M_tape_95 : decode b_M_tape 95 = .ok (.iconst 1, 1) := by decide +kernel
theorem d_M_tape_96 : decode b_M_tape 96 = .ok (.ireturn, 1) := by decide +kernel
theorem d_M_narrow_0 : decode b_M_narrow 0 = .ok (.iload_n 1, 1) := by decide +kernel
theorem d_M_narrow_1 : decode b_M_narrow 1 = .ok (.ifCond .ne 10, 3) := by decide +kernel
theorem d_M_narrow_4 : decode b_M_narrow 4 = .ok (.lload_n 2, 1) := by decide +kernel
theorem d_M_narrow_5 : decode b_M_narrow 5 = .ok (.l2i, 1) := by decide +kernel
theorem d_M_narrow_6 : decode b_M_narrow 6 = .ok (.i2b, 1) := by decide +kernel
theorem d_M_narrow_7 : decode b_M_narrow 7 = .ok (.i2l, 1) := by decide +kernel
theorem d_M_narrow_8 : decode b_M_narrow 8 = .ok (.goto 46, 3) := by decide +kernel
theorem d_M_narrow_11 : decode b_M_narrow 11 = .ok (.iload_n 1, 1) := by decide +kernel
theorem d_M_narrow_12 : decode b_M_narrow 12 = .ok (.iconst 1, 1) := by decide +kernel
theorem d_M_narrow_13 : decode b_M_narrow 13 = .ok (.if_icmp .ne 10, 3) := by decide +kernel
theorem d_M_narrow_16 : decode b_M_narrow 16 = .ok (.lload_n 2, 1) := by decide +kernel
theorem d_M_narrow_17 : decode b_M_narrow 17 = .ok (.l2i, 1) := by decide +kernel
theorem d_M_narrow_18 : decode b_M_narrow 18 = .ok (.i2s, 1) := by decide +kernel
theorem d_M_narrow_19 : decode b_M_narrow 19 = .ok (.i2l, 1) := by decide +kernel
theorem d_M_narrow_20 : decode b_M_narrow 20 = .ok (.goto 34, 3) := by decide +kernel
theorem d_M_narrow_23 : decode b_M_narrow 23 = .ok (.iload_n 1, 1) := by decide +kernel
theorem d_M_narrow_24 : decode b_M_narrow 24 = .ok (.iconst 2, 1) := by decide +kernel
theorem d_M_narrow_25 : decode b_M_narrow 25 = .ok (.if_icmp .ne 9, 3) := by decide +kernel
theorem d_M_narrow_28 : decode b_M_narrow 28 = .ok (.lload_n 2, 1) := by decide +kernel
theorem d_M_narrow_29 : decode b_M_narrow 29 = .ok (.l2i, 1) := by decide +kernel
theorem d_M_narrow_30 : decode b_M_narrow 30 = .ok (.i2l, 1) := by decide +kernel
theorem d_M_narrow_31 : decode b_M_narrow 31 = .ok (.goto 23, 3) := by decide +kernel
theorem d_M_narrow_34 : decode b_M_narrow 34 = .ok (.iload_n 1, 1) := by decide +kernel
theorem d_M_narrow_35 : decode b_M_narrow 35 = .ok (.iconst 4, 1) := by decide +kernel
theorem d_M_narrow_36 : decode b_M_narrow 36 = .ok (.if_icmp .ne 17, 3) := by decide +kernel
theorem d_M_narrow_39 : decode b_M_narrow 39 = .ok (.lload_n 2, 1) := by decide +kernel
theorem d_M_narrow_40 : decode b_M_narrow 40 = .ok (.lconst 0, 1) := by decide +kernel
theorem d_M_narrow_41 : decode b_M_narrow 41 = .ok (.lcmp, 1) := by decide +kernel
theorem d_M_narrow_42 : decode b_M_narrow 42 = .ok (.ifCond .eq 7, 3) := by decide +kernel
theorem d_M_narrow_45 : decode b_M_narrow 45 = .ok (.lconst 1, 1) := by decide +kernel
theorem d_M_narrow_46 : decode b_M_narrow 46 = .ok (.goto 8, 3) := by decide +kernel
theorem d_M_narrow_49 : decode b_M_narrow 49 = .ok (.lconst 0, 1) := by decide +kernel
theorem d_M_narrow_50 : decode b_M_narrow 50 = .ok (.goto 4, 3) := by decide +kernel
theorem d_M_narrow_53 : decode b_M_narrow 53 = .ok (.lload_n 2, 1) := by decide +kernel
theorem d_M_narrow_54 : decode b_M_narrow 54 = .ok (.lreturn, 1) := by decide +kernel
theorem d_M_item_0 : decode b_M_item 0 = .ok (.aload_n 0, 1) := by decide +kernel
theorem d_M_item_1 : decode b_M_item 1 = .ok (.iload_n 1, 1) := by decide +kernel
theorem d_M_item_2 : decode b_M_item 2 = .ok (.invokevirtual 358, 3) := by decide +kernel
theorem d_M_item_5 : decode b_M_item 5 = .ok (.ifCond .ne 5, 3) := by decide +kernel
theorem d_M_item_8 : decode b_M_item 8 = .ok (.iconst (-1), 1) := by decide +kernel
theorem d_M_item_9 : decode b_M_item 9 = .ok (.ireturn, 1) := by decide +kernel
theorem d_M_item_10 : decode b_M_item 10 = .ok (.aload_n 0, 1) := by decide +kernel
theorem d_M_item_11 : decode b_M_item 11 = .ok (.getfield 205, 3) := by decide +kernel
theorem d_M_item_14 : decode b_M_item 14 = .ok (.iload_n 1, 1) := by decide +kernel
theorem d_M_item_15 : decode b_M_item 15 = .ok (.iaload, 1) := by decide +kernel
theorem d_M_item_16 : decode b_M_item 16 = .ok (.ifCond .ge 6, 3) := by decide +kernel
theorem d_M_item_19 : decode b_M_item 19 = .ok (.bipush (-11), 2) := by decide +kernel
theorem d_M_item_21 : decode b_M_item 21 = .ok (.ireturn, 1) := by decide +kernel
theorem d_M_item_22 : decode b_M_item 22 = .ok (.aload_n 0, 1) := by decide +kernel
theorem d_M_item_23 : decode b_M_item 23 = .ok (.iload_n 2, 1) := by decide +kernel
theorem d_M_item_24 : decode b_M_item 24 = .ok (.iconst 0, 1) := by decide +kernel
theorem d_M_item_25 : decode b_M_item 25 = .ok (.aload_n 0, 1) := by decide +kernel
theorem d_M_item_26 : decode b_M_item 26 = .ok (.getfield 208, 3) := by decide +kernel
theorem d_M_item_29 : decode b_M_item 29 = .ok (.iload_n 1, 1) := by decide +kernel
theorem d_M_item_30 : decode b_M_item 30 = .ok (.iaload, 1) := by decide +kernel
theorem d_M_item_31 : decode b_M_item 31 = .ok (.iconst 1, 1) := by decide +kernel
theorem d_M_item_32 : decode b_M_item 32 = .ok (.isub, 1) := by decide +kernel
theorem d_M_item_33 : decode b_M_item 33 = .ok (.invokevirtual 218, 3) := by decide +kernel
theorem d_M_item_36 : decode b_M_item 36 = .ok (.ifCond .ne 6, 3) := by decide +kernel
theorem d_M_item_39 : decode b_M_item 39 = .ok (.bipush (-13), 2) := by decide +kernel
theorem d_M_item_41 : decode b_M_item 41 = .ok (.ireturn, 1) := by decide +kernel
theorem d_M_item_42 : decode b_M_item 42 = .ok (.aload_n 0, 1) := by decide +kernel
theorem d_M_item_43 : decode b_M_item 43 = .ok (.getfield 211, 3) := by decide +kernel
theorem d_M_item_46 : decode b_M_item 46 = .ok (.bipush 60, 2) := by decide +kernel
theorem d_M_item_48 : decode b_M_item 48 = .ok (.iload_n 1, 1) := by decide +kernel
theorem d_M_item_49 : decode b_M_item 49 = .ok (.imul, 1) := by decide +kernel
theorem d_M_item_50 : decode b_M_item 50 = .ok (.iload_n 2, 1) := by decide +kernel
theorem d_M_item_51 : decode b_M_item 51 = .ok (.iadd, 1) := by decide +kernel
theorem d_M_item_52 : decode b_M_item 52 = .ok (.aload_n 0, 1) := by decide +kernel
theorem d_M_item_53 : decode b_M_item 53 = .ok (.aload_n 0, 1) := by decide +kernel
theorem d_M_item_54 : decode b_M_item 54 = .ok (.getfield 205, 3) := by decide +kernel
theorem d_M_item_57 : decode b_M_item 57 = .ok (.iload_n 1, 1) := by decide +kernel
theorem d_M_item_58 : decode b_M_item 58 = .ok (.iaload, 1) := by decide +kernel
theorem d_M_item_59 : decode b_M_item 59 = .ok (.lload_n 3, 1) := by decide +kernel
theorem d_M_item_60 : decode b_M_item 60 = .ok (.invokevirtual 385, 3) := by decide +kernel
theorem d_M_item_63 : decode b_M_item 63 = .ok (.lastore, 1) := by decide +kernel
theorem d_M_item_64 : decode b_M_item 64 = .ok (.iconst 1, 1) := by decide +kernel
theorem d_M_item_65 : decode b_M_item 65 = .ok (.ireturn, 1) := by decide +kernel
theorem d_M_read_0 : decode b_M_read 0 = .ok (.aload_n 0, 1) := by decide +kernel
theorem d_M_read_1 : decode b_M_read 1 = .ok (.iload_n 1, 1) := by decide +kernel
theorem d_M_read_2 : decode b_M_read 2 = .ok (.invokevirtual 358, 3) := by decide +kernel
theorem d_M_read_5 : decode b_M_read 5 = .ok (.ifCond .eq 29, 3) := by decide +kernel
theorem d_M_read_8 : decode b_M_read 8 = .ok (.aload_n 0, 1) := by decide +kernel
theorem d_M_read_9 : decode b_M_read 9 = .ok (.getfield 205, 3) := by decide +kernel
theorem d_M_read_12 : decode b_M_read 12 = .ok (.iload_n 1, 1) := by decide +kernel
theorem d_M_read_13 : decode b_M_read 13 = .ok (.iaload, 1) := by decide +kernel
theorem d_M_read_14 : decode b_M_read 14 = .ok (.ifCond .lt 20, 3) := by decide +kernel
theorem d_M_read_17 : decode b_M_read 17 = .ok (.aload_n 0, 1) := by decide +kernel
theorem d_M_read_18 : decode b_M_read 18 = .ok (.iload_n 2, 1) := by decide +kernel
theorem d_M_read_19 : decode b_M_read 19 = .ok (.iconst 0, 1) := by decide +kernel
theorem d_M_read_20 : decode b_M_read 20 = .ok (.aload_n 0, 1) := by decide +kernel
theorem d_M_read_21 : decode b_M_read 21 = .ok (.getfield 208, 3) := by decide +kernel
theorem d_M_read_24 : decode b_M_read 24 = .ok (.iload_n 1, 1) := by decide +kernel
theorem d_M_read_25 : decode b_M_read 25 = .ok (.iaload, 1) := by decide +kernel
theorem d_M_read_26 : decode b_M_read 26 = .ok (.iconst 1, 1) := by decide +kernel
theorem d_M_read_27 : decode b_M_read 27 = .ok (.isub, 1) := by decide +kernel
theorem d_M_read_28 : decode b_M_read 28 = .ok (.invokevirtual 218, 3) := by decide +kernel
theorem d_M_read_31 : decode b_M_read 31 = .ok (.ifCond .ne 9, 3) := by decide +kernel
theorem d_M_read_34 : decode b_M_read 34 = .ok (.ldc2_w 352, 3) := by decide +kernel
theorem d_M_read_37 : decode b_M_read 37 = .ok (.goto 14, 3) := by decide +kernel
theorem d_M_read_40 : decode b_M_read 40 = .ok (.aload_n 0, 1) := by decide +kernel
theorem d_M_read_41 : decode b_M_read 41 = .ok (.getfield 211, 3) := by decide +kernel
theorem d_M_read_44 : decode b_M_read 44 = .ok (.bipush 60, 2) := by decide +kernel
theorem d_M_read_46 : decode b_M_read 46 = .ok (.iload_n 1, 1) := by decide +kernel
theorem d_M_read_47 : decode b_M_read 47 = .ok (.imul, 1) := by decide +kernel
theorem d_M_read_48 : decode b_M_read 48 = .ok (.iload_n 2, 1) := by decide +kernel
theorem d_M_read_49 : decode b_M_read 49 = .ok (.iadd, 1) := by decide +kernel
theorem d_M_read_50 : decode b_M_read 50 = .ok (.laload, 1) := by decide +kernel
theorem d_M_read_51 : decode b_M_read 51 = .ok (.lreturn, 1) := by decide +kernel
theorem d_M_shift_0 : decode b_M_shift 0 = .ok (.aload_n 0, 1) := by decide +kernel
theorem d_M_shift_1 : decode b_M_shift 1 = .ok (.iload_n 1, 1) := by decide +kernel
theorem d_M_shift_2 : decode b_M_shift 2 = .ok (.invokevirtual 358, 3) := by decide +kernel
theorem d_M_shift_5 : decode b_M_shift 5 = .ok (.ifCond .eq 11, 3) := by decide +kernel
theorem d_M_shift_8 : decode b_M_shift 8 = .ok (.aload_n 0, 1) := by decide +kernel
theorem d_M_shift_9 : decode b_M_shift 9 = .ok (.iload_n 3, 1) := by decide +kernel
theorem d_M_shift_10 : decode b_M_shift 10 = .ok (.invokevirtual 358, 3) := by decide +kernel
theorem d_M_shift_13 : decode b_M_shift 13 = .ok (.ifCond .ne 5, 3) := by decide +kernel
theorem d_M_shift_16 : decode b_M_shift 16 = .ok (.iconst (-1), 1) := by decide +kernel
theorem d_M_shift_17 : decode b_M_shift 17 = .ok (.ireturn, 1) := by decide +kernel
theorem d_M_shift_18 : decode b_M_shift 18 = .ok (.aload_n 0, 1) := by decide +kernel
theorem d_M_shift_19 : decode b_M_shift 19 = .ok (.getfield 205, 3) := by decide +kernel
theorem d_M_shift_22 : decode b_M_shift 22 = .ok (.iload_n 1, 1) := by decide +kernel
theorem d_M_shift_23 : decode b_M_shift 23 = .ok (.iaload, 1) := by decide +kernel
theorem d_M_shift_24 : decode b_M_shift 24 = .ok (.ifCond .lt 12, 3) := by decide +kernel
theorem d_M_shift_27 : decode b_M_shift 27 = .ok (.aload_n 0, 1) := by decide +kernel
theorem d_M_shift_28 : decode b_M_shift 28 = .ok (.getfield 205, 3) := by decide +kernel
theorem d_M_shift_31 : decode b_M_shift 31 = .ok (.iload_n 3, 1) := by decide +kernel
theorem d_M_shift_32 : decode b_M_shift 32 = .ok (.iaload, 1) := by decide +kernel
theorem d_M_shift_33 : decode b_M_shift 33 = .ok (.ifCond .ge 6, 3) := by decide +kernel
theorem d_M_shift_36 : decode b_M_shift 36 = .ok (.bipush (-11), 2) := by decide +kernel
theorem d_M_shift_38 : decode b_M_shift 38 = .ok (.ireturn, 1) := by decide +kernel
theorem d_M_shift_39 : decode b_M_shift 39 = .ok (.aload_n 0, 1) := by decide +kernel
theorem d_M_shift_40 : decode b_M_shift 40 = .ok (.getfield 205, 3) := by decide +kernel
theorem d_M_shift_43 : decode b_M_shift 43 = .ok (.iload_n 1, 1) := by decide +kernel
theorem d_M_shift_44 : decode b_M_shift 44 = .ok (.iaload, 1) := by decide +kernel
theorem d_M_shift_45 : decode b_M_shift 45 = .ok (.aload_n 0, 1) := by decide +kernel
theorem d_M_shift_46 : decode b_M_shift 46 = .ok (.getfield 205, 3) := by decide +kernel
theorem d_M_shift_49 : decode b_M_shift 49 = .ok (.iload_n 3, 1) := by decide +kernel
theorem d_M_shift_50 : decode b_M_shift 50 = .ok (.iaload, 1) := by decide +kernel
theorem d_M_shift_51 : decode b_M_shift 51 = .ok (.if_icmp .eq 6, 3) := by decide +kernel
theorem d_M_shift_54 : decode b_M_shift 54 = .ok (.bipush (-12), 2) := by decide +kernel
theorem d_M_shift_56 : decode b_M_shift 56 = .ok (.ireturn, 1) := by decide +kernel
theorem d_M_shift_57 : decode b_M_shift 57 = .ok (.iload 5, 2) := by decide +kernel
theorem d_M_shift_59 : decode b_M_shift 59 = .ok (.ifCond .lt 39, 3) := by decide +kernel
theorem d_M_shift_62 : decode b_M_shift 62 = .ok (.iload_n 2, 1) := by decide +kernel
theorem d_M_shift_63 : decode b_M_shift 63 = .ok (.ifCond .lt 35, 3) := by decide +kernel
theorem d_M_shift_66 : decode b_M_shift 66 = .ok (.iload 4, 2) := by decide +kernel
theorem d_M_shift_68 : decode b_M_shift 68 = .ok (.ifCond .lt 30, 3) := by decide +kernel
theorem d_M_shift_71 : decode b_M_shift 71 = .ok (.iload_n 2, 1) := by decide +kernel
theorem d_M_shift_72 : decode b_M_shift 72 = .ok (.aload_n 0, 1) := by decide +kernel
theorem d_M_shift_73 : decode b_M_shift 73 = .ok (.getfield 208, 3) := by decide +kernel
theorem d_M_shift_76 : decode b_M_shift 76 = .ok (.iload_n 1, 1) := by decide +kernel
theorem d_M_shift_77 : decode b_M_shift 77 = .ok (.iaload, 1) := by decide +kernel
theorem d_M_shift_78 : decode b_M_shift 78 = .ok (.iload 5, 2) := by decide +kernel
theorem d_M_shift_80 : decode b_M_shift 80 = .ok (.isub, 1) := by decide +kernel
theorem d_M_shift_81 : decode b_M_shift 81 = .ok (.if_icmp .gt 17, 3) := by decide +kernel
theorem d_M_shift_84 : decode b_M_shift 84 = .ok (.iload 4, 2) := by decide +kernel
theorem d_M_shift_86 : decode b_M_shift 86 = .ok (.aload_n 0, 1) := by decide +kernel
theorem d_M_shift_87 : decode b_M_shift 87 = .ok (.getfield 208, 3) := by decide +kernel
theorem d_M_shift_90 : decode b_M_shift 90 = .ok (.iload_n 3, 1) := by decide +kernel
theorem d_M_shift_91 : decode b_M_shift 91 = .ok (.iaload, 1) := by decide +kernel
theorem d_M_shift_92 : decode b_M_shift 92 = .ok (.iload 5, 2) := by decide +kernel
theorem d_M_shift_94 : decode b_M_shift 94 = .ok (.isub, 1) := by decide +kernel
theorem d_M_shift_95 : decode b_M_shift 95 = .ok (.if_icmp .le 6, 3) := by decide +kernel
theorem d_M_shift_98 : decode b_M_shift 98 = .ok (.bipush (-13), 2) := by decide +kernel
theorem d_M_shift_100 : decode b_M_shift 100 = .ok (.ireturn, 1) := by decide +kernel
theorem d_M_shift_101 : decode b_M_shift 101 = .ok (.iconst 0, 1) := by decide +kernel
theorem d_M_shift_102 : decode b_M_shift 102 = .ok (.istore 6, 2) := by decide +kernel
theorem d_M_shift_104 : decode b_M_shift 104 = .ok (.iload 6, 2) := by decide +kernel
theorem d_M_shift_106 : decode b_M_shift 106 = .ok (.iload 5, 2) := by decide +kernel
theorem d_M_shift_108 : decode b_M_shift 108 = .ok (.if_icmp .ge 30, 3) := by decide +kernel
theorem d_M_shift_111 : decode b_M_shift 111 = .ok (.aload_n 0, 1) := by decide +kernel
theorem d_M_shift_112 : decode b_M_shift 112 = .ok (.getfield 215, 3) := by decide +kernel
theorem d_M_shift_115 : decode b_M_shift 115 = .ok (.iload 6, 2) := by decide +kernel
theorem d_M_shift_117 : decode b_M_shift 117 = .ok (.aload_n 0, 1) := by decide +kernel
theorem d_M_shift_118 : decode b_M_shift 118 = .ok (.getfield 211, 3) := by decide +kernel
theorem d_M_shift_121 : decode b_M_shift 121 = .ok (.bipush 60, 2) := by decide +kernel
theorem d_M_shift_123 : decode b_M_shift 123 = .ok (.iload_n 1, 1) := by decide +kernel
theorem d_M_shift_124 : decode b_M_shift 124 = .ok (.imul, 1) := by decide +kernel
theorem d_M_shift_125 : decode b_M_shift 125 = .ok (.iload_n 2, 1) := by decide +kernel
theorem d_M_shift_126 : decode b_M_shift 126 = .ok (.iadd, 1) := by decide +kernel
theorem d_M_shift_127 : decode b_M_shift 127 = .ok (.iload 6, 2) := by decide +kernel
theorem d_M_shift_129 : decode b_M_shift 129 = .ok (.iadd, 1) := by decide +kernel
theorem d_M_shift_130 : decode b_M_shift 130 = .ok (.laload, 1) := by decide +kernel
theorem d_M_shift_131 : decode b_M_shift 131 = .ok (.lastore, 1) := by decide +kernel
theorem d_M_shift_132 : decode b_M_shift 132 = .ok (.iinc 6 1, 3) := by decide +kernel
theorem d_M_shift_135 : decode b_M_shift 135 = .ok (.goto (-31), 3) := by decide +kernel
theorem d_M_shift_138 : decode b_M_shift 138 = .ok (.iconst 0, 1) := by decide +kernel
theorem d_M_shift_139 : decode b_M_shift 139 = .ok (.istore 6, 2) := by decide +kernel
theorem d_M_shift_141 : decode b_M_shift 141 = .ok (.iload 6, 2) := by decide +kernel
theorem d_M_shift_143 : decode b_M_shift 143 = .ok (.iload 5, 2) := by decide +kernel
theorem d_M_shift_145 : decode b_M_shift 145 = .ok (.if_icmp .ge 31, 3) := by decide +kernel
theorem d_M_shift_148 : decode b_M_shift 148 = .ok (.aload_n 0, 1) := by decide +kernel
theorem d_M_shift_149 : decode b_M_shift 149 = .ok (.getfield 211, 3) := by decide +kernel
theorem d_M_shift_152 : decode b_M_shift 152 = .ok (.bipush 60, 2) := by decide +kernel
theorem d_M_shift_154 : decode b_M_shift 154 = .ok (.iload_n 3, 1) := by decide +kernel
theorem d_M_shift_155 : decode b_M_shift 155 = .ok (.imul, 1) := by decide +kernel
theorem d_M_shift_156 : decode b_M_shift 156 = .ok (.iload 4, 2) := by decide +kernel
theorem d_M_shift_158 : decode b_M_shift 158 = .ok (.iadd, 1) := by decide +kernel
theorem d_M_shift_159 : decode b_M_shift 159 = .ok (.iload 6, 2) := by decide +kernel
theorem d_M_shift_161 : decode b_M_shift 161 = .ok (.iadd, 1) := by decide +kernel
theorem d_M_shift_162 : decode b_M_shift 162 = .ok (.aload_n 0, 1) := by decide +kernel
theorem d_M_shift_163 : decode b_M_shift 163 = .ok (.getfield 215, 3) := by decide +kernel
theorem d_M_shift_166 : decode b_M_shift 166 = .ok (.iload 6, 2) := by decide +kernel
theorem d_M_shift_168 : decode b_M_shift 168 = .ok (.laload, 1) := by decide +kernel
theorem d_M_shift_169 : decode b_M_shift 169 = .ok (.lastore, 1) := by decide +kernel
theorem d_M_shift_170 : decode b_M_shift 170 = .ok (.iinc 6 1, 3) := by decide +kernel
theorem d_M_shift_173 : decode b_M_shift 173 = .ok (.goto (-32), 3) := by decide +kernel
theorem d_M_shift_176 : decode b_M_shift 176 = .ok (.iload 5, 2) := by decide +kernel
theorem d_M_shift_178 : decode b_M_shift 178 = .ok (.ireturn, 1) := by decide +kernel
theorem d_A_init_0 : decode b_A_init 0 = .ok (.aload_n 0, 1) := by decide +kernel
theorem d_A_init_1 : decode b_A_init 1 = .ok (.invokespecial 3, 3) := by decide +kernel
theorem d_A_init_4 : decode b_A_init 4 = .ok (.aload_n 0, 1) := by decide +kernel
theorem d_A_init_5 : decode b_A_init 5 = .ok (.bipush 20, 2) := by decide +kernel
theorem d_A_init_7 : decode b_A_init 7 = .ok (.newarray .int, 2) := by decide +kernel
theorem d_A_init_9 : decode b_A_init 9 = .ok (.putfield 9, 3) := by decide +kernel
theorem d_A_init_12 : decode b_A_init 12 = .ok (.aload_n 0, 1) := by decide +kernel
theorem d_A_init_13 : decode b_A_init 13 = .ok (.iconst 0, 1) := by decide +kernel
theorem d_A_init_14 : decode b_A_init 14 = .ok (.putfield 15, 3) := by decide +kernel
theorem d_A_init_17 : decode b_A_init 17 = .ok (.aload_n 0, 1) := by decide +kernel
theorem d_A_init_18 : decode b_A_init 18 = .ok (.iconst 0, 1) := by decide +kernel
theorem d_A_init_19 : decode b_A_init 19 = .ok (.putfield 19, 3) := by decide +kernel
theorem d_A_init_22 : decode b_A_init 22 = .ok (.aload_n 0, 1) := by decide +kernel
theorem d_A_init_23 : decode b_A_init 23 = .ok (.iconst 0, 1) := by decide +kernel
theorem d_A_init_24 : decode b_A_init 24 = .ok (.putfield 22, 3) := by decide +kernel
theorem d_A_init_27 : decode b_A_init 27 = .ok (.aload_n 0, 1) := by decide +kernel
theorem d_A_init_28 : decode b_A_init 28 = .ok (.iconst 0, 1) := by decide +kernel
theorem d_A_init_29 : decode b_A_init 29 = .ok (.putfield 25, 3) := by decide +kernel
theorem d_A_init_32 : decode b_A_init 32 = .ok (.return_, 1) := by decide +kernel
theorem d_A_perform_0 : decode b_A_perform 0 = .ok (.aload_n 0, 1) := by decide +kernel
theorem d_A_perform_1 : decode b_A_perform 1 = .ok (.iconst 0, 1) := by decide +kernel
theorem d_A_perform_2 : decode b_A_perform 2 = .ok (.putfield 15, 3) := by decide +kernel
theorem d_A_perform_5 : decode b_A_perform 5 = .ok (.aload_n 0, 1) := by decide +kernel
theorem d_A_perform_6 : decode b_A_perform 6 = .ok (.iload_n 1, 1) := by decide +kernel
theorem d_A_perform_7 : decode b_A_perform 7 = .ok (.putfield 19, 3) := by decide +kernel
theorem d_A_perform_10 : decode b_A_perform 10 = .ok (.aload_n 0, 1) := by decide +kernel
theorem d_A_perform_11 : decode b_A_perform 11 = .ok (.iload_n 2, 1) := by decide +kernel
theorem d_A_perform_12 : decode b_A_perform 12 = .ok (.putfield 22, 3) := by decide +kernel
theorem d_A_perform_15 : decode b_A_perform 15 = .ok (.aload_n 0, 1) := by decide +kernel
theorem d_A_perform_16 : decode b_A_perform 16 = .ok (.iload_n 3, 1) := by decide +kernel
theorem d_A_perform_17 : decode b_A_perform 17 = .ok (.putfield 25, 3) := by decide +kernel
theorem d_A_perform_20 : decode b_A_perform 20 = .ok (.iload 4, 2) := by decide +kernel
theorem d_A_perform_22 : decode b_A_perform 22 = .ok (.lookupswitch 48 #[(0, 26), (1, 37)], 26) := by decide +kernel
theorem d_A_perform_48 : decode b_A_perform 48 = .ok (.aload_n 0, 1) := by decide +kernel
theorem d_A_perform_49 : decode b_A_perform 49 = .ok (.aload_n 0, 1) := by decide +kernel
theorem d_A_perform_50 : decode b_A_perform 50 = .ok (.getfield 19, 3) := by decide +kernel
theorem d_A_perform_53 : decode b_A_perform 53 = .ok (.iload 5, 2) := by decide +kernel
theorem d_A_perform_55 : decode b_A_perform 55 = .ok (.invokevirtual 28, 3) := by decide +kernel
theorem d_A_perform_58 : decode b_A_perform 58 = .ok (.ireturn, 1) := by decide +kernel
theorem d_A_perform_59 : decode b_A_perform 59 = .ok (.aload_n 0, 1) := by decide +kernel
theorem d_A_perform_60 : decode b_A_perform 60 = .ok (.aload_n 0, 1) := by decide +kernel
theorem d_A_perform_61 : decode b_A_perform 61 = .ok (.getfield 19, 3) := by decide +kernel
theorem d_A_perform_64 : decode b_A_perform 64 = .ok (.iload 5, 2) := by decide +kernel
theorem d_A_perform_66 : decode b_A_perform 66 = .ok (.invokevirtual 32, 3) := by decide +kernel
theorem d_A_perform_69 : decode b_A_perform 69 = .ok (.ireturn, 1) := by decide +kernel
theorem d_A_perform_70 : decode b_A_perform 70 = .ok (.aload_n 0, 1) := by decide +kernel
theorem d_A_perform_71 : decode b_A_perform 71 = .ok (.aload_n 0, 1) := by decide +kernel
theorem d_A_perform_72 : decode b_A_perform 72 = .ok (.getfield 19, 3) := by decide +kernel
theorem d_A_perform_75 : decode b_A_perform 75 = .ok (.iload 5, 2) := by decide +kernel
theorem d_A_perform_77 : decode b_A_perform 77 = .ok (.invokevirtual 35, 3) := by decide +kernel
theorem d_A_perform_80 : decode b_A_perform 80 = .ok (.ireturn, 1) := by decide +kernel
theorem d_A_begin_0 : decode b_A_begin 0 = .ok (.aload_n 0, 1) := by decide +kernel
theorem d_A_begin_1 : decode b_A_begin 1 = .ok (.getfield 15, 3) := by decide +kernel
theorem d_A_begin_4 : decode b_A_begin 4 = .ok (.aload_n 0, 1) := by decide +kernel
theorem d_A_begin_5 : decode b_A_begin 5 = .ok (.getfield 9, 3) := by decide +kernel
theorem d_A_begin_8 : decode b_A_begin 8 = .ok (.arraylength, 1) := by decide +kernel
theorem d_A_begin_9 : decode b_A_begin 9 = .ok (.if_icmp .ge 13, 3) := by decide +kernel
theorem d_A_begin_12 : decode b_A_begin 12 = .ok (.aload_n 0, 1) := by decide +kernel
theorem d_A_begin_13 : decode b_A_begin 13 = .ok (.getfield 9, 3) := by decide +kernel
theorem d_A_begin_16 : decode b_A_begin 16 = .ok (.aload_n 0, 1) := by decide +kernel
theorem d_A_begin_17 : decode b_A_begin 17 = .ok (.getfield 15, 3) := by decide +kernel
theorem d_A_begin_20 : decode b_A_begin 20 = .ok (.iload_n 1, 1) := by decide +kernel
theorem d_A_begin_21 : decode b_A_begin 21 = .ok (.iastore, 1) := by decide +kernel
theorem d_A_begin_22 : decode b_A_begin 22 = .ok (.aload_n 0, 1) := by decide +kernel
theorem d_A_begin_23 : decode b_A_begin 23 = .ok (.dup, 1) := by decide +kernel
theorem d_A_begin_24 : decode b_A_begin 24 = .ok (.getfield 15, 3) := by decide +kernel
theorem d_A_begin_27 : decode b_A_begin 27 = .ok (.iconst 1, 1) := by decide +kernel
theorem d_A_begin_28 : decode b_A_begin 28 = .ok (.iadd, 1) := by decide +kernel
theorem d_A_begin_29 : decode b_A_begin 29 = .ok (.putfield 15, 3) := by decide +kernel
theorem d_A_begin_32 : decode b_A_begin 32 = .ok (.return_, 1) := by decide +kernel
theorem d_A_takesAs_0 : decode b_A_takesAs 0 = .ok (.iload_n 1, 1) := by decide +kernel
theorem d_A_takesAs_1 : decode b_A_takesAs 1 = .ok (.tableswitch 82 2 6 #[35, 82, 50, 35, 64], 35) := by decide +kernel
theorem d_A_takesAs_36 : decode b_A_takesAs 36 = .ok (.aload_n 0, 1) := by decide +kernel
theorem d_A_takesAs_37 : decode b_A_takesAs 37 = .ok (.bipush 30, 2) := by decide +kernel
theorem d_A_takesAs_39 : decode b_A_takesAs 39 = .ok (.invokevirtual 38, 3) := by decide +kernel
theorem d_A_takesAs_42 : decode b_A_takesAs 42 = .ok (.aload_n 0, 1) := by decide +kernel
theorem d_A_takesAs_43 : decode b_A_takesAs 43 = .ok (.iconst 0, 1) := by decide +kernel
theorem d_A_takesAs_44 : decode b_A_takesAs 44 = .ok (.iload_n 2, 1) := by decide +kernel
theorem d_A_takesAs_45 : decode b_A_takesAs 45 = .ok (.iconst 3, 1) := by decide +kernel
theorem d_A_takesAs_46 : decode b_A_takesAs 46 = .ok (.imul, 1) := by decide +kernel
theorem d_A_takesAs_47 : decode b_A_takesAs 47 = .ok (.invokevirtual 28, 3) := by decide +kernel
theorem d_A_takesAs_50 : decode b_A_takesAs 50 = .ok (.ireturn, 1) := by decide +kernel
theorem d_A_takesAs_51 : decode b_A_takesAs 51 = .ok (.aload_n 0, 1) := by decide +kernel
theorem d_A_takesAs_52 : decode b_A_takesAs 52 = .ok (.bipush 50, 2) := by decide +kernel
theorem d_A_takesAs_54 : decode b_A_takesAs 54 = .ok (.invokevirtual 38, 3) := by decide +kernel
theorem d_A_takesAs_57 : decode b_A_takesAs 57 = .ok (.aload_n 0, 1) := by decide +kernel
theorem d_A_takesAs_58 : decode b_A_takesAs 58 = .ok (.iconst 1, 1) := by decide +kernel
theorem d_A_takesAs_59 : decode b_A_takesAs 59 = .ok (.iload_n 2, 1) := by decide +kernel
theorem d_A_takesAs_60 : decode b_A_takesAs 60 = .ok (.invokevirtual 28, 3) := by decide +kernel
theorem d_A_takesAs_63 : decode b_A_takesAs 63 = .ok (.ineg, 1) := by decide +kernel
theorem d_A_takesAs_64 : decode b_A_takesAs 64 = .ok (.ireturn, 1) := by decide +kernel
theorem d_A_takesAs_65 : decode b_A_takesAs 65 = .ok (.aload_n 0, 1) := by decide +kernel
theorem d_A_takesAs_66 : decode b_A_takesAs 66 = .ok (.bipush 71, 2) := by decide +kernel
theorem d_A_takesAs_68 : decode b_A_takesAs 68 = .ok (.invokevirtual 38, 3) := by decide +kernel
theorem d_A_takesAs_71 : decode b_A_takesAs 71 = .ok (.aload_n 0, 1) := by decide +kernel
theorem d_A_takesAs_72 : decode b_A_takesAs 72 = .ok (.iconst 3, 1) := by decide +kernel
theorem d_A_takesAs_73 : decode b_A_takesAs 73 = .ok (.iload_n 2, 1) := by decide +kernel
theorem d_A_takesAs_74 : decode b_A_takesAs 74 = .ok (.invokevirtual 28, 3) := by decide +kernel
theorem d_A_takesAs_77 : decode b_A_takesAs 77 = .ok (.aload_n 0, 1) := by decide +kernel
theorem d_A_takesAs_78 : decode b_A_takesAs 78 = .ok (.getfield 25, 3) := by decide +kernel
theorem d_A_takesAs_81 : decode b_A_takesAs 81 = .ok (.ixor, 1) := by decide +kernel
theorem d_A_takesAs_82 : decode b_A_takesAs 82 = .ok (.ireturn, 1) := by decide +kernel
theorem d_A_takesAs_83 : decode b_A_takesAs 83 = .ok (.aload_n 0, 1) := by decide +kernel
theorem d_A_takesAs_84 : decode b_A_takesAs 84 = .ok (.bipush 10, 2) := by decide +kernel
theorem d_A_takesAs_86 : decode b_A_takesAs 86 = .ok (.invokevirtual 38, 3) := by decide +kernel
theorem d_A_takesAs_89 : decode b_A_takesAs 89 = .ok (.iload_n 2, 1) := by decide +kernel
theorem d_A_takesAs_90 : decode b_A_takesAs 90 = .ok (.aload_n 0, 1) := by decide +kernel
theorem d_A_takesAs_91 : decode b_A_takesAs 91 = .ok (.getfield 22, 3) := by decide +kernel
theorem d_A_takesAs_94 : decode b_A_takesAs 94 = .ok (.iadd, 1) := by decide +kernel
theorem d_A_takesAs_95 : decode b_A_takesAs 95 = .ok (.ireturn, 1) := by decide +kernel
theorem d_A_leavesAs_0 : decode b_A_leavesAs 0 = .ok (.iload_n 1, 1) := by decide +kernel
theorem d_A_leavesAs_1 : decode b_A_leavesAs 1 = .ok (.lookupswitch 88 #[(1, 35), (4, 51), (6, 66)], 35) := by decide +kernel
theorem d_A_leavesAs_36 : decode b_A_leavesAs 36 = .ok (.aload_n 0, 1) := by decide +kernel
theorem d_A_leavesAs_37 : decode b_A_leavesAs 37 = .ok (.bipush 20, 2) := by decide +kernel
theorem d_A_leavesAs_39 : decode b_A_leavesAs 39 = .ok (.invokevirtual 38, 3) := by decide +kernel
theorem d_A_leavesAs_42 : decode b_A_leavesAs 42 = .ok (.aload_n 0, 1) := by decide +kernel
theorem d_A_leavesAs_43 : decode b_A_leavesAs 43 = .ok (.iconst 0, 1) := by decide +kernel
theorem d_A_leavesAs_44 : decode b_A_leavesAs 44 = .ok (.iload_n 2, 1) := by decide +kernel
theorem d_A_leavesAs_45 : decode b_A_leavesAs 45 = .ok (.invokevirtual 32, 3) := by decide +kernel
theorem d_A_leavesAs_48 : decode b_A_leavesAs 48 = .ok (.bipush 6, 2) := by decide +kernel
theorem d_A_leavesAs_50 : decode b_A_leavesAs 50 = .ok (.ixor, 1) := by decide +kernel
theorem d_A_leavesAs_51 : decode b_A_leavesAs 51 = .ok (.ireturn, 1) := by decide +kernel
theorem d_A_leavesAs_52 : decode b_A_leavesAs 52 = .ok (.aload_n 0, 1) := by decide +kernel
theorem d_A_leavesAs_53 : decode b_A_leavesAs 53 = .ok (.bipush 51, 2) := by decide +kernel
theorem d_A_leavesAs_55 : decode b_A_leavesAs 55 = .ok (.invokevirtual 38, 3) := by decide +kernel
theorem d_A_leavesAs_58 : decode b_A_leavesAs 58 = .ok (.aload_n 0, 1) := by decide +kernel
theorem d_A_leavesAs_59 : decode b_A_leavesAs 59 = .ok (.iconst 1, 1) := by decide +kernel
theorem d_A_leavesAs_60 : decode b_A_leavesAs 60 = .ok (.iload_n 2, 1) := by decide +kernel
theorem d_A_leavesAs_61 : decode b_A_leavesAs 61 = .ok (.iconst 1, 1) := by decide +kernel
theorem d_A_leavesAs_62 : decode b_A_leavesAs 62 = .ok (.iadd, 1) := by decide +kernel
theorem d_A_leavesAs_63 : decode b_A_leavesAs 63 = .ok (.invokevirtual 32, 3) := by decide +kernel
theorem d_A_leavesAs_66 : decode b_A_leavesAs 66 = .ok (.ireturn, 1) := by decide +kernel
theorem d_A_leavesAs_67 : decode b_A_leavesAs 67 = .ok (.aload_n 0, 1) := by decide +kernel
theorem d_A_leavesAs_68 : decode b_A_leavesAs 68 = .ok (.bipush 70, 2) := by decide +kernel
theorem d_A_leavesAs_70 : decode b_A_leavesAs 70 = .ok (.invokevirtual 38, 3) := by decide +kernel
theorem d_A_leavesAs_73 : decode b_A_leavesAs 73 = .ok (.aload_n 0, 1) := by decide +kernel
theorem d_A_leavesAs_74 : decode b_A_leavesAs 74 = .ok (.iconst 3, 1) := by decide +kernel
theorem d_A_leavesAs_75 : decode b_A_leavesAs 75 = .ok (.iload_n 2, 1) := by decide +kernel
theorem d_A_leavesAs_76 : decode b_A_leavesAs 76 = .ok (.invokevirtual 32, 3) := by decide +kernel
theorem d_A_leavesAs_79 : decode b_A_leavesAs 79 = .ok (.istore_n 3, 1) := by decide +kernel
theorem d_A_leavesAs_80 : decode b_A_leavesAs 80 = .ok (.iload_n 3, 1) := by decide +kernel
theorem d_A_leavesAs_81 : decode b_A_leavesAs 81 = .ok (.aload_n 0, 1) := by decide +kernel
theorem d_A_leavesAs_82 : decode b_A_leavesAs 82 = .ok (.iconst 3, 1) := by decide +kernel
theorem d_A_leavesAs_83 : decode b_A_leavesAs 83 = .ok (.iconst 2, 1) := by decide +kernel
theorem d_A_leavesAs_84 : decode b_A_leavesAs 84 = .ok (.invokevirtual 28, 3) := by decide +kernel
theorem d_A_leavesAs_87 : decode b_A_leavesAs 87 = .ok (.iadd, 1) := by decide +kernel
theorem d_A_leavesAs_88 : decode b_A_leavesAs 88 = .ok (.ireturn, 1) := by decide +kernel
theorem d_A_leavesAs_89 : decode b_A_leavesAs 89 = .ok (.aload_n 0, 1) := by decide +kernel
theorem d_A_leavesAs_90 : decode b_A_leavesAs 90 = .ok (.bipush 11, 2) := by decide +kernel
theorem d_A_leavesAs_92 : decode b_A_leavesAs 92 = .ok (.invokevirtual 38, 3) := by decide +kernel
theorem d_A_leavesAs_95 : decode b_A_leavesAs 95 = .ok (.aload_n 0, 1) := by decide +kernel
theorem d_A_leavesAs_96 : decode b_A_leavesAs 96 = .ok (.aload_n 0, 1) := by decide +kernel
theorem d_A_leavesAs_97 : decode b_A_leavesAs 97 = .ok (.getfield 19, 3) := by decide +kernel
theorem d_A_leavesAs_100 : decode b_A_leavesAs 100 = .ok (.iload_n 2, 1) := by decide +kernel
theorem d_A_leavesAs_101 : decode b_A_leavesAs 101 = .ok (.invokevirtual 28, 3) := by decide +kernel
theorem d_A_leavesAs_104 : decode b_A_leavesAs 104 = .ok (.aload_n 0, 1) := by decide +kernel
theorem d_A_leavesAs_105 : decode b_A_leavesAs 105 = .ok (.getfield 25, 3) := by decide +kernel
theorem d_A_leavesAs_108 : decode b_A_leavesAs 108 = .ok (.isub, 1) := by decide +kernel
theorem d_A_leavesAs_109 : decode b_A_leavesAs 109 = .ok (.ireturn, 1) := by decide +kernel
theorem d_A_tellsAs_0 : decode b_A_tellsAs 0 = .ok (.iload_n 1, 1) := by decide +kernel
theorem d_A_tellsAs_1 : decode b_A_tellsAs 1 = .ok (.tableswitch 74 3 6 #[31, 74, 56, 31], 31) := by decide +kernel
theorem d_A_tellsAs_32 : decode b_A_tellsAs 32 = .ok (.aload_n 0, 1) := by decide +kernel
theorem d_A_tellsAs_33 : decode b_A_tellsAs 33 = .ok (.bipush 40, 2) := by decide +kernel
theorem d_A_tellsAs_35 : decode b_A_tellsAs 35 = .ok (.invokevirtual 38, 3) := by decide +kernel
theorem d_A_tellsAs_38 : decode b_A_tellsAs 38 = .ok (.aload_n 0, 1) := by decide +kernel
theorem d_A_tellsAs_39 : decode b_A_tellsAs 39 = .ok (.iconst 0, 1) := by decide +kernel
theorem d_A_tellsAs_40 : decode b_A_tellsAs 40 = .ok (.iload_n 2, 1) := by decide +kernel
theorem d_A_tellsAs_41 : decode b_A_tellsAs 41 = .ok (.invokevirtual 35, 3) := by decide +kernel
theorem d_A_tellsAs_44 : decode b_A_tellsAs 44 = .ok (.istore_n 3, 1) := by decide +kernel
theorem d_A_tellsAs_45 : decode b_A_tellsAs 45 = .ok (.iload_n 3, 1) := by decide +kernel
theorem d_A_tellsAs_46 : decode b_A_tellsAs 46 = .ok (.aload_n 0, 1) := by decide +kernel
theorem d_A_tellsAs_47 : decode b_A_tellsAs 47 = .ok (.aload_n 0, 1) := by decide +kernel
theorem d_A_tellsAs_48 : decode b_A_tellsAs 48 = .ok (.getfield 19, 3) := by decide +kernel
theorem d_A_tellsAs_51 : decode b_A_tellsAs 51 = .ok (.iconst 1, 1) := by decide +kernel
theorem d_A_tellsAs_52 : decode b_A_tellsAs 52 = .ok (.invokevirtual 32, 3) := by decide +kernel
theorem d_A_tellsAs_55 : decode b_A_tellsAs 55 = .ok (.iadd, 1) := by decide +kernel
theorem d_A_tellsAs_56 : decode b_A_tellsAs 56 = .ok (.ireturn, 1) := by decide +kernel
theorem d_A_tellsAs_57 : decode b_A_tellsAs 57 = .ok (.aload_n 0, 1) := by decide +kernel
theorem d_A_tellsAs_58 : decode b_A_tellsAs 58 = .ok (.bipush 60, 2) := by decide +kernel
theorem d_A_tellsAs_60 : decode b_A_tellsAs 60 = .ok (.invokevirtual 38, 3) := by decide +kernel
theorem d_A_tellsAs_63 : decode b_A_tellsAs 63 = .ok (.aload_n 0, 1) := by decide +kernel
theorem d_A_tellsAs_64 : decode b_A_tellsAs 64 = .ok (.iconst 2, 1) := by decide +kernel
theorem d_A_tellsAs_65 : decode b_A_tellsAs 65 = .ok (.iload_n 2, 1) := by decide +kernel
theorem d_A_tellsAs_66 : decode b_A_tellsAs 66 = .ok (.aload_n 0, 1) := by decide +kernel
theorem d_A_tellsAs_67 : decode b_A_tellsAs 67 = .ok (.getfield 22, 3) := by decide +kernel
theorem d_A_tellsAs_70 : decode b_A_tellsAs 70 = .ok (.isub, 1) := by decide +kernel
theorem d_A_tellsAs_71 : decode b_A_tellsAs 71 = .ok (.invokevirtual 35, 3) := by decide +kernel
theorem d_A_tellsAs_74 : decode b_A_tellsAs 74 = .ok (.ireturn, 1) := by decide +kernel
theorem d_A_tellsAs_75 : decode b_A_tellsAs 75 = .ok (.aload_n 0, 1) := by decide +kernel
theorem d_A_tellsAs_76 : decode b_A_tellsAs 76 = .ok (.bipush 12, 2) := by decide +kernel
theorem d_A_tellsAs_78 : decode b_A_tellsAs 78 = .ok (.invokevirtual 38, 3) := by decide +kernel
theorem d_A_tellsAs_81 : decode b_A_tellsAs 81 = .ok (.aload_n 0, 1) := by decide +kernel
theorem d_A_tellsAs_82 : decode b_A_tellsAs 82 = .ok (.aload_n 0, 1) := by decide +kernel
theorem d_A_tellsAs_83 : decode b_A_tellsAs 83 = .ok (.getfield 19, 3) := by decide +kernel
theorem d_A_tellsAs_86 : decode b_A_tellsAs 86 = .ok (.iload_n 2, 1) := by decide +kernel
theorem d_A_tellsAs_87 : decode b_A_tellsAs 87 = .ok (.invokevirtual 32, 3) := by decide +kernel
theorem d_A_tellsAs_90 : decode b_A_tellsAs 90 = .ok (.iconst 2, 1) := by decide +kernel
theorem d_A_tellsAs_91 : decode b_A_tellsAs 91 = .ok (.imul, 1) := by decide +kernel
theorem d_A_tellsAs_92 : decode b_A_tellsAs 92 = .ok (.ireturn, 1) := by decide +kernel
theorem d_K_init_0 : decode b_K_init 0 = .ok (.aload_n 0, 1) := by decide +kernel
theorem d_K_init_1 : decode b_K_init 1 = .ok (.invokespecial 3, 3) := by decide +kernel
theorem d_K_init_4 : decode b_K_init 4 = .ok (.aload_n 0, 1) := by decide +kernel
theorem d_K_init_5 : decode b_K_init 5 = .ok (.iconst 0, 1) := by decide +kernel
theorem d_K_init_6 : decode b_K_init 6 = .ok (.putfield 9, 3) := by decide +kernel
theorem d_K_init_9 : decode b_K_init 9 = .ok (.aload_n 0, 1) := by decide +kernel
theorem d_K_init_10 : decode b_K_init 10 = .ok (.bipush 6, 2) := by decide +kernel
theorem d_K_init_12 : decode b_K_init 12 = .ok (.newarray .int, 2) := by decide +kernel
theorem d_K_init_14 : decode b_K_init 14 = .ok (.putfield 15, 3) := by decide +kernel
theorem d_K_init_17 : decode b_K_init 17 = .ok (.aload_n 0, 1) := by decide +kernel
theorem d_K_init_18 : decode b_K_init 18 = .ok (.bipush 6, 2) := by decide +kernel
theorem d_K_init_20 : decode b_K_init 20 = .ok (.newarray .int, 2) := by decide +kernel
theorem d_K_init_22 : decode b_K_init 22 = .ok (.putfield 19, 3) := by decide +kernel
theorem d_K_init_25 : decode b_K_init 25 = .ok (.aload_n 0, 1) := by decide +kernel
theorem d_K_init_26 : decode b_K_init 26 = .ok (.bipush 6, 2) := by decide +kernel
theorem d_K_init_28 : decode b_K_init 28 = .ok (.newarray .int, 2) := by decide +kernel
theorem d_K_init_30 : decode b_K_init 30 = .ok (.putfield 22, 3) := by decide +kernel
theorem d_K_init_33 : decode b_K_init 33 = .ok (.aload_n 0, 1) := by decide +kernel
theorem d_K_init_34 : decode b_K_init 34 = .ok (.bipush 6, 2) := by decide +kernel
theorem d_K_init_36 : decode b_K_init 36 = .ok (.newarray .int, 2) := by decide +kernel
theorem d_K_init_38 : decode b_K_init 38 = .ok (.putfield 25, 3) := by decide +kernel
theorem d_K_init_41 : decode b_K_init 41 = .ok (.aload_n 0, 1) := by decide +kernel
theorem d_K_init_42 : decode b_K_init 42 = .ok (.bipush 6, 2) := by decide +kernel
theorem d_K_init_44 : decode b_K_init 44 = .ok (.newarray .int, 2) := by decide +kernel
theorem d_K_init_46 : decode b_K_init 46 = .ok (.putfield 28, 3) := by decide +kernel
theorem d_K_init_49 : decode b_K_init 49 = .ok (.aload_n 0, 1) := by decide +kernel
theorem d_K_init_50 : decode b_K_init 50 = .ok (.bipush 6, 2) := by decide +kernel
theorem d_K_init_52 : decode b_K_init 52 = .ok (.newarray .int, 2) := by decide +kernel
theorem d_K_init_54 : decode b_K_init 54 = .ok (.putfield 31, 3) := by decide +kernel
theorem d_K_init_57 : decode b_K_init 57 = .ok (.aload_n 0, 1) := by decide +kernel
theorem d_K_init_58 : decode b_K_init 58 = .ok (.bipush 24, 2) := by decide +kernel
theorem d_K_init_60 : decode b_K_init 60 = .ok (.newarray .int, 2) := by decide +kernel
theorem d_K_init_62 : decode b_K_init 62 = .ok (.putfield 34, 3) := by decide +kernel
theorem d_K_init_65 : decode b_K_init 65 = .ok (.aload_n 0, 1) := by decide +kernel
theorem d_K_init_66 : decode b_K_init 66 = .ok (.bipush 100, 2) := by decide +kernel
theorem d_K_init_68 : decode b_K_init 68 = .ok (.putfield 37, 3) := by decide +kernel
theorem d_K_init_71 : decode b_K_init 71 = .ok (.aload_n 0, 1) := by decide +kernel
theorem d_K_init_72 : decode b_K_init 72 = .ok (.iconst 0, 1) := by decide +kernel
theorem d_K_init_73 : decode b_K_init 73 = .ok (.putfield 40, 3) := by decide +kernel
theorem d_K_init_76 : decode b_K_init 76 = .ok (.aload_n 0, 1) := by decide +kernel
theorem d_K_init_77 : decode b_K_init 77 = .ok (.iconst 0, 1) := by decide +kernel
theorem d_K_init_78 : decode b_K_init 78 = .ok (.putfield 43, 3) := by decide +kernel
theorem d_K_init_81 : decode b_K_init 81 = .ok (.aload_n 0, 1) := by decide +kernel
theorem d_K_init_82 : decode b_K_init 82 = .ok (.ldc 48, 2) := by decide +kernel
theorem d_K_init_84 : decode b_K_init 84 = .ok (.invokevirtual 50, 3) := by decide +kernel
theorem d_K_init_87 : decode b_K_init 87 = .ok (.newarray .int, 2) := by decide +kernel
theorem d_K_init_89 : decode b_K_init 89 = .ok (.putfield 56, 3) := by decide +kernel
theorem d_K_init_92 : decode b_K_init 92 = .ok (.aload_n 0, 1) := by decide +kernel
theorem d_K_init_93 : decode b_K_init 93 = .ok (.aload_n 1, 1) := by decide +kernel
theorem d_K_init_94 : decode b_K_init 94 = .ok (.putfield 59, 3) := by decide +kernel
theorem d_K_init_97 : decode b_K_init 97 = .ok (.aload_n 0, 1) := by decide +kernel
theorem d_K_init_98 : decode b_K_init 98 = .ok (.aload_n 1, 1) := by decide +kernel
theorem d_K_init_99 : decode b_K_init 99 = .ok (.getfield 63, 3) := by decide +kernel
theorem d_K_init_102 : decode b_K_init 102 = .ok (.putfield 66, 3) := by decide +kernel
theorem d_K_init_105 : decode b_K_init 105 = .ok (.aload_n 0, 1) := by decide +kernel
theorem d_K_init_106 : decode b_K_init 106 = .ok (.aload_n 1, 1) := by decide +kernel
theorem d_K_init_107 : decode b_K_init 107 = .ok (.getfield 67, 3) := by decide +kernel
theorem d_K_init_110 : decode b_K_init 110 = .ok (.putfield 70, 3) := by decide +kernel
theorem d_K_init_113 : decode b_K_init 113 = .ok (.return_, 1) := by decide +kernel
theorem d_K_becomes_0 : decode b_K_becomes 0 = .ok (.aload_n 0, 1) := by decide +kernel
theorem d_K_becomes_1 : decode b_K_becomes 1 = .ok (.aload_n 1, 1) := by decide +kernel
theorem d_K_becomes_2 : decode b_K_becomes 2 = .ok (.getfield 9, 3) := by decide +kernel
theorem d_K_becomes_5 : decode b_K_becomes 5 = .ok (.putfield 9, 3) := by decide +kernel
theorem d_K_becomes_8 : decode b_K_becomes 8 = .ok (.aload_n 1, 1) := by decide +kernel
theorem d_K_becomes_9 : decode b_K_becomes 9 = .ok (.getfield 15, 3) := by decide +kernel
theorem d_K_becomes_12 : decode b_K_becomes 12 = .ok (.iconst 0, 1) := by decide +kernel
theorem d_K_becomes_13 : decode b_K_becomes 13 = .ok (.aload_n 0, 1) := by decide +kernel
theorem d_K_becomes_14 : decode b_K_becomes 14 = .ok (.getfield 15, 3) := by decide +kernel
theorem d_K_becomes_17 : decode b_K_becomes 17 = .ok (.iconst 0, 1) := by decide +kernel
theorem d_K_becomes_18 : decode b_K_becomes 18 = .ok (.aload_n 0, 1) := by decide +kernel
theorem d_K_becomes_19 : decode b_K_becomes 19 = .ok (.getfield 15, 3) := by decide +kernel
theorem d_K_becomes_22 : decode b_K_becomes 22 = .ok (.arraylength, 1) := by decide +kernel
theorem d_K_becomes_23 : decode b_K_becomes 23 = .ok (.invokestatic 71, 3) := by decide +kernel
theorem d_K_becomes_26 : decode b_K_becomes 26 = .ok (.aload_n 1, 1) := by decide +kernel
theorem d_K_becomes_27 : decode b_K_becomes 27 = .ok (.getfield 19, 3) := by decide +kernel
theorem d_K_becomes_30 : decode b_K_becomes 30 = .ok (.iconst 0, 1) := by decide +kernel
theorem d_K_becomes_31 : decode b_K_becomes 31 = .ok (.aload_n 0, 1) := by decide +kernel
theorem d_K_becomes_32 : decode b_K_becomes 32 = .ok (.getfield 19, 3) := by decide +kernel
theorem d_K_becomes_35 : decode b_K_becomes 35 = .ok (.iconst 0, 1) := by decide +kernel
theorem d_K_becomes_36 : decode b_K_becomes 36 = .ok (.aload_n 0, 1) := by decide +kernel
theorem d_K_becomes_37 : decode b_K_becomes 37 = .ok (.getfield 19, 3) := by decide +kernel
theorem d_K_becomes_40 : decode b_K_becomes 40 = .ok (.arraylength, 1) := by decide +kernel
theorem d_K_becomes_41 : decode b_K_becomes 41 = .ok (.invokestatic 71, 3) := by decide +kernel
theorem d_K_becomes_44 : decode b_K_becomes 44 = .ok (.aload_n 1, 1) := by decide +kernel
theorem d_K_becomes_45 : decode b_K_becomes 45 = .ok (.getfield 22, 3) := by decide +kernel
theorem d_K_becomes_48 : decode b_K_becomes 48 = .ok (.iconst 0, 1) := by decide +kernel
theorem d_K_becomes_49 : decode b_K_becomes 49 = .ok (.aload_n 0, 1) := by decide +kernel
theorem d_K_becomes_50 : decode b_K_becomes 50 = .ok (.getfield 22, 3) := by decide +kernel
theorem d_K_becomes_53 : decode b_K_becomes 53 = .ok (.iconst 0, 1) := by decide +kernel
theorem d_K_becomes_54 : decode b_K_becomes 54 = .ok (.aload_n 0, 1) := by decide +kernel
theorem d_K_becomes_55 : decode b_K_becomes 55 = .ok (.getfield 22, 3) := by decide +kernel
theorem d_K_becomes_58 : decode b_K_becomes 58 = .ok (.arraylength, 1) := by decide +kernel
theorem d_K_becomes_59 : decode b_K_becomes 59 = .ok (.invokestatic 71, 3) := by decide +kernel
theorem d_K_becomes_62 : decode b_K_becomes 62 = .ok (.aload_n 1, 1) := by decide +kernel
theorem d_K_becomes_63 : decode b_K_becomes 63 = .ok (.getfield 25, 3) := by decide +kernel
theorem d_K_becomes_66 : decode b_K_becomes 66 = .ok (.iconst 0, 1) := by decide +kernel
theorem d_K_becomes_67 : decode b_K_becomes 67 = .ok (.aload_n 0, 1) := by decide +kernel
theorem d_K_becomes_68 : decode b_K_becomes 68 = .ok (.getfield 25, 3) := by decide +kernel
theorem d_K_becomes_71 : decode b_K_becomes 71 = .ok (.iconst 0, 1) := by decide +kernel
theorem d_K_becomes_72 : decode b_K_becomes 72 = .ok (.aload_n 0, 1) := by decide +kernel
theorem d_K_becomes_73 : decode b_K_becomes 73 = .ok (.getfield 25, 3) := by decide +kernel
theorem d_K_becomes_76 : decode b_K_becomes 76 = .ok (.arraylength, 1) := by decide +kernel
theorem d_K_becomes_77 : decode b_K_becomes 77 = .ok (.invokestatic 71, 3) := by decide +kernel
theorem d_K_becomes_80 : decode b_K_becomes 80 = .ok (.aload_n 1, 1) := by decide +kernel
theorem d_K_becomes_81 : decode b_K_becomes 81 = .ok (.getfield 28, 3) := by decide +kernel
theorem d_K_becomes_84 : decode b_K_becomes 84 = .ok (.iconst 0, 1) := by decide +kernel
theorem d_K_becomes_85 : decode b_K_becomes 85 = .ok (.aload_n 0, 1) := by decide +kernel
theorem d_K_becomes_86 : decode b_K_becomes 86 = .ok (.getfield 28, 3) := by decide +kernel
theorem d_K_becomes_89 : decode b_K_becomes 89 = .ok (.iconst 0, 1) := by decide +kernel
theorem d_K_becomes_90 : decode b_K_becomes 90 = .ok (.aload_n 0, 1) := by decide +kernel
theorem d_K_becomes_91 : decode b_K_becomes 91 = .ok (.getfield 28, 3) := by decide +kernel
theorem d_K_becomes_94 : decode b_K_becomes 94 = .ok (.arraylength, 1) := by decide +kernel
theorem d_K_becomes_95 : decode b_K_becomes 95 = .ok (.invokestatic 71, 3) := by decide +kernel
theorem d_K_becomes_98 : decode b_K_becomes 98 = .ok (.aload_n 1, 1) := by decide +kernel
theorem d_K_becomes_99 : decode b_K_becomes 99 = .ok (.getfield 31, 3) := by decide +kernel
theorem d_K_becomes_102 : decode b_K_becomes 102 = .ok (.iconst 0, 1) := by decide +kernel
theorem d_K_becomes_103 : decode b_K_becomes 103 = .ok (.aload_n 0, 1) := by decide +kernel
theorem d_K_becomes_104 : decode b_K_becomes 104 = .ok (.getfield 31, 3) := by decide +kernel
theorem d_K_becomes_107 : decode b_K_becomes 107 = .ok (.iconst 0, 1) := by decide +kernel
theorem d_K_becomes_108 : decode b_K_becomes 108 = .ok (.aload_n 0, 1) := by decide +kernel
theorem d_K_becomes_109 : decode b_K_becomes 109 = .ok (.getfield 31, 3) := by decide +kernel
theorem d_K_becomes_112 : decode b_K_becomes 112 = .ok (.arraylength, 1) := by decide +kernel
theorem d_K_becomes_113 : decode b_K_becomes 113 = .ok (.invokestatic 71, 3) := by decide +kernel
theorem d_K_becomes_116 : decode b_K_becomes 116 = .ok (.aload_n 1, 1) := by decide +kernel
theorem d_K_becomes_117 : decode b_K_becomes 117 = .ok (.getfield 34, 3) := by decide +kernel
theorem d_K_becomes_120 : decode b_K_becomes 120 = .ok (.iconst 0, 1) := by decide +kernel
theorem d_K_becomes_121 : decode b_K_becomes 121 = .ok (.aload_n 0, 1) := by decide +kernel
theorem d_K_becomes_122 : decode b_K_becomes 122 = .ok (.getfield 34, 3) := by decide +kernel
theorem d_K_becomes_125 : decode b_K_becomes 125 = .ok (.iconst 0, 1) := by decide +kernel
theorem d_K_becomes_126 : decode b_K_becomes 126 = .ok (.aload_n 0, 1) := by decide +kernel
theorem d_K_becomes_127 : decode b_K_becomes 127 = .ok (.getfield 34, 3) := by decide +kernel
theorem d_K_becomes_130 : decode b_K_becomes 130 = .ok (.arraylength, 1) := by decide +kernel
theorem d_K_becomes_131 : decode b_K_becomes 131 = .ok (.invokestatic 71, 3) := by decide +kernel
theorem d_K_becomes_134 : decode b_K_becomes 134 = .ok (.aload_n 0, 1) := by decide +kernel
theorem d_K_becomes_135 : decode b_K_becomes 135 = .ok (.aload_n 1, 1) := by decide +kernel
theorem d_K_becomes_136 : decode b_K_becomes 136 = .ok (.getfield 37, 3) := by decide +kernel
theorem d_K_becomes_139 : decode b_K_becomes 139 = .ok (.putfield 37, 3) := by decide +kernel
theorem d_K_becomes_142 : decode b_K_becomes 142 = .ok (.aload_n 0, 1) := by decide +kernel
theorem d_K_becomes_143 : decode b_K_becomes 143 = .ok (.aload_n 1, 1) := by decide +kernel
theorem d_K_becomes_144 : decode b_K_becomes 144 = .ok (.getfield 40, 3) := by decide +kernel
theorem d_K_becomes_147 : decode b_K_becomes 147 = .ok (.putfield 40, 3) := by decide +kernel
theorem d_K_becomes_150 : decode b_K_becomes 150 = .ok (.aload_n 0, 1) := by decide +kernel
theorem d_K_becomes_151 : decode b_K_becomes 151 = .ok (.aload_n 1, 1) := by decide +kernel
theorem d_K_becomes_152 : decode b_K_becomes 152 = .ok (.getfield 59, 3) := by decide +kernel
theorem d_K_becomes_155 : decode b_K_becomes 155 = .ok (.putfield 59, 3) := by decide +kernel
theorem d_K_becomes_158 : decode b_K_becomes 158 = .ok (.aload_n 0, 1) := by decide +kernel
theorem d_K_becomes_159 : decode b_K_becomes 159 = .ok (.aload_n 1, 1) := by decide +kernel
theorem d_K_becomes_160 : decode b_K_becomes 160 = .ok (.getfield 66, 3) := by decide +kernel
theorem d_K_becomes_163 : decode b_K_becomes 163 = .ok (.putfield 66, 3) := by decide +kernel
theorem d_K_becomes_166 : decode b_K_becomes 166 = .ok (.aload_n 0, 1) := by decide +kernel
theorem d_K_becomes_167 : decode b_K_becomes 167 = .ok (.aload_n 1, 1) := by decide +kernel
theorem d_K_becomes_168 : decode b_K_becomes 168 = .ok (.getfield 70, 3) := by decide +kernel
theorem d_K_becomes_171 : decode b_K_becomes 171 = .ok (.putfield 70, 3) := by decide +kernel
theorem d_K_becomes_174 : decode b_K_becomes 174 = .ok (.return_, 1) := by decide +kernel
theorem d_K_hold_0 : decode b_K_hold 0 = .ok (.aload_n 0, 1) := by decide +kernel
theorem d_K_hold_1 : decode b_K_hold 1 = .ok (.aload_n 1, 1) := by decide +kernel
theorem d_K_hold_2 : decode b_K_hold 2 = .ok (.putfield 59, 3) := by decide +kernel
theorem d_K_hold_5 : decode b_K_hold 5 = .ok (.aload_n 0, 1) := by decide +kernel
theorem d_K_hold_6 : decode b_K_hold 6 = .ok (.aload_n 1, 1) := by decide +kernel
theorem d_K_hold_7 : decode b_K_hold 7 = .ok (.getfield 63, 3) := by decide +kernel
theorem d_K_hold_10 : decode b_K_hold 10 = .ok (.putfield 66, 3) := by decide +kernel
theorem d_K_hold_13 : decode b_K_hold 13 = .ok (.aload_n 0, 1) := by decide +kernel
theorem d_K_hold_14 : decode b_K_hold 14 = .ok (.aload_n 1, 1) := by decide +kernel
theorem d_K_hold_15 : decode b_K_hold 15 = .ok (.getfield 67, 3) := by decide +kernel
theorem d_K_hold_18 : decode b_K_hold 18 = .ok (.putfield 70, 3) := by decide +kernel
theorem d_K_hold_21 : decode b_K_hold 21 = .ok (.return_, 1) := by decide +kernel
theorem d_K_admit_0 : decode b_K_admit 0 = .ok (.aload_n 0, 1) := by decide +kernel
theorem d_K_admit_1 : decode b_K_admit 1 = .ok (.getfield 9, 3) := by decide +kernel
theorem d_K_admit_4 : decode b_K_admit 4 = .ok (.istore 4, 2) := by decide +kernel
theorem d_K_admit_6 : decode b_K_admit 6 = .ok (.aload_n 0, 1) := by decide +kernel
theorem d_K_admit_7 : decode b_K_admit 7 = .ok (.getfield 15, 3) := by decide +kernel
theorem d_K_admit_10 : decode b_K_admit 10 = .ok (.iload 4, 2) := by decide +kernel
theorem d_K_admit_12 : decode b_K_admit 12 = .ok (.iload_n 1, 1) := by decide +kernel
theorem d_K_admit_13 : decode b_K_admit 13 = .ok (.iastore, 1) := by decide +kernel
theorem d_K_admit_14 : decode b_K_admit 14 = .ok (.aload_n 0, 1) := by decide +kernel
theorem d_K_admit_15 : decode b_K_admit 15 = .ok (.getfield 19, 3) := by decide +kernel
theorem d_K_admit_18 : decode b_K_admit 18 = .ok (.iload 4, 2) := by decide +kernel
theorem d_K_admit_20 : decode b_K_admit 20 = .ok (.iload_n 2, 1) := by decide +kernel
theorem d_K_admit_21 : decode b_K_admit 21 = .ok (.iastore, 1) := by decide +kernel
theorem d_K_admit_22 : decode b_K_admit 22 = .ok (.aload_n 0, 1) := by decide +kernel
theorem d_K_admit_23 : decode b_K_admit 23 = .ok (.getfield 22, 3) := by decide +kernel
theorem d_K_admit_26 : decode b_K_admit 26 = .ok (.iload 4, 2) := by decide +kernel
theorem d_K_admit_28 : decode b_K_admit 28 = .ok (.iload_n 3, 1) := by decide +kernel
theorem d_K_admit_29 : decode b_K_admit 29 = .ok (.iastore, 1) := by decide +kernel
theorem d_K_admit_30 : decode b_K_admit 30 = .ok (.aload_n 0, 1) := by decide +kernel
theorem d_K_admit_31 : decode b_K_admit 31 = .ok (.getfield 25, 3) := by decide +kernel
theorem d_K_admit_34 : decode b_K_admit 34 = .ok (.iload 4, 2) := by decide +kernel
theorem d_K_admit_36 : decode b_K_admit 36 = .ok (.iconst 0, 1) := by decide +kernel
theorem d_K_admit_37 : decode b_K_admit 37 = .ok (.iastore, 1) := by decide +kernel
theorem d_K_admit_38 : decode b_K_admit 38 = .ok (.aload_n 0, 1) := by decide +kernel
theorem d_K_admit_39 : decode b_K_admit 39 = .ok (.getfield 28, 3) := by decide +kernel
theorem d_K_admit_42 : decode b_K_admit 42 = .ok (.iload 4, 2) := by decide +kernel
theorem d_K_admit_44 : decode b_K_admit 44 = .ok (.iconst 0, 1) := by decide +kernel
theorem d_K_admit_45 : decode b_K_admit 45 = .ok (.iastore, 1) := by decide +kernel
theorem d_K_admit_46 : decode b_K_admit 46 = .ok (.aload_n 0, 1) := by decide +kernel
theorem d_K_admit_47 : decode b_K_admit 47 = .ok (.getfield 31, 3) := by decide +kernel
theorem d_K_admit_50 : decode b_K_admit 50 = .ok (.iload 4, 2) := by decide +kernel
theorem d_K_admit_52 : decode b_K_admit 52 = .ok (.iconst 0, 1) := by decide +kernel
theorem d_K_admit_53 : decode b_K_admit 53 = .ok (.iastore, 1) := by decide +kernel
theorem d_K_admit_54 : decode b_K_admit 54 = .ok (.iconst 0, 1) := by decide +kernel
theorem d_K_admit_55 : decode b_K_admit 55 = .ok (.istore 5, 2) := by decide +kernel
theorem d_K_admit_57 : decode b_K_admit 57 = .ok (.iload 5, 2) := by decide +kernel
theorem d_K_admit_59 : decode b_K_admit 59 = .ok (.iconst 4, 1) := by decide +kernel
theorem d_K_admit_60 : decode b_K_admit 60 = .ok (.if_icmp .ge 22, 3) := by decide +kernel
theorem d_K_admit_63 : decode b_K_admit 63 = .ok (.aload_n 0, 1) := by decide +kernel
theorem d_K_admit_64 : decode b_K_admit 64 = .ok (.getfield 34, 3) := by decide +kernel
theorem d_K_admit_67 : decode b_K_admit 67 = .ok (.iload 4, 2) := by decide +kernel
theorem d_K_admit_69 : decode b_K_admit 69 = .ok (.iconst 4, 1) := by decide +kernel
theorem d_K_admit_70 : decode b_K_admit 70 = .ok (.imul, 1) := by decide +kernel
theorem d_K_admit_71 : decode b_K_admit 71 = .ok (.iload 5, 2) := by decide +kernel
theorem d_K_admit_73 : decode b_K_admit 73 = .ok (.iadd, 1) := by decide +kernel
theorem d_K_admit_74 : decode b_K_admit 74 = .ok (.iconst 0, 1) := by decide +kernel
theorem d_K_admit_75 : decode b_K_admit 75 = .ok (.iastore, 1) := by decide +kernel
theorem d_K_admit_76 : decode b_K_admit 76 = .ok (.iinc 5 1, 3) := by decide +kernel
theorem d_K_admit_79 : decode b_K_admit 79 = .ok (.goto (-22), 3) := by decide +kernel
theorem d_K_admit_82 : decode b_K_admit 82 = .ok (.aload_n 0, 1) := by decide +kernel
theorem d_K_admit_83 : decode b_K_admit 83 = .ok (.dup, 1) := by decide +kernel
theorem d_K_admit_84 : decode b_K_admit 84 = .ok (.getfield 9, 3) := by decide +kernel
theorem d_K_admit_87 : decode b_K_admit 87 = .ok (.iconst 1, 1) := by decide +kernel
theorem d_K_admit_88 : decode b_K_admit 88 = .ok (.iadd, 1) := by decide +kernel
theorem d_K_admit_89 : decode b_K_admit 89 = .ok (.putfield 9, 3) := by decide +kernel
theorem d_K_admit_92 : decode b_K_admit 92 = .ok (.iload 4, 2) := by decide +kernel
theorem d_K_admit_94 : decode b_K_admit 94 = .ok (.ireturn, 1) := by decide +kernel
theorem d_K_wants_0 : decode b_K_wants 0 = .ok (.aload_n 0, 1) := by decide +kernel
theorem d_K_wants_1 : decode b_K_wants 1 = .ok (.getfield 22, 3) := by decide +kernel
theorem d_K_wants_4 : decode b_K_wants 4 = .ok (.iload_n 1, 1) := by decide +kernel
theorem d_K_wants_5 : decode b_K_wants 5 = .ok (.iaload, 1) := by decide +kernel
theorem d_K_wants_6 : decode b_K_wants 6 = .ok (.aload_n 0, 1) := by decide +kernel
theorem d_K_wants_7 : decode b_K_wants 7 = .ok (.getfield 59, 3) := by decide +kernel
theorem d_K_wants_10 : decode b_K_wants 10 = .ok (.iconst 0, 1) := by decide +kernel
theorem d_K_wants_11 : decode b_K_wants 11 = .ok (.aload_n 0, 1) := by decide +kernel
theorem d_K_wants_12 : decode b_K_wants 12 = .ok (.iload_n 1, 1) := by decide +kernel
theorem d_K_wants_13 : decode b_K_wants 13 = .ok (.invokevirtual 77, 3) := by decide +kernel
theorem d_K_wants_16 : decode b_K_wants 16 = .ok (.invokevirtual 81, 3) := by decide +kernel
theorem d_K_wants_19 : decode b_K_wants 19 = .ok (.iadd, 1) := by decide +kernel
theorem d_K_wants_20 : decode b_K_wants 20 = .ok (.ireturn, 1) := by decide +kernel
theorem d_K_pay_0 : decode b_K_pay 0 = .ok (.aload_n 0, 1) := by decide +kernel
theorem d_K_pay_1 : decode b_K_pay 1 = .ok (.getfield 59, 3) := by decide +kernel
theorem d_K_pay_4 : decode b_K_pay 4 = .ok (.iconst 3, 1) := by decide +kernel
theorem d_K_pay_5 : decode b_K_pay 5 = .ok (.aload_n 0, 1) := by decide +kernel
theorem d_K_pay_6 : decode b_K_pay 6 = .ok (.iload_n 1, 1) := by decide +kernel
theorem d_K_pay_7 : decode b_K_pay 7 = .ok (.invokevirtual 77, 3) := by decide +kernel
theorem d_K_pay_10 : decode b_K_pay 10 = .ok (.invokevirtual 81, 3) := by decide +kernel
theorem d_K_pay_13 : decode b_K_pay 13 = .ok (.ireturn, 1) := by decide +kernel
theorem d_K_factsOf_0 : decode b_K_factsOf 0 = .ok (.aload_n 0, 1) := by decide +kernel
theorem d_K_factsOf_1 : decode b_K_factsOf 1 = .ok (.getfield 56, 3) := by decide +kernel
theorem d_K_factsOf_4 : decode b_K_factsOf 4 = .ok (.iconst 0, 1) := by decide +kernel
theorem d_K_factsOf_5 : decode b_K_factsOf 5 = .ok (.iload_n 1, 1) := by decide +kernel
theorem d_K_factsOf_6 : decode b_K_factsOf 6 = .ok (.iastore, 1) := by decide +kernel
theorem d_K_factsOf_7 : decode b_K_factsOf 7 = .ok (.aload_n 0, 1) := by decide +kernel
theorem d_K_factsOf_8 : decode b_K_factsOf 8 = .ok (.getfield 56, 3) := by decide +kernel
theorem d_K_factsOf_11 : decode b_K_factsOf 11 = .ok (.iconst 1, 1) := by decide +kernel
theorem d_K_factsOf_12 : decode b_K_factsOf 12 = .ok (.aload_n 0, 1) := by decide +kernel
theorem d_K_factsOf_13 : decode b_K_factsOf 13 = .ok (.getfield 15, 3) := by decide +kernel
theorem d_K_factsOf_16 : decode b_K_factsOf 16 = .ok (.iload_n 1, 1) := by decide +kernel
theorem d_K_factsOf_17 : decode b_K_factsOf 17 = .ok (.iaload, 1) := by decide +kernel
theorem d_K_factsOf_18 : decode b_K_factsOf 18 = .ok (.iastore, 1) := by decide +kernel
theorem d_K_factsOf_19 : decode b_K_factsOf 19 = .ok (.aload_n 0, 1) := by decide +kernel
theorem d_K_factsOf_20 : decode b_K_factsOf 20 = .ok (.getfield 56, 3) := by decide +kernel
theorem d_K_factsOf_23 : decode b_K_factsOf 23 = .ok (.iconst 2, 1) := by decide +kernel
theorem d_K_factsOf_24 : decode b_K_factsOf 24 = .ok (.aload_n 0, 1) := by decide +kernel
theorem d_K_factsOf_25 : decode b_K_factsOf 25 = .ok (.getfield 19, 3) := by decide +kernel
theorem d_K_factsOf_28 : decode b_K_factsOf 28 = .ok (.iload_n 1, 1) := by decide +kernel
theorem d_K_factsOf_29 : decode b_K_factsOf 29 = .ok (.iaload, 1) := by decide +kernel
theorem d_K_factsOf_30 : decode b_K_factsOf 30 = .ok (.iastore, 1) := by decide +kernel
theorem d_K_factsOf_31 : decode b_K_factsOf 31 = .ok (.aload_n 0, 1) := by decide +kernel
theorem d_K_factsOf_32 : decode b_K_factsOf 32 = .ok (.getfield 56, 3) := by decide +kernel
theorem d_K_factsOf_35 : decode b_K_factsOf 35 = .ok (.iconst 3, 1) := by decide +kernel
theorem d_K_factsOf_36 : decode b_K_factsOf 36 = .ok (.aload_n 0, 1) := by decide +kernel
theorem d_K_factsOf_37 : decode b_K_factsOf 37 = .ok (.getfield 37, 3) := by decide +kernel
theorem d_K_factsOf_40 : decode b_K_factsOf 40 = .ok (.bipush 10, 2) := by decide +kernel
theorem d_K_factsOf_42 : decode b_K_factsOf 42 = .ok (.idiv, 1) := by decide +kernel
theorem d_K_factsOf_43 : decode b_K_factsOf 43 = .ok (.iastore, 1) := by decide +kernel
theorem d_K_factsOf_44 : decode b_K_factsOf 44 = .ok (.aload_n 0, 1) := by decide +kernel
theorem d_K_factsOf_45 : decode b_K_factsOf 45 = .ok (.getfield 56, 3) := by decide +kernel
theorem d_K_factsOf_48 : decode b_K_factsOf 48 = .ok (.iconst 4, 1) := by decide +kernel
theorem d_K_factsOf_49 : decode b_K_factsOf 49 = .ok (.aload_n 0, 1) := by decide +kernel
theorem d_K_factsOf_50 : decode b_K_factsOf 50 = .ok (.getfield 40, 3) := by decide +kernel
theorem d_K_factsOf_53 : decode b_K_factsOf 53 = .ok (.bipush 7, 2) := by decide +kernel
theorem d_K_factsOf_55 : decode b_K_factsOf 55 = .ok (.irem, 1) := by decide +kernel
theorem d_K_factsOf_56 : decode b_K_factsOf 56 = .ok (.iastore, 1) := by decide +kernel
theorem d_K_factsOf_57 : decode b_K_factsOf 57 = .ok (.aload_n 0, 1) := by decide +kernel
theorem d_K_factsOf_58 : decode b_K_factsOf 58 = .ok (.getfield 56, 3) := by decide +kernel
theorem d_K_factsOf_61 : decode b_K_factsOf 61 = .ok (.iconst 5, 1) := by decide +kernel
theorem d_K_factsOf_62 : decode b_K_factsOf 62 = .ok (.aload_n 0, 1) := by decide +kernel
theorem d_K_factsOf_63 : decode b_K_factsOf 63 = .ok (.getfield 28, 3) := by decide +kernel
theorem d_K_factsOf_66 : decode b_K_factsOf 66 = .ok (.iload_n 1, 1) := by decide +kernel
theorem d_K_factsOf_67 : decode b_K_factsOf 67 = .ok (.iaload, 1) := by decide +kernel
theorem d_K_factsOf_68 : decode b_K_factsOf 68 = .ok (.bipush 100, 2) := by decide +kernel
theorem d_K_factsOf_70 : decode b_K_factsOf 70 = .ok (.irem, 1) := by decide +kernel
theorem d_K_factsOf_71 : decode b_K_factsOf 71 = .ok (.iastore, 1) := by decide +kernel
theorem d_K_factsOf_72 : decode b_K_factsOf 72 = .ok (.aload_n 0, 1) := by decide +kernel
theorem d_K_factsOf_73 : decode b_K_factsOf 73 = .ok (.getfield 56, 3) := by decide +kernel
theorem d_K_factsOf_76 : decode b_K_factsOf 76 = .ok (.areturn, 1) := by decide +kernel
theorem d_K_taking_0 : decode b_K_taking 0 = .ok (.iload_n 1, 1) := by decide +kernel
theorem d_K_taking_1 : decode b_K_taking 1 = .ok (.ifCond .lt 11, 3) := by decide +kernel
theorem d_K_taking_4 : decode b_K_taking 4 = .ok (.iload_n 1, 1) := by decide +kernel
theorem d_K_taking_5 : decode b_K_taking 5 = .ok (.aload_n 0, 1) := by decide +kernel
theorem d_K_taking_6 : decode b_K_taking 6 = .ok (.getfield 9, 3) := by decide +kernel
theorem d_K_taking_9 : decode b_K_taking 9 = .ok (.if_icmp .lt 5, 3) := by decide +kernel
theorem d_K_taking_12 : decode b_K_taking 12 = .ok (.iconst 0, 1) := by decide +kernel
theorem d_K_taking_13 : decode b_K_taking 13 = .ok (.ireturn, 1) := by decide +kernel
theorem d_K_taking_14 : decode b_K_taking 14 = .ok (.aload_n 0, 1) := by decide +kernel
theorem d_K_taking_15 : decode b_K_taking 15 = .ok (.iload_n 1, 1) := by decide +kernel
theorem d_K_taking_16 : decode b_K_taking 16 = .ok (.invokevirtual 85, 3) := by decide +kernel
theorem d_K_taking_19 : decode b_K_taking 19 = .ok (.istore_n 2, 1) := by decide +kernel
theorem d_K_taking_20 : decode b_K_taking 20 = .ok (.aload_n 0, 1) := by decide +kernel
theorem d_K_taking_21 : decode b_K_taking 21 = .ok (.iload_n 1, 1) := by decide +kernel
theorem d_K_taking_22 : decode b_K_taking 22 = .ok (.iload_n 2, 1) := by decide +kernel
theorem d_K_taking_23 : decode b_K_taking 23 = .ok (.invokevirtual 89, 3) := by decide +kernel
theorem d_K_taking_26 : decode b_K_taking 26 = .ok (.ifCond .eq 8, 3) := by decide +kernel
theorem d_K_taking_29 : decode b_K_taking 29 = .ok (.aload_n 0, 1) := by decide +kernel
theorem d_K_taking_30 : decode b_K_taking 30 = .ok (.iload_n 1, 1) := by decide +kernel
theorem d_K_taking_31 : decode b_K_taking 31 = .ok (.invokevirtual 93, 3) := by decide +kernel
theorem d_K_taking_34 : decode b_K_taking 34 = .ok (.aload_n 0, 1) := by decide +kernel
theorem d_K_taking_35 : decode b_K_taking 35 = .ok (.iload_n 1, 1) := by decide +kernel
theorem d_K_taking_36 : decode b_K_taking 36 = .ok (.iload_n 2, 1) := by decide +kernel
theorem d_K_taking_37 : decode b_K_taking 37 = .ok (.invokevirtual 97, 3) := by decide +kernel
theorem d_K_taking_40 : decode b_K_taking 40 = .ok (.istore_n 3, 1) := by decide +kernel
theorem d_K_taking_41 : decode b_K_taking 41 = .ok (.iload_n 3, 1) := by decide +kernel
theorem d_K_taking_42 : decode b_K_taking 42 = .ok (.iconst 1, 1) := by decide +kernel
theorem d_K_taking_43 : decode b_K_taking 43 = .ok (.if_icmp .lt 13, 3) := by decide +kernel
theorem d_K_taking_46 : decode b_K_taking 46 = .ok (.aload_n 0, 1) := by decide +kernel
theorem d_K_taking_47 : decode b_K_taking 47 = .ok (.getfield 25, 3) := by decide +kernel
theorem d_K_taking_50 : decode b_K_taking 50 = .ok (.iload_n 1, 1) := by decide +kernel
theorem d_K_taking_51 : decode b_K_taking 51 = .ok (.dup2, 1) := by decide +kernel
theorem d_K_taking_52 : decode b_K_taking 52 = .ok (.iaload, 1) := by decide +kernel
theorem d_K_taking_53 : decode b_K_taking 53 = .ok (.iconst 1, 1) := by decide +kernel
theorem d_K_taking_54 : decode b_K_taking 54 = .ok (.iadd, 1) := by decide +kernel
theorem d_K_taking_55 : decode b_K_taking 55 = .ok (.iastore, 1) := by decide +kernel
theorem d_K_taking_56 : decode b_K_taking 56 = .ok (.aload_n 0, 1) := by decide +kernel
theorem d_K_taking_57 : decode b_K_taking 57 = .ok (.dup, 1) := by decide +kernel
theorem d_K_taking_58 : decode b_K_taking 58 = .ok (.getfield 37, 3) := by decide +kernel
theorem d_K_taking_61 : decode b_K_taking 61 = .ok (.iload_n 3, 1) := by decide +kernel
theorem d_K_taking_62 : decode b_K_taking 62 = .ok (.isub, 1) := by decide +kernel
theorem d_K_taking_63 : decode b_K_taking 63 = .ok (.putfield 37, 3) := by decide +kernel
theorem d_K_taking_66 : decode b_K_taking 66 = .ok (.aload_n 0, 1) := by decide +kernel
theorem d_K_taking_67 : decode b_K_taking 67 = .ok (.aload_n 0, 1) := by decide +kernel
theorem d_K_taking_68 : decode b_K_taking 68 = .ok (.getfield 37, 3) := by decide +kernel
theorem d_K_taking_71 : decode b_K_taking 71 = .ok (.putfield 43, 3) := by decide +kernel
theorem d_K_taking_74 : decode b_K_taking 74 = .ok (.aload_n 0, 1) := by decide +kernel
theorem d_K_taking_75 : decode b_K_taking 75 = .ok (.getfield 37, 3) := by decide +kernel
theorem d_K_taking_78 : decode b_K_taking 78 = .ok (.aload_n 0, 1) := by decide +kernel
theorem d_K_taking_79 : decode b_K_taking 79 = .ok (.getfield 66, 3) := by decide +kernel
theorem d_K_taking_82 : decode b_K_taking 82 = .ok (.if_icmp .ge 8, 3) := by decide +kernel
theorem d_K_taking_85 : decode b_K_taking 85 = .ok (.aload_n 0, 1) := by decide +kernel
theorem d_K_taking_86 : decode b_K_taking 86 = .ok (.iload_n 1, 1) := by decide +kernel
theorem d_K_taking_87 : decode b_K_taking 87 = .ok (.invokevirtual 93, 3) := by decide +kernel
theorem d_K_taking_90 : decode b_K_taking 90 = .ok (.iload_n 3, 1) := by decide +kernel
theorem d_K_taking_91 : decode b_K_taking 91 = .ok (.ireturn, 1) := by decide +kernel
theorem d_K_fetchesFirst_0 : decode b_K_fetchesFirst 0 = .ok (.aload_n 0, 1) := by decide +kernel
theorem d_K_fetchesFirst_1 : decode b_K_fetchesFirst 1 = .ok (.getfield 15, 3) := by decide +kernel
theorem d_K_fetchesFirst_4 : decode b_K_fetchesFirst 4 = .ok (.iload_n 1, 1) := by decide +kernel
theorem d_K_fetchesFirst_5 : decode b_K_fetchesFirst 5 = .ok (.iaload, 1) := by decide +kernel
theorem d_K_fetchesFirst_6 : decode b_K_fetchesFirst 6 = .ok (.lookupswitch 76 #[(3, 26), (6, 45)], 26) := by decide +kernel
theorem d_K_fetchesFirst_32 : decode b_K_fetchesFirst 32 = .ok (.aload_n 0, 1) := by decide +kernel
theorem d_K_fetchesFirst_33 : decode b_K_fetchesFirst 33 = .ok (.getfield 37, 3) := by decide +kernel
theorem d_K_fetchesFirst_36 : decode b_K_fetchesFirst 36 = .ok (.iload_n 2, 1) := by decide +kernel
theorem d_K_fetchesFirst_37 : decode b_K_fetchesFirst 37 = .ok (.aload_n 0, 1) := by decide +kernel
theorem d_K_fetchesFirst_38 : decode b_K_fetchesFirst 38 = .ok (.getfield 66, 3) := by decide +kernel
theorem d_K_fetchesFirst_41 : decode b_K_fetchesFirst 41 = .ok (.iadd, 1) := by decide +kernel
theorem d_K_fetchesFirst_42 : decode b_K_fetchesFirst 42 = .ok (.if_icmp .ge 7, 3) := by decide +kernel
theorem d_K_fetchesFirst_45 : decode b_K_fetchesFirst 45 = .ok (.iconst 1, 1) := by decide +kernel
theorem d_K_fetchesFirst_46 : decode b_K_fetchesFirst 46 = .ok (.goto 4, 3) := by decide +kernel
theorem d_K_fetchesFirst_49 : decode b_K_fetchesFirst 49 = .ok (.iconst 0, 1) := by decide +kernel
theorem d_K_fetchesFirst_50 : decode b_K_fetchesFirst 50 = .ok (.ireturn, 1) := by decide +kernel
theorem d_K_fetchesFirst_51 : decode b_K_fetchesFirst 51 = .ok (.aload_n 0, 1) := by decide +kernel
theorem d_K_fetchesFirst_52 : decode b_K_fetchesFirst 52 = .ok (.getfield 37, 3) := by decide +kernel
theorem d_K_fetchesFirst_55 : decode b_K_fetchesFirst 55 = .ok (.bipush 10, 2) := by decide +kernel
theorem d_K_fetchesFirst_57 : decode b_K_fetchesFirst 57 = .ok (.aload_n 0, 1) := by decide +kernel
theorem d_K_fetchesFirst_58 : decode b_K_fetchesFirst 58 = .ok (.getfield 34, 3) := by decide +kernel
theorem d_K_fetchesFirst_61 : decode b_K_fetchesFirst 61 = .ok (.iload_n 1, 1) := by decide +kernel
theorem d_K_fetchesFirst_62 : decode b_K_fetchesFirst 62 = .ok (.iconst 4, 1) := by decide +kernel
theorem d_K_fetchesFirst_63 : decode b_K_fetchesFirst 63 = .ok (.imul, 1) := by decide +kernel
theorem d_K_fetchesFirst_64 : decode b_K_fetchesFirst 64 = .ok (.aload_n 0, 1) := by decide +kernel
theorem d_K_fetchesFirst_65 : decode b_K_fetchesFirst 65 = .ok (.getfield 40, 3) := by decide +kernel
theorem d_K_fetchesFirst_68 : decode b_K_fetchesFirst 68 = .ok (.iconst 4, 1) := by decide +kernel
theorem d_K_fetchesFirst_69 : decode b_K_fetchesFirst 69 = .ok (.irem, 1) := by decide +kernel
theorem d_K_fetchesFirst_70 : decode b_K_fetchesFirst 70 = .ok (.iadd, 1) := by decide +kernel
theorem d_K_fetchesFirst_71 : decode b_K_fetchesFirst 71 = .ok (.iaload, 1) := by decide +kernel
theorem d_K_fetchesFirst_72 : decode b_K_fetchesFirst 72 = .ok (.imul, 1) := by decide +kernel
theorem d_K_fetchesFirst_73 : decode b_K_fetchesFirst 73 = .ok (.if_icmp .ge 7, 3) := by decide +kernel
theorem d_K_fetchesFirst_76 : decode b_K_fetchesFirst 76 = .ok (.iconst 1, 1) := by decide +kernel
theorem d_K_fetchesFirst_77 : decode b_K_fetchesFirst 77 = .ok (.goto 4, 3) := by decide +kernel
theorem d_K_fetchesFirst_80 : decode b_K_fetchesFirst 80 = .ok (.iconst 0, 1) := by decide +kernel
theorem d_K_fetchesFirst_81 : decode b_K_fetchesFirst 81 = .ok (.ireturn, 1) := by decide +kernel
theorem d_K_fetchesFirst_82 : decode b_K_fetchesFirst 82 = .ok (.iconst 0, 1) := by decide +kernel
theorem d_K_fetchesFirst_83 : decode b_K_fetchesFirst 83 = .ok (.ireturn, 1) := by decide +kernel
theorem d_K_fetch_0 : decode b_K_fetch 0 = .ok (.aload_n 0, 1) := by decide +kernel
theorem d_K_fetch_1 : decode b_K_fetch 1 = .ok (.getfield 31, 3) := by decide +kernel
theorem d_K_fetch_4 : decode b_K_fetch 4 = .ok (.iload_n 1, 1) := by decide +kernel
theorem d_K_fetch_5 : decode b_K_fetch 5 = .ok (.dup2, 1) := by decide +kernel
theorem d_K_fetch_6 : decode b_K_fetch 6 = .ok (.iaload, 1) := by decide +kernel
theorem d_K_fetch_7 : decode b_K_fetch 7 = .ok (.aload_n 0, 1) := by decide +kernel
theorem d_K_fetch_8 : decode b_K_fetch 8 = .ok (.iload_n 1, 1) := by decide +kernel
theorem d_K_fetch_9 : decode b_K_fetch 9 = .ok (.invokevirtual 101, 3) := by decide +kernel
theorem d_K_fetch_12 : decode b_K_fetch 12 = .ok (.iadd, 1) := by decide +kernel
theorem d_K_fetch_13 : decode b_K_fetch 13 = .ok (.iastore, 1) := by decide +kernel
theorem d_K_fetch_14 : decode b_K_fetch 14 = .ok (.aload_n 0, 1) := by decide +kernel
theorem d_K_fetch_15 : decode b_K_fetch 15 = .ok (.aload_n 0, 1) := by decide +kernel
theorem d_K_fetch_16 : decode b_K_fetch 16 = .ok (.getfield 70, 3) := by decide +kernel
theorem d_K_fetch_19 : decode b_K_fetch 19 = .ok (.putfield 37, 3) := by decide +kernel
theorem d_K_fetch_22 : decode b_K_fetch 22 = .ok (.aload_n 0, 1) := by decide +kernel
theorem d_K_fetch_23 : decode b_K_fetch 23 = .ok (.getfield 28, 3) := by decide +kernel
theorem d_K_fetch_26 : decode b_K_fetch 26 = .ok (.iload_n 1, 1) := by decide +kernel
theorem d_K_fetch_27 : decode b_K_fetch 27 = .ok (.dup2, 1) := by decide +kernel
theorem d_K_fetch_28 : decode b_K_fetch 28 = .ok (.iaload, 1) := by decide +kernel
theorem d_K_fetch_29 : decode b_K_fetch 29 = .ok (.iconst 1, 1) := by decide +kernel
theorem d_K_fetch_30 : decode b_K_fetch 30 = .ok (.iadd, 1) := by decide +kernel
theorem d_K_fetch_31 : decode b_K_fetch 31 = .ok (.iastore, 1) := by decide +kernel
theorem d_K_fetch_32 : decode b_K_fetch 32 = .ok (.return_, 1) := by decide +kernel
theorem d_K_amount_0 : decode b_K_amount 0 = .ok (.aload_n 0, 1) := by decide +kernel
theorem d_K_amount_1 : decode b_K_amount 1 = .ok (.getfield 15, 3) := by decide +kernel
theorem d_K_amount_4 : decode b_K_amount 4 = .ok (.iload_n 1, 1) := by decide +kernel
theorem d_K_amount_5 : decode b_K_amount 5 = .ok (.iaload, 1) := by decide +kernel
theorem d_K_amount_6 : decode b_K_amount 6 = .ok (.tableswitch 89 1 5 #[34, 67, 89, 45, 58], 34) := by decide +kernel
theorem d_K_amount_40 : decode b_K_amount 40 = .ok (.aload_n 0, 1) := by decide +kernel
theorem d_K_amount_41 : decode b_K_amount 41 = .ok (.getfield 37, 3) := by decide +kernel
theorem d_K_amount_44 : decode b_K_amount 44 = .ok (.iconst 2, 1) := by decide +kernel
theorem d_K_amount_45 : decode b_K_amount 45 = .ok (.idiv, 1) := by decide +kernel
theorem d_K_amount_46 : decode b_K_amount 46 = .ok (.iload_n 2, 1) := by decide +kernel
theorem d_K_amount_47 : decode b_K_amount 47 = .ok (.invokestatic 104, 3) := by decide +kernel
theorem d_K_amount_50 : decode b_K_amount 50 = .ok (.ireturn, 1) := by decide +kernel
theorem d_K_amount_51 : decode b_K_amount 51 = .ok (.aload_n 0, 1) := by decide +kernel
theorem d_K_amount_52 : decode b_K_amount 52 = .ok (.getfield 37, 3) := by decide +kernel
theorem d_K_amount_55 : decode b_K_amount 55 = .ok (.iconst 2, 1) := by decide +kernel
theorem d_K_amount_56 : decode b_K_amount 56 = .ok (.idiv, 1) := by decide +kernel
theorem d_K_amount_57 : decode b_K_amount 57 = .ok (.iconst 2, 1) := by decide +kernel
theorem d_K_amount_58 : decode b_K_amount 58 = .ok (.iload_n 2, 1) := by decide +kernel
theorem d_K_amount_59 : decode b_K_amount 59 = .ok (.imul, 1) := by decide +kernel
theorem d_K_amount_60 : decode b_K_amount 60 = .ok (.invokestatic 104, 3) := by decide +kernel
theorem d_K_amount_63 : decode b_K_amount 63 = .ok (.ireturn, 1) := by decide +kernel
theorem d_K_amount_64 : decode b_K_amount 64 = .ok (.iload_n 2, 1) := by decide +kernel
theorem d_K_amount_65 : decode b_K_amount 65 = .ok (.aload_n 0, 1) := by decide +kernel
theorem d_K_amount_66 : decode b_K_amount 66 = .ok (.getfield 37, 3) := by decide +kernel
theorem d_K_amount_69 : decode b_K_amount 69 = .ok (.invokestatic 104, 3) := by decide +kernel
theorem d_K_amount_72 : decode b_K_amount 72 = .ok (.ireturn, 1) := by decide +kernel
theorem d_K_amount_73 : decode b_K_amount 73 = .ok (.aload_n 0, 1) := by decide +kernel
theorem d_K_amount_74 : decode b_K_amount 74 = .ok (.aload_n 0, 1) := by decide +kernel
theorem d_K_amount_75 : decode b_K_amount 75 = .ok (.getfield 37, 3) := by decide +kernel
theorem d_K_amount_78 : decode b_K_amount 78 = .ok (.iconst 2, 1) := by decide +kernel
theorem d_K_amount_79 : decode b_K_amount 79 = .ok (.iload_n 2, 1) := by decide +kernel
theorem d_K_amount_80 : decode b_K_amount 80 = .ok (.imul, 1) := by decide +kernel
theorem d_K_amount_81 : decode b_K_amount 81 = .ok (.if_icmp .ge 9, 3) := by decide +kernel
theorem d_K_amount_84 : decode b_K_amount 84 = .ok (.iload_n 2, 1) := by decide +kernel
theorem d_K_amount_85 : decode b_K_amount 85 = .ok (.iconst 2, 1) := by decide +kernel
theorem d_K_amount_86 : decode b_K_amount 86 = .ok (.idiv, 1) := by decide +kernel
theorem d_K_amount_87 : decode b_K_amount 87 = .ok (.goto 4, 3) := by decide +kernel
theorem d_K_amount_90 : decode b_K_amount 90 = .ok (.iload_n 2, 1) := by decide +kernel
theorem d_K_amount_91 : decode b_K_amount 91 = .ok (.invokevirtual 109, 3) := by decide +kernel
theorem d_K_amount_94 : decode b_K_amount 94 = .ok (.ireturn, 1) := by decide +kernel
theorem d_K_amount_95 : decode b_K_amount 95 = .ok (.aload_n 0, 1) := by decide +kernel
theorem d_K_amount_96 : decode b_K_amount 96 = .ok (.iload_n 2, 1) := by decide +kernel
theorem d_K_amount_97 : decode b_K_amount 97 = .ok (.invokevirtual 109, 3) := by decide +kernel
theorem d_K_amount_100 : decode b_K_amount 100 = .ok (.ireturn, 1) := by decide +kernel
theorem d_K_downToLeast_0 : decode b_K_downToLeast 0 = .ok (.iload_n 1, 1) := by decide +kernel
theorem d_K_downToLeast_1 : decode b_K_downToLeast 1 = .ok (.aload_n 0, 1) := by decide +kernel
theorem d_K_downToLeast_2 : decode b_K_downToLeast 2 = .ok (.getfield 37, 3) := by decide +kernel
theorem d_K_downToLeast_5 : decode b_K_downToLeast 5 = .ok (.aload_n 0, 1) := by decide +kernel
theorem d_K_downToLeast_6 : decode b_K_downToLeast 6 = .ok (.getfield 66, 3) := by decide +kernel
theorem d_K_downToLeast_9 : decode b_K_downToLeast 9 = .ok (.isub, 1) := by decide +kernel
theorem d_K_downToLeast_10 : decode b_K_downToLeast 10 = .ok (.iconst 0, 1) := by decide +kernel
theorem d_K_downToLeast_11 : decode b_K_downToLeast 11 = .ok (.invokestatic 112, 3) := by decide +kernel
theorem d_K_downToLeast_14 : decode b_K_downToLeast 14 = .ok (.invokestatic 104, 3) := by decide +kernel
theorem d_K_downToLeast_17 : decode b_K_downToLeast 17 = .ok (.ireturn, 1) := by decide +kernel
theorem d_K_go_0 : decode b_K_go 0 = .ok (.aload_n 0, 1) := by decide +kernel
theorem d_K_go_1 : decode b_K_go 1 = .ok (.getfield 28, 3) := by decide +kernel
theorem d_K_go_4 : decode b_K_go 4 = .ok (.aload_n 0, 1) := by decide +kernel
theorem d_K_go_5 : decode b_K_go 5 = .ok (.getfield 9, 3) := by decide +kernel
theorem d_K_go_8 : decode b_K_go 8 = .ok (.invokestatic 115, 3) := by decide +kernel
theorem d_K_go_11 : decode b_K_go 11 = .ok (.istore 4, 2) := by decide +kernel
theorem d_K_go_13 : decode b_K_go 13 = .ok (.iconst 0, 1) := by decide +kernel
theorem d_K_go_14 : decode b_K_go 14 = .ok (.istore 5, 2) := by decide +kernel
theorem d_K_go_16 : decode b_K_go 16 = .ok (.iload 5, 2) := by decide +kernel
theorem d_K_go_18 : decode b_K_go 18 = .ok (.iload_n 1, 1) := by decide +kernel
theorem d_K_go_19 : decode b_K_go 19 = .ok (.if_icmp .ge 67, 3) := by decide +kernel
theorem d_K_go_22 : decode b_K_go 22 = .ok (.iload_n 2, 1) := by decide +kernel
theorem d_K_go_23 : decode b_K_go 23 = .ok (.iconst (-1), 1) := by decide +kernel
theorem d_K_go_24 : decode b_K_go 24 = .ok (.if_icmp .eq 9, 3) := by decide +kernel
theorem d_K_go_27 : decode b_K_go 27 = .ok (.aload_n 0, 1) := by decide +kernel
theorem d_K_go_28 : decode b_K_go 28 = .ok (.iload_n 2, 1) := by decide +kernel
theorem d_K_go_29 : decode b_K_go 29 = .ok (.invokevirtual 119, 3) := by decide +kernel
theorem d_K_go_32 : decode b_K_go 32 = .ok (.pop, 1) := by decide +kernel
theorem d_K_go_33 : decode b_K_go 33 = .ok (.iconst 0, 1) := by decide +kernel
theorem d_K_go_34 : decode b_K_go 34 = .ok (.istore 6, 2) := by decide +kernel
theorem d_K_go_36 : decode b_K_go 36 = .ok (.iload 6, 2) := by decide +kernel
theorem d_K_go_38 : decode b_K_go 38 = .ok (.aload_n 0, 1) := by decide +kernel
theorem d_K_go_39 : decode b_K_go 39 = .ok (.getfield 9, 3) := by decide +kernel
theorem d_K_go_42 : decode b_K_go 42 = .ok (.if_icmp .ge 28, 3) := by decide +kernel
theorem d_K_go_45 : decode b_K_go 45 = .ok (.iload 6, 2) := by decide +kernel
theorem d_K_go_47 : decode b_K_go 47 = .ok (.iload_n 2, 1) := by decide +kernel
theorem d_K_go_48 : decode b_K_go 48 = .ok (.if_icmp .eq 16, 3) := by decide +kernel
theorem d_K_go_51 : decode b_K_go 51 = .ok (.iload 6, 2) := by decide +kernel
theorem d_K_go_53 : decode b_K_go 53 = .ok (.iload_n 3, 1) := by decide +kernel
theorem d_K_go_54 : decode b_K_go 54 = .ok (.if_icmp .eq 10, 3) := by decide +kernel
theorem d_K_go_57 : decode b_K_go 57 = .ok (.aload_n 0, 1) := by decide +kernel
theorem d_K_go_58 : decode b_K_go 58 = .ok (.iload 6, 2) := by decide +kernel
theorem d_K_go_60 : decode b_K_go 60 = .ok (.invokevirtual 119, 3) := by decide +kernel
theorem d_K_go_63 : decode b_K_go 63 = .ok (.pop, 1) := by decide +kernel
theorem d_K_go_64 : decode b_K_go 64 = .ok (.iinc 6 1, 3) := by decide +kernel
theorem d_K_go_67 : decode b_K_go 67 = .ok (.goto (-31), 3) := by decide +kernel
theorem d_K_go_70 : decode b_K_go 70 = .ok (.aload_n 0, 1) := by decide +kernel
theorem d_K_go_71 : decode b_K_go 71 = .ok (.dup, 1) := by decide +kernel
theorem d_K_go_72 : decode b_K_go 72 = .ok (.getfield 40, 3) := by decide +kernel
theorem d_K_go_75 : decode b_K_go 75 = .ok (.iconst 1, 1) := by decide +kernel
theorem d_K_go_76 : decode b_K_go 76 = .ok (.iadd, 1) := by decide +kernel
theorem d_K_go_77 : decode b_K_go 77 = .ok (.putfield 40, 3) := by decide +kernel
theorem d_K_go_80 : decode b_K_go 80 = .ok (.iinc 5 1, 3) := by decide +kernel
theorem d_K_go_83 : decode b_K_go 83 = .ok (.goto (-67), 3) := by decide +kernel
theorem d_K_go_86 : decode b_K_go 86 = .ok (.aload_n 0, 1) := by decide +kernel
theorem d_K_go_87 : decode b_K_go 87 = .ok (.getfield 28, 3) := by decide +kernel
theorem d_K_go_90 : decode b_K_go 90 = .ok (.aload_n 0, 1) := by decide +kernel
theorem d_K_go_91 : decode b_K_go 91 = .ok (.getfield 9, 3) := by decide +kernel
theorem d_K_go_94 : decode b_K_go 94 = .ok (.invokestatic 115, 3) := by decide +kernel
theorem d_K_go_97 : decode b_K_go 97 = .ok (.iload 4, 2) := by decide +kernel
theorem d_K_go_99 : decode b_K_go 99 = .ok (.isub, 1) := by decide +kernel
theorem d_K_go_100 : decode b_K_go 100 = .ok (.ireturn, 1) := by decide +kernel
theorem d_N_init_0 : decode b_N_init 0 = .ok (.aload_n 0, 1) := by decide +kernel
theorem d_N_init_1 : decode b_N_init 1 = .ok (.invokespecial 3, 3) := by decide +kernel
theorem d_N_init_4 : decode b_N_init 4 = .ok (.aload_n 0, 1) := by decide +kernel
theorem d_N_init_5 : decode b_N_init 5 = .ok (.iconst 0, 1) := by decide +kernel
theorem d_N_init_6 : decode b_N_init 6 = .ok (.putfield 9, 3) := by decide +kernel
theorem d_N_init_9 : decode b_N_init 9 = .ok (.aload_n 0, 1) := by decide +kernel
theorem d_N_init_10 : decode b_N_init 10 = .ok (.bipush 6, 2) := by decide +kernel
theorem d_N_init_12 : decode b_N_init 12 = .ok (.newarray .int, 2) := by decide +kernel
theorem d_N_init_14 : decode b_N_init 14 = .ok (.putfield 15, 3) := by decide +kernel
theorem d_N_init_17 : decode b_N_init 17 = .ok (.aload_n 0, 1) := by decide +kernel
theorem d_N_init_18 : decode b_N_init 18 = .ok (.bipush 6, 2) := by decide +kernel
theorem d_N_init_20 : decode b_N_init 20 = .ok (.newarray .int, 2) := by decide +kernel
theorem d_N_init_22 : decode b_N_init 22 = .ok (.putfield 19, 3) := by decide +kernel
theorem d_N_init_25 : decode b_N_init 25 = .ok (.aload_n 0, 1) := by decide +kernel
theorem d_N_init_26 : decode b_N_init 26 = .ok (.iconst 0, 1) := by decide +kernel
theorem d_N_init_27 : decode b_N_init 27 = .ok (.putfield 22, 3) := by decide +kernel
theorem d_N_init_30 : decode b_N_init 30 = .ok (.aload_n 0, 1) := by decide +kernel
theorem d_N_init_31 : decode b_N_init 31 = .ok (.bipush 12, 2) := by decide +kernel
theorem d_N_init_33 : decode b_N_init 33 = .ok (.newarray .int, 2) := by decide +kernel
theorem d_N_init_35 : decode b_N_init 35 = .ok (.putfield 25, 3) := by decide +kernel
theorem d_N_init_38 : decode b_N_init 38 = .ok (.return_, 1) := by decide +kernel
theorem d_N_become_0 : decode b_N_become 0 = .ok (.aload_n 0, 1) := by decide +kernel
theorem d_N_become_1 : decode b_N_become 1 = .ok (.aload_n 1, 1) := by decide +kernel
theorem d_N_become_2 : decode b_N_become 2 = .ok (.getfield 9, 3) := by decide +kernel
theorem d_N_become_5 : decode b_N_become 5 = .ok (.putfield 9, 3) := by decide +kernel
theorem d_N_become_8 : decode b_N_become 8 = .ok (.aload_n 1, 1) := by decide +kernel
theorem d_N_become_9 : decode b_N_become 9 = .ok (.getfield 15, 3) := by decide +kernel
theorem d_N_become_12 : decode b_N_become 12 = .ok (.iconst 0, 1) := by decide +kernel
theorem d_N_become_13 : decode b_N_become 13 = .ok (.aload_n 0, 1) := by decide +kernel
theorem d_N_become_14 : decode b_N_become 14 = .ok (.getfield 15, 3) := by decide +kernel
theorem d_N_become_17 : decode b_N_become 17 = .ok (.iconst 0, 1) := by decide +kernel
theorem d_N_become_18 : decode b_N_become 18 = .ok (.aload_n 0, 1) := by decide +kernel
theorem d_N_become_19 : decode b_N_become 19 = .ok (.getfield 15, 3) := by decide +kernel
theorem d_N_become_22 : decode b_N_become 22 = .ok (.arraylength, 1) := by decide +kernel
theorem d_N_become_23 : decode b_N_become 23 = .ok (.invokestatic 28, 3) := by decide +kernel
theorem d_N_become_26 : decode b_N_become 26 = .ok (.aload_n 1, 1) := by decide +kernel
theorem d_N_become_27 : decode b_N_become 27 = .ok (.getfield 19, 3) := by decide +kernel
theorem d_N_become_30 : decode b_N_become 30 = .ok (.iconst 0, 1) := by decide +kernel
theorem d_N_become_31 : decode b_N_become 31 = .ok (.aload_n 0, 1) := by decide +kernel
theorem d_N_become_32 : decode b_N_become 32 = .ok (.getfield 19, 3) := by decide +kernel
theorem d_N_become_35 : decode b_N_become 35 = .ok (.iconst 0, 1) := by decide +kernel
theorem d_N_become_36 : decode b_N_become 36 = .ok (.aload_n 0, 1) := by decide +kernel
theorem d_N_become_37 : decode b_N_become 37 = .ok (.getfield 19, 3) := by decide +kernel
theorem d_N_become_40 : decode b_N_become 40 = .ok (.arraylength, 1) := by decide +kernel
theorem d_N_become_41 : decode b_N_become 41 = .ok (.invokestatic 28, 3) := by decide +kernel
theorem d_N_become_44 : decode b_N_become 44 = .ok (.aload_n 0, 1) := by decide +kernel
theorem d_N_become_45 : decode b_N_become 45 = .ok (.aload_n 1, 1) := by decide +kernel
theorem d_N_become_46 : decode b_N_become 46 = .ok (.getfield 22, 3) := by decide +kernel
theorem d_N_become_49 : decode b_N_become 49 = .ok (.putfield 22, 3) := by decide +kernel
theorem d_N_become_52 : decode b_N_become 52 = .ok (.aload_n 1, 1) := by decide +kernel
theorem d_N_become_53 : decode b_N_become 53 = .ok (.getfield 25, 3) := by decide +kernel
theorem d_N_become_56 : decode b_N_become 56 = .ok (.iconst 0, 1) := by decide +kernel
theorem d_N_become_57 : decode b_N_become 57 = .ok (.aload_n 0, 1) := by decide +kernel
theorem d_N_become_58 : decode b_N_become 58 = .ok (.getfield 25, 3) := by decide +kernel
theorem d_N_become_61 : decode b_N_become 61 = .ok (.iconst 0, 1) := by decide +kernel
theorem d_N_become_62 : decode b_N_become 62 = .ok (.aload_n 0, 1) := by decide +kernel
theorem d_N_become_63 : decode b_N_become 63 = .ok (.getfield 25, 3) := by decide +kernel
theorem d_N_become_66 : decode b_N_become 66 = .ok (.arraylength, 1) := by decide +kernel
theorem d_N_become_67 : decode b_N_become 67 = .ok (.invokestatic 28, 3) := by decide +kernel
theorem d_N_become_70 : decode b_N_become 70 = .ok (.return_, 1) := by decide +kernel
theorem d_E_init_0 : decode b_E_init 0 = .ok (.aload_n 0, 1) := by decide +kernel
theorem d_E_init_1 : decode b_E_init 1 = .ok (.invokespecial 3, 3) := by decide +kernel
theorem d_E_init_4 : decode b_E_init 4 = .ok (.aload_n 0, 1) := by decide +kernel
theorem d_E_init_5 : decode b_E_init 5 = .ok (.bipush 100, 2) := by decide +kernel
theorem d_E_init_7 : decode b_E_init 7 = .ok (.newarray .byte, 2) := by decide +kernel
theorem d_E_init_9 : decode b_E_init 9 = .ok (.putfield 9, 3) := by decide +kernel
theorem d_E_init_12 : decode b_E_init 12 = .ok (.aload_n 0, 1) := by decide +kernel
theorem d_E_init_13 : decode b_E_init 13 = .ok (.iconst 0, 1) := by decide +kernel
theorem d_E_init_14 : decode b_E_init 14 = .ok (.putfield 15, 3) := by decide +kernel
theorem d_E_init_17 : decode b_E_init 17 = .ok (.aload_n 0, 1) := by decide +kernel
theorem d_E_init_18 : decode b_E_init 18 = .ok (.iconst 0, 1) := by decide +kernel
theorem d_E_init_19 : decode b_E_init 19 = .ok (.putfield 19, 3) := by decide +kernel
theorem d_E_init_22 : decode b_E_init 22 = .ok (.aload_n 0, 1) := by decide +kernel
theorem d_E_init_23 : decode b_E_init 23 = .ok (.new 22, 3) := by decide +kernel
theorem d_E_init_26 : decode b_E_init 26 = .ok (.dup, 1) := by decide +kernel
theorem d_E_init_27 : decode b_E_init 27 = .ok (.invokespecial 24, 3) := by decide +kernel
theorem d_E_init_30 : decode b_E_init 30 = .ok (.putfield 25, 3) := by decide +kernel
theorem d_E_init_33 : decode b_E_init 33 = .ok (.return_, 1) := by decide +kernel
theorem d_E_understands_0 : decode b_E_understands 0 = .ok (.aload_n 0, 1) := by decide +kernel
theorem d_E_understands_1 : decode b_E_understands 1 = .ok (.iconst 0, 1) := by decide +kernel
theorem d_E_understands_2 : decode b_E_understands 2 = .ok (.putfield 19, 3) := by decide +kernel
theorem d_E_understands_5 : decode b_E_understands 5 = .ok (.aload_n 0, 1) := by decide +kernel
theorem d_E_understands_6 : decode b_E_understands 6 = .ok (.aload_n 1, 1) := by decide +kernel
theorem d_E_understands_7 : decode b_E_understands 7 = .ok (.putfield 25, 3) := by decide +kernel
theorem d_E_understands_10 : decode b_E_understands 10 = .ok (.aload_n 0, 1) := by decide +kernel
theorem d_E_understands_11 : decode b_E_understands 11 = .ok (.getfield 25, 3) := by decide +kernel
theorem d_E_understands_14 : decode b_E_understands 14 = .ok (.invokevirtual 29, 3) := by decide +kernel
theorem d_E_understands_17 : decode b_E_understands 17 = .ok (.iconst 1, 1) := by decide +kernel
theorem d_E_understands_18 : decode b_E_understands 18 = .ok (.istore_n 2, 1) := by decide +kernel
theorem d_E_understands_19 : decode b_E_understands 19 = .ok (.iload_n 2, 1) := by decide +kernel
theorem d_E_understands_20 : decode b_E_understands 20 = .ok (.bipush 10, 2) := by decide +kernel
theorem d_E_understands_22 : decode b_E_understands 22 = .ok (.if_icmp .gt 48, 3) := by decide +kernel
theorem d_E_understands_25 : decode b_E_understands 25 = .ok (.aload_n 0, 1) := by decide +kernel
theorem d_E_understands_26 : decode b_E_understands 26 = .ok (.invokevirtual 32, 3) := by decide +kernel
theorem d_E_understands_29 : decode b_E_understands 29 = .ok (.ifCond .ne 5, 3) := by decide +kernel
theorem d_E_understands_32 : decode b_E_understands 32 = .ok (.iconst 0, 1) := by decide +kernel
theorem d_E_understands_33 : decode b_E_understands 33 = .ok (.ireturn, 1) := by decide +kernel
theorem d_E_understands_34 : decode b_E_understands 34 = .ok (.aload_n 0, 1) := by decide +kernel
theorem d_E_understands_35 : decode b_E_understands 35 = .ok (.getfield 19, 3) := by decide +kernel
theorem d_E_understands_38 : decode b_E_understands 38 = .ok (.aload_n 0, 1) := by decide +kernel
theorem d_E_understands_39 : decode b_E_understands 39 = .ok (.getfield 15, 3) := by decide +kernel
theorem d_E_understands_42 : decode b_E_understands 42 = .ok (.if_icmp .ne 5, 3) := by decide +kernel
theorem d_E_understands_45 : decode b_E_understands 45 = .ok (.iconst 1, 1) := by decide +kernel
theorem d_E_understands_46 : decode b_E_understands 46 = .ok (.ireturn, 1) := by decide +kernel
theorem d_E_understands_47 : decode b_E_understands 47 = .ok (.iload_n 2, 1) := by decide +kernel
theorem d_E_understands_48 : decode b_E_understands 48 = .ok (.bipush 10, 2) := by decide +kernel
theorem d_E_understands_50 : decode b_E_understands 50 = .ok (.if_icmp .eq 12, 3) := by decide +kernel
theorem d_E_understands_53 : decode b_E_understands 53 = .ok (.aload_n 0, 1) := by decide +kernel
theorem d_E_understands_54 : decode b_E_understands 54 = .ok (.bipush 59, 2) := by decide +kernel
theorem d_E_understands_56 : decode b_E_understands 56 = .ok (.invokevirtual 36, 3) := by decide +kernel
theorem d_E_understands_59 : decode b_E_understands 59 = .ok (.ifCond .ne 5, 3) := by decide +kernel
theorem d_E_understands_62 : decode b_E_understands 62 = .ok (.iconst 0, 1) := by decide +kernel
theorem d_E_understands_63 : decode b_E_understands 63 = .ok (.ireturn, 1) := by decide +kernel
theorem d_E_understands_64 : decode b_E_understands 64 = .ok (.iinc 2 1, 3) := by decide +kernel
theorem d_E_understands_67 : decode b_E_understands 67 = .ok (.goto (-48), 3) := by decide +kernel
theorem d_E_understands_70 : decode b_E_understands 70 = .ok (.iconst 0, 1) := by decide +kernel
theorem d_E_understands_71 : decode b_E_understands 71 = .ok (.ireturn, 1) := by decide +kernel
theorem d_E_sign_0 : decode b_E_sign 0 = .ok (.aload_n 0, 1) := by decide +kernel
theorem d_E_sign_1 : decode b_E_sign 1 = .ok (.getfield 19, 3) := by decide +kernel
theorem d_E_sign_4 : decode b_E_sign 4 = .ok (.aload_n 0, 1) := by decide +kernel
theorem d_E_sign_5 : decode b_E_sign 5 = .ok (.getfield 15, 3) := by decide +kernel
theorem d_E_sign_8 : decode b_E_sign 8 = .ok (.if_icmp .ge 27, 3) := by decide +kernel
theorem d_E_sign_11 : decode b_E_sign 11 = .ok (.aload_n 0, 1) := by decide +kernel
theorem d_E_sign_12 : decode b_E_sign 12 = .ok (.getfield 19, 3) := by decide +kernel
theorem d_E_sign_15 : decode b_E_sign 15 = .ok (.aload_n 0, 1) := by decide +kernel
theorem d_E_sign_16 : decode b_E_sign 16 = .ok (.getfield 9, 3) := by decide +kernel
theorem d_E_sign_19 : decode b_E_sign 19 = .ok (.arraylength, 1) := by decide +kernel
theorem d_E_sign_20 : decode b_E_sign 20 = .ok (.if_icmp .ge 15, 3) := by decide +kernel
theorem d_E_sign_23 : decode b_E_sign 23 = .ok (.aload_n 0, 1) := by decide +kernel
theorem d_E_sign_24 : decode b_E_sign 24 = .ok (.getfield 9, 3) := by decide +kernel
theorem d_E_sign_27 : decode b_E_sign 27 = .ok (.aload_n 0, 1) := by decide +kernel
theorem d_E_sign_28 : decode b_E_sign 28 = .ok (.getfield 19, 3) := by decide +kernel
theorem d_E_sign_31 : decode b_E_sign 31 = .ok (.baload, 1) := by decide +kernel
theorem d_E_sign_32 : decode b_E_sign 32 = .ok (.goto 4, 3) := by decide +kernel
theorem d_E_sign_35 : decode b_E_sign 35 = .ok (.iconst (-1), 1) := by decide +kernel
theorem d_E_sign_36 : decode b_E_sign 36 = .ok (.ireturn, 1) := by decide +kernel
theorem d_E_skips_0 : decode b_E_skips 0 = .ok (.aload_n 0, 1) := by decide +kernel
theorem d_E_skips_1 : decode b_E_skips 1 = .ok (.invokevirtual 40, 3) := by decide +kernel
theorem d_E_skips_4 : decode b_E_skips 4 = .ok (.iload_n 1, 1) := by decide +kernel
theorem d_E_skips_5 : decode b_E_skips 5 = .ok (.if_icmp .eq 5, 3) := by decide +kernel
theorem d_E_skips_8 : decode b_E_skips 8 = .ok (.iconst 0, 1) := by decide +kernel
theorem d_E_skips_9 : decode b_E_skips 9 = .ok (.ireturn, 1) := by decide +kernel
theorem d_E_skips_10 : decode b_E_skips 10 = .ok (.aload_n 0, 1) := by decide +kernel
theorem d_E_skips_11 : decode b_E_skips 11 = .ok (.dup, 1) := by decide +kernel
theorem d_E_skips_12 : decode b_E_skips 12 = .ok (.getfield 19, 3) := by decide +kernel
theorem d_E_skips_15 : decode b_E_skips 15 = .ok (.iconst 1, 1) := by decide +kernel
theorem d_E_skips_16 : decode b_E_skips 16 = .ok (.iadd, 1) := by decide +kernel
theorem d_E_skips_17 : decode b_E_skips 17 = .ok (.putfield 19, 3) := by decide +kernel
theorem d_E_skips_20 : decode b_E_skips 20 = .ok (.iconst 1, 1) := by decide +kernel
theorem d_E_skips_21 : decode b_E_skips 21 = .ok (.ireturn, 1) := by decide +kernel
theorem d_E_clause_0 : decode b_E_clause 0 = .ok (.aload_n 0, 1) := by decide +kernel
theorem d_E_clause_1 : decode b_E_clause 1 = .ok (.invokevirtual 40, 3) := by decide +kernel
theorem d_E_clause_4 : decode b_E_clause 4 = .ok (.lookupswitch 198 #[(102, 121), (108, 91), (112, 151), (119, 44)], 44) := by decide +kernel
theorem d_E_clause_48 : decode b_E_clause 48 = .ok (.aload_n 0, 1) := by decide +kernel
theorem d_E_clause_49 : decode b_E_clause 49 = .ok (.ldc 44, 2) := by decide +kernel
theorem d_E_clause_51 : decode b_E_clause 51 = .ok (.invokevirtual 46, 3) := by decide +kernel
theorem d_E_clause_54 : decode b_E_clause 54 = .ok (.ifCond .eq 39, 3) := by decide +kernel
theorem d_E_clause_57 : decode b_E_clause 57 = .ok (.aload_n 0, 1) := by decide +kernel
theorem d_E_clause_58 : decode b_E_clause 58 = .ok (.iconst 0, 1) := by decide +kernel
theorem d_E_clause_59 : decode b_E_clause 59 = .ok (.invokevirtual 50, 3) := by decide +kernel
theorem d_E_clause_62 : decode b_E_clause 62 = .ok (.ifCond .eq 31, 3) := by decide +kernel
theorem d_E_clause_65 : decode b_E_clause 65 = .ok (.aload_n 0, 1) := by decide +kernel
theorem d_E_clause_66 : decode b_E_clause 66 = .ok (.bipush 32, 2) := by decide +kernel
theorem d_E_clause_68 : decode b_E_clause 68 = .ok (.invokevirtual 36, 3) := by decide +kernel
theorem d_E_clause_71 : decode b_E_clause 71 = .ok (.ifCond .eq 22, 3) := by decide +kernel
theorem d_E_clause_74 : decode b_E_clause 74 = .ok (.aload_n 0, 1) := by decide +kernel
theorem d_E_clause_75 : decode b_E_clause 75 = .ok (.iconst 0, 1) := by decide +kernel
theorem d_E_clause_76 : decode b_E_clause 76 = .ok (.invokevirtual 53, 3) := by decide +kernel
theorem d_E_clause_79 : decode b_E_clause 79 = .ok (.ifCond .eq 14, 3) := by decide +kernel
theorem d_E_clause_82 : decode b_E_clause 82 = .ok (.aload_n 0, 1) := by decide +kernel
theorem d_E_clause_83 : decode b_E_clause 83 = .ok (.invokevirtual 56, 3) := by decide +kernel
theorem d_E_clause_86 : decode b_E_clause 86 = .ok (.ifCond .eq 7, 3) := by decide +kernel
theorem d_E_clause_89 : decode b_E_clause 89 = .ok (.iconst 1, 1) := by decide +kernel
theorem d_E_clause_90 : decode b_E_clause 90 = .ok (.goto 4, 3) := by decide +kernel
theorem d_E_clause_93 : decode b_E_clause 93 = .ok (.iconst 0, 1) := by decide +kernel
theorem d_E_clause_94 : decode b_E_clause 94 = .ok (.ireturn, 1) := by decide +kernel
theorem d_E_clause_95 : decode b_E_clause 95 = .ok (.aload_n 0, 1) := by decide +kernel
theorem d_E_clause_96 : decode b_E_clause 96 = .ok (.ldc 59, 2) := by decide +kernel
theorem d_E_clause_98 : decode b_E_clause 98 = .ok (.invokevirtual 46, 3) := by decide +kernel
theorem d_E_clause_101 : decode b_E_clause 101 = .ok (.ifCond .eq 22, 3) := by decide +kernel
theorem d_E_clause_104 : decode b_E_clause 104 = .ok (.aload_n 0, 1) := by decide +kernel
theorem d_E_clause_105 : decode b_E_clause 105 = .ok (.iconst 1, 1) := by decide +kernel
theorem d_E_clause_106 : decode b_E_clause 106 = .ok (.invokevirtual 50, 3) := by decide +kernel
theorem d_E_clause_109 : decode b_E_clause 109 = .ok (.ifCond .eq 14, 3) := by decide +kernel
theorem d_E_clause_112 : decode b_E_clause 112 = .ok (.aload_n 0, 1) := by decide +kernel
theorem d_E_clause_113 : decode b_E_clause 113 = .ok (.invokevirtual 56, 3) := by decide +kernel
theorem d_E_clause_116 : decode b_E_clause 116 = .ok (.ifCond .eq 7, 3) := by decide +kernel
theorem d_E_clause_119 : decode b_E_clause 119 = .ok (.iconst 1, 1) := by decide +kernel
theorem d_E_clause_120 : decode b_E_clause 120 = .ok (.goto 4, 3) := by decide +kernel
theorem d_E_clause_123 : decode b_E_clause 123 = .ok (.iconst 0, 1) := by decide +kernel
theorem d_E_clause_124 : decode b_E_clause 124 = .ok (.ireturn, 1) := by decide +kernel
theorem d_E_clause_125 : decode b_E_clause 125 = .ok (.aload_n 0, 1) := by decide +kernel
theorem d_E_clause_126 : decode b_E_clause 126 = .ok (.ldc 61, 2) := by decide +kernel
theorem d_E_clause_128 : decode b_E_clause 128 = .ok (.invokevirtual 46, 3) := by decide +kernel
theorem d_E_clause_131 : decode b_E_clause 131 = .ok (.ifCond .eq 22, 3) := by decide +kernel
theorem d_E_clause_134 : decode b_E_clause 134 = .ok (.aload_n 0, 1) := by decide +kernel
theorem d_E_clause_135 : decode b_E_clause 135 = .ok (.iconst 2, 1) := by decide +kernel
theorem d_E_clause_136 : decode b_E_clause 136 = .ok (.invokevirtual 50, 3) := by decide +kernel
theorem d_E_clause_139 : decode b_E_clause 139 = .ok (.ifCond .eq 14, 3) := by decide +kernel
theorem d_E_clause_142 : decode b_E_clause 142 = .ok (.aload_n 0, 1) := by decide +kernel
theorem d_E_clause_143 : decode b_E_clause 143 = .ok (.invokevirtual 56, 3) := by decide +kernel
theorem d_E_clause_146 : decode b_E_clause 146 = .ok (.ifCond .eq 7, 3) := by decide +kernel
theorem d_E_clause_149 : decode b_E_clause 149 = .ok (.iconst 1, 1) := by decide +kernel
theorem d_E_clause_150 : decode b_E_clause 150 = .ok (.goto 4, 3) := by decide +kernel
theorem d_E_clause_153 : decode b_E_clause 153 = .ok (.iconst 0, 1) := by decide +kernel
theorem d_E_clause_154 : decode b_E_clause 154 = .ok (.ireturn, 1) := by decide +kernel
theorem d_E_clause_155 : decode b_E_clause 155 = .ok (.aload_n 0, 1) := by decide +kernel
theorem d_E_clause_156 : decode b_E_clause 156 = .ok (.ldc 63, 2) := by decide +kernel
theorem d_E_clause_158 : decode b_E_clause 158 = .ok (.invokevirtual 46, 3) := by decide +kernel
theorem d_E_clause_161 : decode b_E_clause 161 = .ok (.ifCond .eq 39, 3) := by decide +kernel
theorem d_E_clause_164 : decode b_E_clause 164 = .ok (.aload_n 0, 1) := by decide +kernel
theorem d_E_clause_165 : decode b_E_clause 165 = .ok (.iconst 3, 1) := by decide +kernel
theorem d_E_clause_166 : decode b_E_clause 166 = .ok (.invokevirtual 50, 3) := by decide +kernel
theorem d_E_clause_169 : decode b_E_clause 169 = .ok (.ifCond .eq 31, 3) := by decide +kernel
theorem d_E_clause_172 : decode b_E_clause 172 = .ok (.aload_n 0, 1) := by decide +kernel
theorem d_E_clause_173 : decode b_E_clause 173 = .ok (.bipush 32, 2) := by decide +kernel
theorem d_E_clause_175 : decode b_E_clause 175 = .ok (.invokevirtual 36, 3) := by decide +kernel
theorem d_E_clause_178 : decode b_E_clause 178 = .ok (.ifCond .eq 22, 3) := by decide +kernel
theorem d_E_clause_181 : decode b_E_clause 181 = .ok (.aload_n 0, 1) := by decide +kernel
theorem d_E_clause_182 : decode b_E_clause 182 = .ok (.iconst 0, 1) := by decide +kernel
theorem d_E_clause_183 : decode b_E_clause 183 = .ok (.invokevirtual 53, 3) := by decide +kernel
theorem d_E_clause_186 : decode b_E_clause 186 = .ok (.ifCond .eq 14, 3) := by decide +kernel
theorem d_E_clause_189 : decode b_E_clause 189 = .ok (.aload_n 0, 1) := by decide +kernel
theorem d_E_clause_190 : decode b_E_clause 190 = .ok (.invokevirtual 56, 3) := by decide +kernel
theorem d_E_clause_193 : decode b_E_clause 193 = .ok (.ifCond .eq 7, 3) := by decide +kernel
theorem d_E_clause_196 : decode b_E_clause 196 = .ok (.iconst 1, 1) := by decide +kernel
theorem d_E_clause_197 : decode b_E_clause 197 = .ok (.goto 4, 3) := by decide +kernel
theorem d_E_clause_200 : decode b_E_clause 200 = .ok (.iconst 0, 1) := by decide +kernel
theorem d_E_clause_201 : decode b_E_clause 201 = .ok (.ireturn, 1) := by decide +kernel
theorem d_E_clause_202 : decode b_E_clause 202 = .ok (.iconst 0, 1) := by decide +kernel
theorem d_E_clause_203 : decode b_E_clause 203 = .ok (.ireturn, 1) := by decide +kernel
theorem d_E_words_0 : decode b_E_words 0 = .ok (.iconst 0, 1) := by decide +kernel
theorem d_E_words_1 : decode b_E_words 1 = .ok (.istore_n 2, 1) := by decide +kernel
theorem d_E_words_2 : decode b_E_words 2 = .ok (.iload_n 2, 1) := by decide +kernel
theorem d_E_words_3 : decode b_E_words 3 = .ok (.aload_n 1, 1) := by decide +kernel
theorem d_E_words_4 : decode b_E_words 4 = .ok (.invokevirtual 65, 3) := by decide +kernel
theorem d_E_words_7 : decode b_E_words 7 = .ok (.if_icmp .ge 23, 3) := by decide +kernel
theorem d_E_words_10 : decode b_E_words 10 = .ok (.aload_n 0, 1) := by decide +kernel
theorem d_E_words_11 : decode b_E_words 11 = .ok (.aload_n 1, 1) := by decide +kernel
theorem d_E_words_12 : decode b_E_words 12 = .ok (.iload_n 2, 1) := by decide +kernel
theorem d_E_words_13 : decode b_E_words 13 = .ok (.invokevirtual 70, 3) := by decide +kernel
theorem d_E_words_16 : decode b_E_words 16 = .ok (.invokevirtual 36, 3) := by decide +kernel
theorem d_E_words_19 : decode b_E_words 19 = .ok (.ifCond .ne 5, 3) := by decide +kernel
theorem d_E_words_22 : decode b_E_words 22 = .ok (.iconst 0, 1) := by decide +kernel
theorem d_E_words_23 : decode b_E_words 23 = .ok (.ireturn, 1) := by decide +kernel
theorem d_E_words_24 : decode b_E_words 24 = .ok (.iinc 2 1, 3) := by decide +kernel
theorem d_E_words_27 : decode b_E_words 27 = .ok (.goto (-25), 3) := by decide +kernel
theorem d_E_words_30 : decode b_E_words 30 = .ok (.iconst 1, 1) := by decide +kernel
theorem d_E_words_31 : decode b_E_words 31 = .ok (.ireturn, 1) := by decide +kernel
theorem d_E_begins_0 : decode b_E_begins 0 = .ok (.aload_n 0, 1) := by decide +kernel
theorem d_E_begins_1 : decode b_E_begins 1 = .ok (.invokevirtual 74, 3) := by decide +kernel
theorem d_E_begins_4 : decode b_E_begins 4 = .ok (.istore_n 2, 1) := by decide +kernel
theorem d_E_begins_5 : decode b_E_begins 5 = .ok (.iload_n 2, 1) := by decide +kernel
theorem d_E_begins_6 : decode b_E_begins 6 = .ok (.ifCond .ge 5, 3) := by decide +kernel
theorem d_E_begins_9 : decode b_E_begins 9 = .ok (.iconst 0, 1) := by decide +kernel
theorem d_E_begins_10 : decode b_E_begins 10 = .ok (.ireturn, 1) := by decide +kernel
theorem d_E_begins_11 : decode b_E_begins 11 = .ok (.aload_n 0, 1) := by decide +kernel
theorem d_E_begins_12 : decode b_E_begins 12 = .ok (.getfield 25, 3) := by decide +kernel
theorem d_E_begins_15 : decode b_E_begins 15 = .ok (.iload_n 1, 1) := by decide +kernel
theorem d_E_begins_16 : decode b_E_begins 16 = .ok (.iload_n 2, 1) := by decide +kernel
theorem d_E_begins_17 : decode b_E_begins 17 = .ok (.invokevirtual 77, 3) := by decide +kernel
theorem d_E_begins_20 : decode b_E_begins 20 = .ok (.iconst 1, 1) := by decide +kernel
theorem d_E_begins_21 : decode b_E_begins 21 = .ok (.ireturn, 1) := by decide +kernel
theorem d_E_ends_0 : decode b_E_ends 0 = .ok (.aload_n 0, 1) := by decide +kernel
theorem d_E_ends_1 : decode b_E_ends 1 = .ok (.getfield 25, 3) := by decide +kernel
theorem d_E_ends_4 : decode b_E_ends 4 = .ok (.invokevirtual 81, 3) := by decide +kernel
theorem d_E_ends_7 : decode b_E_ends 7 = .ok (.iconst 1, 1) := by decide +kernel
theorem d_E_ends_8 : decode b_E_ends 8 = .ok (.ireturn, 1) := by decide +kernel
theorem d_E_number_0 : decode b_E_number 0 = .ok (.aload_n 0, 1) := by decide +kernel
theorem d_E_number_1 : decode b_E_number 1 = .ok (.invokevirtual 40, 3) := by decide +kernel
theorem d_E_number_4 : decode b_E_number 4 = .ok (.invokestatic 84, 3) := by decide +kernel
theorem d_E_number_7 : decode b_E_number 7 = .ok (.ifCond .ne 5, 3) := by decide +kernel
theorem d_E_number_10 : decode b_E_number 10 = .ok (.iconst (-1), 1) := by decide +kernel
theorem d_E_number_11 : decode b_E_number 11 = .ok (.ireturn, 1) := by decide +kernel
theorem d_E_number_12 : decode b_E_number 12 = .ok (.aload_n 0, 1) := by decide +kernel
theorem d_E_number_13 : decode b_E_number 13 = .ok (.invokevirtual 40, 3) := by decide +kernel
theorem d_E_number_16 : decode b_E_number 16 = .ok (.bipush 48, 2) := by decide +kernel
theorem d_E_number_18 : decode b_E_number 18 = .ok (.isub, 1) := by decide +kernel
theorem d_E_number_19 : decode b_E_number 19 = .ok (.istore_n 1, 1) := by decide +kernel
theorem d_E_number_20 : decode b_E_number 20 = .ok (.aload_n 0, 1) := by decide +kernel
theorem d_E_number_21 : decode b_E_number 21 = .ok (.dup, 1) := by decide +kernel
theorem d_E_number_22 : decode b_E_number 22 = .ok (.getfield 19, 3) := by decide +kernel
theorem d_E_number_25 : decode b_E_number 25 = .ok (.iconst 1, 1) := by decide +kernel
theorem d_E_number_26 : decode b_E_number 26 = .ok (.iadd, 1) := by decide +kernel
theorem d_E_number_27 : decode b_E_number 27 = .ok (.putfield 19, 3) := by decide +kernel
theorem d_E_number_30 : decode b_E_number 30 = .ok (.aload_n 0, 1) := by decide +kernel
theorem d_E_number_31 : decode b_E_number 31 = .ok (.invokevirtual 40, 3) := by decide +kernel
theorem d_E_number_34 : decode b_E_number 34 = .ok (.invokestatic 84, 3) := by decide +kernel
theorem d_E_number_37 : decode b_E_number 37 = .ok (.ifCond .eq 26, 3) := by decide +kernel
theorem d_E_number_40 : decode b_E_number 40 = .ok (.bipush 10, 2) := by decide +kernel
theorem d_E_number_42 : decode b_E_number 42 = .ok (.iload_n 1, 1) := by decide +kernel
theorem d_E_number_43 : decode b_E_number 43 = .ok (.imul, 1) := by decide +kernel
theorem d_E_number_44 : decode b_E_number 44 = .ok (.aload_n 0, 1) := by decide +kernel
theorem d_E_number_45 : decode b_E_number 45 = .ok (.invokevirtual 40, 3) := by decide +kernel
theorem d_E_number_48 : decode b_E_number 48 = .ok (.iadd, 1) := by decide +kernel
theorem d_E_number_49 : decode b_E_number 49 = .ok (.bipush 48, 2) := by decide +kernel
theorem d_E_number_51 : decode b_E_number 51 = .ok (.isub, 1) := by decide +kernel
theorem d_E_number_52 : decode b_E_number 52 = .ok (.istore_n 1, 1) := by decide +kernel
theorem d_E_number_53 : decode b_E_number 53 = .ok (.aload_n 0, 1) := by decide +kernel
theorem d_E_number_54 : decode b_E_number 54 = .ok (.dup, 1) := by decide +kernel
theorem d_E_number_55 : decode b_E_number 55 = .ok (.getfield 19, 3) := by decide +kernel
theorem d_E_number_58 : decode b_E_number 58 = .ok (.iconst 1, 1) := by decide +kernel
theorem d_E_number_59 : decode b_E_number 59 = .ok (.iadd, 1) := by decide +kernel
theorem d_E_number_60 : decode b_E_number 60 = .ok (.putfield 19, 3) := by decide +kernel
theorem d_E_number_63 : decode b_E_number 63 = .ok (.iload_n 1, 1) := by decide +kernel
theorem d_E_number_64 : decode b_E_number 64 = .ok (.ireturn, 1) := by decide +kernel
theorem d_E_isDigit_0 : decode b_E_isDigit 0 = .ok (.iload_n 0, 1) := by decide +kernel
theorem d_E_isDigit_1 : decode b_E_isDigit 1 = .ok (.bipush 48, 2) := by decide +kernel
theorem d_E_isDigit_3 : decode b_E_isDigit 3 = .ok (.if_icmp .lt 13, 3) := by decide +kernel
theorem d_E_isDigit_6 : decode b_E_isDigit 6 = .ok (.iload_n 0, 1) := by decide +kernel
theorem d_E_isDigit_7 : decode b_E_isDigit 7 = .ok (.bipush 57, 2) := by decide +kernel
theorem d_E_isDigit_9 : decode b_E_isDigit 9 = .ok (.if_icmp .gt 7, 3) := by decide +kernel
theorem d_E_isDigit_12 : decode b_E_isDigit 12 = .ok (.iconst 1, 1) := by decide +kernel
theorem d_E_isDigit_13 : decode b_E_isDigit 13 = .ok (.goto 4, 3) := by decide +kernel
theorem d_E_isDigit_16 : decode b_E_isDigit 16 = .ok (.iconst 0, 1) := by decide +kernel
theorem d_E_isDigit_17 : decode b_E_isDigit 17 = .ok (.ireturn, 1) := by decide +kernel
theorem d_E_either_0 : decode b_E_either 0 = .ok (.iconst 0, 1) := by decide +kernel
theorem d_E_either_1 : decode b_E_either 1 = .ok (.istore_n 2, 1) := by decide +kernel
theorem d_E_either_2 : decode b_E_either 2 = .ok (.iload_n 2, 1) := by decide +kernel
theorem d_E_either_3 : decode b_E_either 3 = .ok (.bipush 100, 2) := by decide +kernel
theorem d_E_either_5 : decode b_E_either 5 = .ok (.if_icmp .ge 85, 3) := by decide +kernel
theorem d_E_either_8 : decode b_E_either 8 = .ok (.aload_n 0, 1) := by decide +kernel
theorem d_E_either_9 : decode b_E_either 9 = .ok (.iload_n 1, 1) := by decide +kernel
theorem d_E_either_10 : decode b_E_either 10 = .ok (.invokevirtual 87, 3) := by decide +kernel
theorem d_E_either_13 : decode b_E_either 13 = .ok (.ifCond .ne 5, 3) := by decide +kernel
theorem d_E_either_16 : decode b_E_either 16 = .ok (.iconst 0, 1) := by decide +kernel
theorem d_E_either_17 : decode b_E_either 17 = .ok (.ireturn, 1) := by decide +kernel
theorem d_E_either_18 : decode b_E_either 18 = .ok (.iconst 0, 1) := by decide +kernel
theorem d_E_either_19 : decode b_E_either 19 = .ok (.istore_n 3, 1) := by decide +kernel
theorem d_E_either_20 : decode b_E_either 20 = .ok (.iload_n 3, 1) := by decide +kernel
theorem d_E_either_21 : decode b_E_either 21 = .ok (.bipush 100, 2) := by decide +kernel
theorem d_E_either_23 : decode b_E_either 23 = .ok (.if_icmp .ge 37, 3) := by decide +kernel
theorem d_E_either_26 : decode b_E_either 26 = .ok (.aload_n 0, 1) := by decide +kernel
theorem d_E_either_27 : decode b_E_either 27 = .ok (.bipush 38, 2) := by decide +kernel
theorem d_E_either_29 : decode b_E_either 29 = .ok (.invokevirtual 36, 3) := by decide +kernel
theorem d_E_either_32 : decode b_E_either 32 = .ok (.ifCond .eq 28, 3) := by decide +kernel
theorem d_E_either_35 : decode b_E_either 35 = .ok (.aload_n 0, 1) := by decide +kernel
theorem d_E_either_36 : decode b_E_either 36 = .ok (.iload_n 1, 1) := by decide +kernel
theorem d_E_either_37 : decode b_E_either 37 = .ok (.invokevirtual 87, 3) := by decide +kernel
theorem d_E_either_40 : decode b_E_either 40 = .ok (.ifCond .ne 5, 3) := by decide +kernel
theorem d_E_either_43 : decode b_E_either 43 = .ok (.iconst 0, 1) := by decide +kernel
theorem d_E_either_44 : decode b_E_either 44 = .ok (.ireturn, 1) := by decide +kernel
theorem d_E_either_45 : decode b_E_either 45 = .ok (.aload_n 0, 1) := by decide +kernel
theorem d_E_either_46 : decode b_E_either 46 = .ok (.getfield 25, 3) := by decide +kernel
theorem d_E_either_49 : decode b_E_either 49 = .ok (.bipush (-2), 2) := by decide +kernel
theorem d_E_either_51 : decode b_E_either 51 = .ok (.invokevirtual 90, 3) := by decide +kernel
theorem d_E_either_54 : decode b_E_either 54 = .ok (.iinc 3 1, 3) := by decide +kernel
theorem d_E_either_57 : decode b_E_either 57 = .ok (.goto (-37), 3) := by decide +kernel
theorem d_E_either_60 : decode b_E_either 60 = .ok (.iload_n 2, 1) := by decide +kernel
theorem d_E_either_61 : decode b_E_either 61 = .ok (.ifCond .le 12, 3) := by decide +kernel
theorem d_E_either_64 : decode b_E_either 64 = .ok (.aload_n 0, 1) := by decide +kernel
theorem d_E_either_65 : decode b_E_either 65 = .ok (.getfield 25, 3) := by decide +kernel
theorem d_E_either_68 : decode b_E_either 68 = .ok (.bipush (-3), 2) := by decide +kernel
theorem d_E_either_70 : decode b_E_either 70 = .ok (.invokevirtual 90, 3) := by decide +kernel
theorem d_E_either_73 : decode b_E_either 73 = .ok (.aload_n 0, 1) := by decide +kernel
theorem d_E_either_74 : decode b_E_either 74 = .ok (.bipush 124, 2) := by decide +kernel
theorem d_E_either_76 : decode b_E_either 76 = .ok (.invokevirtual 36, 3) := by decide +kernel
theorem d_E_either_79 : decode b_E_either 79 = .ok (.ifCond .ne 5, 3) := by decide +kernel
theorem d_E_either_82 : decode b_E_either 82 = .ok (.iconst 1, 1) := by decide +kernel
theorem d_E_either_83 : decode b_E_either 83 = .ok (.ireturn, 1) := by decide +kernel
theorem d_E_either_84 : decode b_E_either 84 = .ok (.iinc 2 1, 3) := by decide +kernel
theorem d_E_either_87 : decode b_E_either 87 = .ok (.goto (-85), 3) := by decide +kernel
theorem d_E_either_90 : decode b_E_either 90 = .ok (.iconst 0, 1) := by decide +kernel
theorem d_E_either_91 : decode b_E_either 91 = .ok (.ireturn, 1) := by decide +kernel
theorem d_E_factor_0 : decode b_E_factor 0 = .ok (.aload_n 0, 1) := by decide +kernel
theorem d_E_factor_1 : decode b_E_factor 1 = .ok (.invokevirtual 40, 3) := by decide +kernel
theorem d_E_factor_4 : decode b_E_factor 4 = .ok (.bipush 33, 2) := by decide +kernel
theorem d_E_factor_6 : decode b_E_factor 6 = .ok (.if_icmp .eq 17, 3) := by decide +kernel
theorem d_E_factor_9 : decode b_E_factor 9 = .ok (.aload_n 0, 1) := by decide +kernel
theorem d_E_factor_10 : decode b_E_factor 10 = .ok (.invokevirtual 40, 3) := by decide +kernel
theorem d_E_factor_13 : decode b_E_factor 13 = .ok (.bipush 40, 2) := by decide +kernel
theorem d_E_factor_15 : decode b_E_factor 15 = .ok (.if_icmp .eq 8, 3) := by decide +kernel
theorem d_E_factor_18 : decode b_E_factor 18 = .ok (.aload_n 0, 1) := by decide +kernel
theorem d_E_factor_19 : decode b_E_factor 19 = .ok (.invokevirtual 94, 3) := by decide +kernel
theorem d_E_factor_22 : decode b_E_factor 22 = .ok (.ireturn, 1) := by decide +kernel
theorem d_E_factor_23 : decode b_E_factor 23 = .ok (.iload_n 1, 1) := by decide +kernel
theorem d_E_factor_24 : decode b_E_factor 24 = .ok (.iconst 4, 1) := by decide +kernel
theorem d_E_factor_25 : decode b_E_factor 25 = .ok (.if_icmp .lt 5, 3) := by decide +kernel
theorem d_E_factor_28 : decode b_E_factor 28 = .ok (.iconst 0, 1) := by decide +kernel
theorem d_E_factor_29 : decode b_E_factor 29 = .ok (.ireturn, 1) := by decide +kernel
theorem d_E_factor_30 : decode b_E_factor 30 = .ok (.aload_n 0, 1) := by decide +kernel
theorem d_E_factor_31 : decode b_E_factor 31 = .ok (.bipush 40, 2) := by decide +kernel
theorem d_E_factor_33 : decode b_E_factor 33 = .ok (.invokevirtual 36, 3) := by decide +kernel
theorem d_E_factor_36 : decode b_E_factor 36 = .ok (.ifCond .eq 28, 3) := by decide +kernel
theorem d_E_factor_39 : decode b_E_factor 39 = .ok (.aload_n 0, 1) := by decide +kernel
theorem d_E_factor_40 : decode b_E_factor 40 = .ok (.iload_n 1, 1) := by decide +kernel
theorem d_E_factor_41 : decode b_E_factor 41 = .ok (.iconst 1, 1) := by decide +kernel
theorem d_E_factor_42 : decode b_E_factor 42 = .ok (.iadd, 1) := by decide +kernel
theorem d_E_factor_43 : decode b_E_factor 43 = .ok (.invokevirtual 53, 3) := by decide +kernel
theorem d_E_factor_46 : decode b_E_factor 46 = .ok (.ifCond .eq 16, 3) := by decide +kernel
theorem d_E_factor_49 : decode b_E_factor 49 = .ok (.aload_n 0, 1) := by decide +kernel
theorem d_E_factor_50 : decode b_E_factor 50 = .ok (.bipush 41, 2) := by decide +kernel
theorem d_E_factor_52 : decode b_E_factor 52 = .ok (.invokevirtual 36, 3) := by decide +kernel
theorem d_E_factor_55 : decode b_E_factor 55 = .ok (.ifCond .eq 7, 3) := by decide +kernel
theorem d_E_factor_58 : decode b_E_factor 58 = .ok (.iconst 1, 1) := by decide +kernel
theorem d_E_factor_59 : decode b_E_factor 59 = .ok (.goto 4, 3) := by decide +kernel
theorem d_E_factor_62 : decode b_E_factor 62 = .ok (.iconst 0, 1) := by decide +kernel
theorem d_E_factor_63 : decode b_E_factor 63 = .ok (.ireturn, 1) := by decide +kernel
theorem d_E_factor_64 : decode b_E_factor 64 = .ok (.aload_n 0, 1) := by decide +kernel
theorem d_E_factor_65 : decode b_E_factor 65 = .ok (.dup, 1) := by decide +kernel
theorem d_E_factor_66 : decode b_E_factor 66 = .ok (.getfield 19, 3) := by decide +kernel
theorem d_E_factor_69 : decode b_E_factor 69 = .ok (.iconst 1, 1) := by decide +kernel
theorem d_E_factor_70 : decode b_E_factor 70 = .ok (.iadd, 1) := by decide +kernel
theorem d_E_factor_71 : decode b_E_factor 71 = .ok (.putfield 19, 3) := by decide +kernel
theorem d_E_factor_74 : decode b_E_factor 74 = .ok (.aload_n 0, 1) := by decide +kernel
theorem d_E_factor_75 : decode b_E_factor 75 = .ok (.iload_n 1, 1) := by decide +kernel
theorem d_E_factor_76 : decode b_E_factor 76 = .ok (.iconst 1, 1) := by decide +kernel
theorem d_E_factor_77 : decode b_E_factor 77 = .ok (.iadd, 1) := by decide +kernel
theorem d_E_factor_78 : decode b_E_factor 78 = .ok (.invokevirtual 87, 3) := by decide +kernel
theorem d_E_factor_81 : decode b_E_factor 81 = .ok (.ifCond .ne 5, 3) := by decide +kernel
theorem d_E_factor_84 : decode b_E_factor 84 = .ok (.iconst 0, 1) := by decide +kernel
theorem d_E_factor_85 : decode b_E_factor 85 = .ok (.ireturn, 1) := by decide +kernel
theorem d_E_factor_86 : decode b_E_factor 86 = .ok (.aload_n 0, 1) := by decide +kernel
theorem d_E_factor_87 : decode b_E_factor 87 = .ok (.getfield 25, 3) := by decide +kernel
theorem d_E_factor_90 : decode b_E_factor 90 = .ok (.iconst (-1), 1) := by decide +kernel
theorem d_E_factor_91 : decode b_E_factor 91 = .ok (.invokevirtual 90, 3) := by decide +kernel
theorem d_E_factor_94 : decode b_E_factor 94 = .ok (.iconst 1, 1) := by decide +kernel
theorem d_E_factor_95 : decode b_E_factor 95 = .ok (.ireturn, 1) := by decide +kernel
theorem d_E_test_0 : decode b_E_test 0 = .ok (.aload_n 0, 1) := by decide +kernel
theorem d_E_test_1 : decode b_E_test 1 = .ok (.invokevirtual 40, 3) := by decide +kernel
theorem d_E_test_4 : decode b_E_test 4 = .ok (.ifCond .ge 7, 3) := by decide +kernel
theorem d_E_test_7 : decode b_E_test 7 = .ok (.iconst (-1), 1) := by decide +kernel
theorem d_E_test_8 : decode b_E_test 8 = .ok (.goto 13, 3) := by decide +kernel
theorem d_E_test_11 : decode b_E_test 11 = .ok (.ldc 97, 2) := by decide +kernel
theorem d_E_test_13 : decode b_E_test 13 = .ok (.aload_n 0, 1) := by decide +kernel
theorem d_E_test_14 : decode b_E_test 14 = .ok (.invokevirtual 40, 3) := by decide +kernel
theorem d_E_test_17 : decode b_E_test 17 = .ok (.i2c, 1) := by decide +kernel
theorem d_E_test_18 : decode b_E_test 18 = .ok (.invokevirtual 99, 3) := by decide +kernel
theorem d_E_test_21 : decode b_E_test 21 = .ok (.istore_n 1, 1) := by decide +kernel
theorem d_E_test_22 : decode b_E_test 22 = .ok (.iload_n 1, 1) := by decide +kernel
theorem d_E_test_23 : decode b_E_test 23 = .ok (.ifCond .ge 5, 3) := by decide +kernel
theorem d_E_test_26 : decode b_E_test 26 = .ok (.iconst 0, 1) := by decide +kernel
theorem d_E_test_27 : decode b_E_test 27 = .ok (.ireturn, 1) := by decide +kernel
theorem d_E_test_28 : decode b_E_test 28 = .ok (.aload_n 0, 1) := by decide +kernel
theorem d_E_test_29 : decode b_E_test 29 = .ok (.dup, 1) := by decide +kernel
theorem d_E_test_30 : decode b_E_test 30 = .ok (.getfield 19, 3) := by decide +kernel
theorem d_E_test_33 : decode b_E_test 33 = .ok (.iconst 1, 1) := by decide +kernel
theorem d_E_test_34 : decode b_E_test 34 = .ok (.iadd, 1) := by decide +kernel
theorem d_E_test_35 : decode b_E_test 35 = .ok (.putfield 19, 3) := by decide +kernel
theorem d_E_test_38 : decode b_E_test 38 = .ok (.aload_n 0, 1) := by decide +kernel
theorem d_E_test_39 : decode b_E_test 39 = .ok (.invokevirtual 40, 3) := by decide +kernel
theorem d_E_test_42 : decode b_E_test 42 = .ok (.istore_n 2, 1) := by decide +kernel
theorem d_E_test_43 : decode b_E_test 43 = .ok (.iload_n 2, 1) := by decide +kernel
theorem d_E_test_44 : decode b_E_test 44 = .ok (.bipush 60, 2) := by decide +kernel
theorem d_E_test_46 : decode b_E_test 46 = .ok (.if_icmp .eq 17, 3) := by decide +kernel
theorem d_E_test_49 : decode b_E_test 49 = .ok (.iload_n 2, 1) := by decide +kernel
theorem d_E_test_50 : decode b_E_test 50 = .ok (.bipush 61, 2) := by decide +kernel
theorem d_E_test_52 : decode b_E_test 52 = .ok (.if_icmp .eq 11, 3) := by decide +kernel
theorem d_E_test_55 : decode b_E_test 55 = .ok (.iload_n 2, 1) := by decide +kernel
theorem d_E_test_56 : decode b_E_test 56 = .ok (.bipush 62, 2) := by decide +kernel
theorem d_E_test_58 : decode b_E_test 58 = .ok (.if_icmp .eq 5, 3) := by decide +kernel
theorem d_E_test_61 : decode b_E_test 61 = .ok (.iconst 0, 1) := by decide +kernel
theorem d_E_test_62 : decode b_E_test 62 = .ok (.ireturn, 1) := by decide +kernel
theorem d_E_test_63 : decode b_E_test 63 = .ok (.aload_n 0, 1) := by decide +kernel
theorem d_E_test_64 : decode b_E_test 64 = .ok (.dup, 1) := by decide +kernel
theorem d_E_test_65 : decode b_E_test 65 = .ok (.getfield 19, 3) := by decide +kernel
theorem d_E_test_68 : decode b_E_test 68 = .ok (.iconst 1, 1) := by decide +kernel
theorem d_E_test_69 : decode b_E_test 69 = .ok (.iadd, 1) := by decide +kernel
theorem d_E_test_70 : decode b_E_test 70 = .ok (.putfield 19, 3) := by decide +kernel
theorem d_E_test_73 : decode b_E_test 73 = .ok (.aload_n 0, 1) := by decide +kernel
theorem d_E_test_74 : decode b_E_test 74 = .ok (.invokevirtual 74, 3) := by decide +kernel
theorem d_E_test_77 : decode b_E_test 77 = .ok (.istore_n 3, 1) := by decide +kernel
theorem d_E_test_78 : decode b_E_test 78 = .ok (.iload_n 3, 1) := by decide +kernel
theorem d_E_test_79 : decode b_E_test 79 = .ok (.ifCond .ge 5, 3) := by decide +kernel
theorem d_E_test_82 : decode b_E_test 82 = .ok (.iconst 0, 1) := by decide +kernel
theorem d_E_test_83 : decode b_E_test 83 = .ok (.ireturn, 1) := by decide +kernel
theorem d_E_test_84 : decode b_E_test 84 = .ok (.aload_n 0, 1) := by decide +kernel
theorem d_E_test_85 : decode b_E_test 85 = .ok (.getfield 25, 3) := by decide +kernel
theorem d_E_test_88 : decode b_E_test 88 = .ok (.iload_n 1, 1) := by decide +kernel
theorem d_E_test_89 : decode b_E_test 89 = .ok (.iload_n 2, 1) := by decide +kernel
theorem d_E_test_90 : decode b_E_test 90 = .ok (.iload_n 3, 1) := by decide +kernel
theorem d_E_test_91 : decode b_E_test 91 = .ok (.invokestatic 103, 3) := by decide +kernel
theorem d_E_test_94 : decode b_E_test 94 = .ok (.invokevirtual 90, 3) := by decide +kernel
theorem d_E_test_97 : decode b_E_test 97 = .ok (.iconst 1, 1) := by decide +kernel
theorem d_E_test_98 : decode b_E_test 98 = .ok (.ireturn, 1) := by decide +kernel
theorem d_R_init_0 : decode b_R_init 0 = .ok (.aload_n 0, 1) := by decide +kernel
theorem d_R_init_1 : decode b_R_init 1 = .ok (.invokespecial 3, 3) := by decide +kernel
theorem d_R_init_4 : decode b_R_init 4 = .ok (.aload_n 0, 1) := by decide +kernel
theorem d_R_init_5 : decode b_R_init 5 = .ok (.iconst 0, 1) := by decide +kernel
theorem d_R_init_6 : decode b_R_init 6 = .ok (.putfield 9, 3) := by decide +kernel
theorem d_R_init_9 : decode b_R_init 9 = .ok (.aload_n 0, 1) := by decide +kernel
theorem d_R_init_10 : decode b_R_init 10 = .ok (.bipush 10, 2) := by decide +kernel
theorem d_R_init_12 : decode b_R_init 12 = .ok (.newarray .int, 2) := by decide +kernel
theorem d_R_init_14 : decode b_R_init 14 = .ok (.putfield 15, 3) := by decide +kernel
theorem d_R_init_17 : decode b_R_init 17 = .ok (.aload_n 0, 1) := by decide +kernel
theorem d_R_init_18 : decode b_R_init 18 = .ok (.bipush 10, 2) := by decide +kernel
theorem d_R_init_20 : decode b_R_init 20 = .ok (.newarray .int, 2) := by decide +kernel
theorem d_R_init_22 : decode b_R_init 22 = .ok (.putfield 19, 3) := by decide +kernel
theorem d_R_init_25 : decode b_R_init 25 = .ok (.aload_n 0, 1) := by decide +kernel
theorem d_R_init_26 : decode b_R_init 26 = .ok (.bipush 10, 2) := by decide +kernel
theorem d_R_init_28 : decode b_R_init 28 = .ok (.newarray .int, 2) := by decide +kernel
theorem d_R_init_30 : decode b_R_init 30 = .ok (.putfield 22, 3) := by decide +kernel
theorem d_R_init_33 : decode b_R_init 33 = .ok (.aload_n 0, 1) := by decide +kernel
theorem d_R_init_34 : decode b_R_init 34 = .ok (.bipush 10, 2) := by decide +kernel
theorem d_R_init_36 : decode b_R_init 36 = .ok (.newarray .int, 2) := by decide +kernel
theorem d_R_init_38 : decode b_R_init 38 = .ok (.putfield 25, 3) := by decide +kernel
theorem d_R_init_41 : decode b_R_init 41 = .ok (.aload_n 0, 1) := by decide +kernel
theorem d_R_init_42 : decode b_R_init 42 = .ok (.bipush 100, 2) := by decide +kernel
theorem d_R_init_44 : decode b_R_init 44 = .ok (.newarray .int, 2) := by decide +kernel
theorem d_R_init_46 : decode b_R_init 46 = .ok (.putfield 28, 3) := by decide +kernel
theorem d_R_init_49 : decode b_R_init 49 = .ok (.aload_n 0, 1) := by decide +kernel
theorem d_R_init_50 : decode b_R_init 50 = .ok (.iconst 0, 1) := by decide +kernel
theorem d_R_init_51 : decode b_R_init 51 = .ok (.putfield 31, 3) := by decide +kernel
theorem d_R_init_54 : decode b_R_init 54 = .ok (.aload_n 0, 1) := by decide +kernel
theorem d_R_init_55 : decode b_R_init 55 = .ok (.iconst 5, 1) := by decide +kernel
theorem d_R_init_56 : decode b_R_init 56 = .ok (.putfield 34, 3) := by decide +kernel
theorem d_R_init_59 : decode b_R_init 59 = .ok (.aload_n 0, 1) := by decide +kernel
theorem d_R_init_60 : decode b_R_init 60 = .ok (.sipush 200, 3) := by decide +kernel
theorem d_R_init_63 : decode b_R_init 63 = .ok (.putfield 37, 3) := by decide +kernel
theorem d_R_init_66 : decode b_R_init 66 = .ok (.return_, 1) := by decide +kernel
theorem d_R_clear_0 : decode b_R_clear 0 = .ok (.aload_n 0, 1) := by decide +kernel
theorem d_R_clear_1 : decode b_R_clear 1 = .ok (.iconst 0, 1) := by decide +kernel
theorem d_R_clear_2 : decode b_R_clear 2 = .ok (.putfield 9, 3) := by decide +kernel
theorem d_R_clear_5 : decode b_R_clear 5 = .ok (.aload_n 0, 1) := by decide +kernel
theorem d_R_clear_6 : decode b_R_clear 6 = .ok (.iconst 0, 1) := by decide +kernel
theorem d_R_clear_7 : decode b_R_clear 7 = .ok (.putfield 31, 3) := by decide +kernel
theorem d_R_clear_10 : decode b_R_clear 10 = .ok (.aload_n 0, 1) := by decide +kernel
theorem d_R_clear_11 : decode b_R_clear 11 = .ok (.iconst 5, 1) := by decide +kernel
theorem d_R_clear_12 : decode b_R_clear 12 = .ok (.putfield 34, 3) := by decide +kernel
theorem d_R_clear_15 : decode b_R_clear 15 = .ok (.aload_n 0, 1) := by decide +kernel
theorem d_R_clear_16 : decode b_R_clear 16 = .ok (.sipush 200, 3) := by decide +kernel
theorem d_R_clear_19 : decode b_R_clear 19 = .ok (.putfield 37, 3) := by decide +kernel
theorem d_R_clear_22 : decode b_R_clear 22 = .ok (.return_, 1) := by decide +kernel
theorem d_R_begin_0 : decode b_R_begin 0 = .ok (.aload_n 0, 1) := by decide +kernel
theorem d_R_begin_1 : decode b_R_begin 1 = .ok (.getfield 9, 3) := by decide +kernel
theorem d_R_begin_4 : decode b_R_begin 4 = .ok (.bipush 10, 2) := by decide +kernel
theorem d_R_begin_6 : decode b_R_begin 6 = .ok (.if_icmp .lt 4, 3) := by decide +kernel
theorem d_R_begin_9 : decode b_R_begin 9 = .ok (.return_, 1) := by decide +kernel
theorem d_R_begin_10 : decode b_R_begin 10 = .ok (.aload_n 0, 1) := by decide +kernel
theorem d_R_begin_11 : decode b_R_begin 11 = .ok (.getfield 15, 3) := by decide +kernel
theorem d_R_begin_14 : decode b_R_begin 14 = .ok (.aload_n 0, 1) := by decide +kernel
theorem d_R_begin_15 : decode b_R_begin 15 = .ok (.getfield 9, 3) := by decide +kernel
theorem d_R_begin_18 : decode b_R_begin 18 = .ok (.iload_n 1, 1) := by decide +kernel
theorem d_R_begin_19 : decode b_R_begin 19 = .ok (.iastore, 1) := by decide +kernel
theorem d_R_begin_20 : decode b_R_begin 20 = .ok (.aload_n 0, 1) := by decide +kernel
theorem d_R_begin_21 : decode b_R_begin 21 = .ok (.getfield 19, 3) := by decide +kernel
theorem d_R_begin_24 : decode b_R_begin 24 = .ok (.aload_n 0, 1) := by decide +kernel
theorem d_R_begin_25 : decode b_R_begin 25 = .ok (.getfield 9, 3) := by decide +kernel
theorem d_R_begin_28 : decode b_R_begin 28 = .ok (.iload_n 2, 1) := by decide +kernel
theorem d_R_begin_29 : decode b_R_begin 29 = .ok (.iastore, 1) := by decide +kernel
theorem d_R_begin_30 : decode b_R_begin 30 = .ok (.aload_n 0, 1) := by decide +kernel
theorem d_R_begin_31 : decode b_R_begin 31 = .ok (.getfield 22, 3) := by decide +kernel
theorem d_R_begin_34 : decode b_R_begin 34 = .ok (.aload_n 0, 1) := by decide +kernel
theorem d_R_begin_35 : decode b_R_begin 35 = .ok (.getfield 9, 3) := by decide +kernel
theorem d_R_begin_38 : decode b_R_begin 38 = .ok (.aload_n 0, 1) := by decide +kernel
theorem d_R_begin_39 : decode b_R_begin 39 = .ok (.getfield 31, 3) := by decide +kernel
theorem d_R_begin_42 : decode b_R_begin 42 = .ok (.iastore, 1) := by decide +kernel
theorem d_R_begin_43 : decode b_R_begin 43 = .ok (.iload_n 1, 1) := by decide +kernel
theorem d_R_begin_44 : decode b_R_begin 44 = .ok (.iconst 1, 1) := by decide +kernel
theorem d_R_begin_45 : decode b_R_begin 45 = .ok (.if_icmp .ne 11, 3) := by decide +kernel
theorem d_R_begin_48 : decode b_R_begin 48 = .ok (.aload_n 0, 1) := by decide +kernel
theorem d_R_begin_49 : decode b_R_begin 49 = .ok (.iload_n 2, 1) := by decide +kernel
theorem d_R_begin_50 : decode b_R_begin 50 = .ok (.putfield 34, 3) := by decide +kernel
theorem d_R_begin_53 : decode b_R_begin 53 = .ok (.goto 16, 3) := by decide +kernel
theorem d_R_begin_56 : decode b_R_begin 56 = .ok (.iload_n 1, 1) := by decide +kernel
theorem d_R_begin_57 : decode b_R_begin 57 = .ok (.iconst 2, 1) := by decide +kernel
theorem d_R_begin_58 : decode b_R_begin 58 = .ok (.if_icmp .ne 11, 3) := by decide +kernel
theorem d_R_begin_61 : decode b_R_begin 61 = .ok (.aload_n 0, 1) := by decide +kernel
theorem d_R_begin_62 : decode b_R_begin 62 = .ok (.bipush 10, 2) := by decide +kernel
theorem d_R_begin_64 : decode b_R_begin 64 = .ok (.iload_n 2, 1) := by decide +kernel
theorem d_R_begin_65 : decode b_R_begin 65 = .ok (.imul, 1) := by decide +kernel
theorem d_R_begin_66 : decode b_R_begin 66 = .ok (.putfield 37, 3) := by decide +kernel
theorem d_R_begin_69 : decode b_R_begin 69 = .ok (.return_, 1) := by decide +kernel
theorem d_R_step_0 : decode b_R_step 0 = .ok (.aload_n 0, 1) := by decide +kernel
theorem d_R_step_1 : decode b_R_step 1 = .ok (.getfield 31, 3) := by decide +kernel
theorem d_R_step_4 : decode b_R_step 4 = .ok (.aload_n 0, 1) := by decide +kernel
theorem d_R_step_5 : decode b_R_step 5 = .ok (.getfield 28, 3) := by decide +kernel
theorem d_R_step_8 : decode b_R_step 8 = .ok (.arraylength, 1) := by decide +kernel
theorem d_R_step_9 : decode b_R_step 9 = .ok (.if_icmp .ge 23, 3) := by decide +kernel
theorem d_R_step_12 : decode b_R_step 12 = .ok (.aload_n 0, 1) := by decide +kernel
theorem d_R_step_13 : decode b_R_step 13 = .ok (.getfield 28, 3) := by decide +kernel
theorem d_R_step_16 : decode b_R_step 16 = .ok (.aload_n 0, 1) := by decide +kernel
theorem d_R_step_17 : decode b_R_step 17 = .ok (.getfield 31, 3) := by decide +kernel
theorem d_R_step_20 : decode b_R_step 20 = .ok (.iload_n 1, 1) := by decide +kernel
theorem d_R_step_21 : decode b_R_step 21 = .ok (.iastore, 1) := by decide +kernel
theorem d_R_step_22 : decode b_R_step 22 = .ok (.aload_n 0, 1) := by decide +kernel
theorem d_R_step_23 : decode b_R_step 23 = .ok (.dup, 1) := by decide +kernel
theorem d_R_step_24 : decode b_R_step 24 = .ok (.getfield 31, 3) := by decide +kernel
theorem d_R_step_27 : decode b_R_step 27 = .ok (.iconst 1, 1) := by decide +kernel
theorem d_R_step_28 : decode b_R_step 28 = .ok (.iadd, 1) := by decide +kernel
theorem d_R_step_29 : decode b_R_step 29 = .ok (.putfield 31, 3) := by decide +kernel
theorem d_R_step_32 : decode b_R_step 32 = .ok (.return_, 1) := by decide +kernel
theorem d_R_end_0 : decode b_R_end 0 = .ok (.aload_n 0, 1) := by decide +kernel
theorem d_R_end_1 : decode b_R_end 1 = .ok (.getfield 9, 3) := by decide +kernel
theorem d_R_end_4 : decode b_R_end 4 = .ok (.bipush 10, 2) := by decide +kernel
theorem d_R_end_6 : decode b_R_end 6 = .ok (.if_icmp .ge 26, 3) := by decide +kernel
theorem d_R_end_9 : decode b_R_end 9 = .ok (.aload_n 0, 1) := by decide +kernel
theorem d_R_end_10 : decode b_R_end 10 = .ok (.getfield 25, 3) := by decide +kernel
theorem d_R_end_13 : decode b_R_end 13 = .ok (.aload_n 0, 1) := by decide +kernel
theorem d_R_end_14 : decode b_R_end 14 = .ok (.getfield 9, 3) := by decide +kernel
theorem d_R_end_17 : decode b_R_end 17 = .ok (.aload_n 0, 1) := by decide +kernel
theorem d_R_end_18 : decode b_R_end 18 = .ok (.getfield 31, 3) := by decide +kernel
theorem d_R_end_21 : decode b_R_end 21 = .ok (.iastore, 1) := by decide +kernel
theorem d_R_end_22 : decode b_R_end 22 = .ok (.aload_n 0, 1) := by decide +kernel
theorem d_R_end_23 : decode b_R_end 23 = .ok (.dup, 1) := by decide +kernel
theorem d_R_end_24 : decode b_R_end 24 = .ok (.getfield 9, 3) := by decide +kernel
theorem d_R_end_27 : decode b_R_end 27 = .ok (.iconst 1, 1) := by decide +kernel
theorem d_R_end_28 : decode b_R_end 28 = .ok (.iadd, 1) := by decide +kernel
theorem d_R_end_29 : decode b_R_end 29 = .ok (.putfield 9, 3) := by decide +kernel
theorem d_R_end_32 : decode b_R_end 32 = .ok (.return_, 1) := by decide +kernel
theorem d_R_test_0 : decode b_R_test 0 = .ok (.iload_n 0, 1) := by decide +kernel
theorem d_R_test_1 : decode b_R_test 1 = .ok (.bipush 16, 2) := by decide +kernel
theorem d_R_test_3 : decode b_R_test 3 = .ok (.ishl, 1) := by decide +kernel
theorem d_R_test_4 : decode b_R_test 4 = .ok (.iload_n 1, 1) := by decide +kernel
theorem d_R_test_5 : decode b_R_test 5 = .ok (.bipush 8, 2) := by decide +kernel
theorem d_R_test_7 : decode b_R_test 7 = .ok (.ishl, 1) := by decide +kernel
theorem d_R_test_8 : decode b_R_test 8 = .ok (.ior, 1) := by decide +kernel
theorem d_R_test_9 : decode b_R_test 9 = .ok (.iload_n 2, 1) := by decide +kernel
theorem d_R_test_10 : decode b_R_test 10 = .ok (.ior, 1) := by decide +kernel
theorem d_R_test_11 : decode b_R_test 11 = .ok (.ireturn, 1) := by decide +kernel
theorem d_R_together_0 : decode b_R_together 0 = .ok (.iconst 0, 1) := by decide +kernel
theorem d_R_together_1 : decode b_R_together 1 = .ok (.istore_n 3, 1) := by decide +kernel
theorem d_R_together_2 : decode b_R_together 2 = .ok (.iconst 0, 1) := by decide +kernel
theorem d_R_together_3 : decode b_R_together 3 = .ok (.istore 4, 2) := by decide +kernel
theorem d_R_together_5 : decode b_R_together 5 = .ok (.iload 4, 2) := by decide +kernel
theorem d_R_together_7 : decode b_R_together 7 = .ok (.aload_n 0, 1) := by decide +kernel
theorem d_R_together_8 : decode b_R_together 8 = .ok (.getfield 9, 3) := by decide +kernel
theorem d_R_together_11 : decode b_R_together 11 = .ok (.if_icmp .ge 52, 3) := by decide +kernel
theorem d_R_together_14 : decode b_R_together 14 = .ok (.aload_n 0, 1) := by decide +kernel
theorem d_R_together_15 : decode b_R_together 15 = .ok (.getfield 15, 3) := by decide +kernel
theorem d_R_together_18 : decode b_R_together 18 = .ok (.iload 4, 2) := by decide +kernel
theorem d_R_together_20 : decode b_R_together 20 = .ok (.iaload, 1) := by decide +kernel
theorem d_R_together_21 : decode b_R_together 21 = .ok (.iload_n 1, 1) := by decide +kernel
theorem d_R_together_22 : decode b_R_together 22 = .ok (.if_icmp .ne 35, 3) := by decide +kernel
theorem d_R_together_25 : decode b_R_together 25 = .ok (.aload_n 0, 1) := by decide +kernel
theorem d_R_together_26 : decode b_R_together 26 = .ok (.aload_n 0, 1) := by decide +kernel
theorem d_R_together_27 : decode b_R_together 27 = .ok (.getfield 22, 3) := by decide +kernel
theorem d_R_together_30 : decode b_R_together 30 = .ok (.iload 4, 2) := by decide +kernel
theorem d_R_together_32 : decode b_R_together 32 = .ok (.iaload, 1) := by decide +kernel
theorem d_R_together_33 : decode b_R_together 33 = .ok (.aload_n 0, 1) := by decide +kernel
theorem d_R_together_34 : decode b_R_together 34 = .ok (.getfield 25, 3) := by decide +kernel
theorem d_R_together_37 : decode b_R_together 37 = .ok (.iload 4, 2) := by decide +kernel
theorem d_R_together_39 : decode b_R_together 39 = .ok (.iaload, 1) := by decide +kernel
theorem d_R_together_40 : decode b_R_together 40 = .ok (.aload_n 2, 1) := by decide +kernel
theorem d_R_together_41 : decode b_R_together 41 = .ok (.invokevirtual 40, 3) := by decide +kernel
theorem d_R_together_44 : decode b_R_together 44 = .ok (.ifCond .eq 13, 3) := by decide +kernel
theorem d_R_together_47 : decode b_R_together 47 = .ok (.iload_n 3, 1) := by decide +kernel
theorem d_R_together_48 : decode b_R_together 48 = .ok (.aload_n 0, 1) := by decide +kernel
theorem d_R_together_49 : decode b_R_together 49 = .ok (.getfield 19, 3) := by decide +kernel
theorem d_R_together_52 : decode b_R_together 52 = .ok (.iload 4, 2) := by decide +kernel
theorem d_R_together_54 : decode b_R_together 54 = .ok (.iaload, 1) := by decide +kernel
theorem d_R_together_55 : decode b_R_together 55 = .ok (.iadd, 1) := by decide +kernel
theorem d_R_together_56 : decode b_R_together 56 = .ok (.istore_n 3, 1) := by decide +kernel
theorem d_R_together_57 : decode b_R_together 57 = .ok (.iinc 4 1, 3) := by decide +kernel
theorem d_R_together_60 : decode b_R_together 60 = .ok (.goto (-55), 3) := by decide +kernel
theorem d_R_together_63 : decode b_R_together 63 = .ok (.iload_n 3, 1) := by decide +kernel
theorem d_R_together_64 : decode b_R_together 64 = .ok (.ireturn, 1) := by decide +kernel
theorem d_R_holds_0 : decode b_R_holds 0 = .ok (.iconst 0, 1) := by decide +kernel
theorem d_R_holds_1 : decode b_R_holds 1 = .ok (.istore 4, 2) := by decide +kernel
theorem d_R_holds_3 : decode b_R_holds 3 = .ok (.iload_n 1, 1) := by decide +kernel
theorem d_R_holds_4 : decode b_R_holds 4 = .ok (.istore 5, 2) := by decide +kernel
theorem d_R_holds_6 : decode b_R_holds 6 = .ok (.iload 5, 2) := by decide +kernel
theorem d_R_holds_8 : decode b_R_holds 8 = .ok (.iload_n 2, 1) := by decide +kernel
theorem d_R_holds_9 : decode b_R_holds 9 = .ok (.if_icmp .ge 111, 3) := by decide +kernel
theorem d_R_holds_12 : decode b_R_holds 12 = .ok (.iload 4, 2) := by decide +kernel
theorem d_R_holds_14 : decode b_R_holds 14 = .ok (.iconst 1, 1) := by decide +kernel
theorem d_R_holds_15 : decode b_R_holds 15 = .ok (.iand, 1) := by decide +kernel
theorem d_R_holds_16 : decode b_R_holds 16 = .ok (.istore 6, 2) := by decide +kernel
theorem d_R_holds_18 : decode b_R_holds 18 = .ok (.aload_n 0, 1) := by decide +kernel
theorem d_R_holds_19 : decode b_R_holds 19 = .ok (.getfield 28, 3) := by decide +kernel
theorem d_R_holds_22 : decode b_R_holds 22 = .ok (.iload 5, 2) := by decide +kernel
theorem d_R_holds_24 : decode b_R_holds 24 = .ok (.iaload, 1) := by decide +kernel
theorem d_R_holds_25 : decode b_R_holds 25 = .ok (.tableswitch 63 (-3) (-1) #[51, 36, 27], 27) := by decide +kernel
theorem d_R_holds_52 : decode b_R_holds 52 = .ok (.iload 4, 2) := by decide +kernel
theorem d_R_holds_54 : decode b_R_holds 54 = .ok (.iconst 1, 1) := by decide +kernel
theorem d_R_holds_55 : decode b_R_holds 55 = .ok (.ixor, 1) := by decide +kernel
theorem d_R_holds_56 : decode b_R_holds 56 = .ok (.istore 4, 2) := by decide +kernel
theorem d_R_holds_58 : decode b_R_holds 58 = .ok (.goto 56, 3) := by decide +kernel
theorem d_R_holds_61 : decode b_R_holds 61 = .ok (.iload 4, 2) := by decide +kernel
theorem d_R_holds_63 : decode b_R_holds 63 = .ok (.iconst 1, 1) := by decide +kernel
theorem d_R_holds_64 : decode b_R_holds 64 = .ok (.ishr, 1) := by decide +kernel
theorem d_R_holds_65 : decode b_R_holds 65 = .ok (.iload 6, 2) := by decide +kernel
theorem d_R_holds_67 : decode b_R_holds 67 = .ok (.bipush (-2), 2) := by decide +kernel
theorem d_R_holds_69 : decode b_R_holds 69 = .ok (.ior, 1) := by decide +kernel
theorem d_R_holds_70 : decode b_R_holds 70 = .ok (.iand, 1) := by decide +kernel
theorem d_R_holds_71 : decode b_R_holds 71 = .ok (.istore 4, 2) := by decide +kernel
theorem d_R_holds_73 : decode b_R_holds 73 = .ok (.goto 41, 3) := by decide +kernel
theorem d_R_holds_76 : decode b_R_holds 76 = .ok (.iload 4, 2) := by decide +kernel
theorem d_R_holds_78 : decode b_R_holds 78 = .ok (.iconst 1, 1) := by decide +kernel
theorem d_R_holds_79 : decode b_R_holds 79 = .ok (.ishr, 1) := by decide +kernel
theorem d_R_holds_80 : decode b_R_holds 80 = .ok (.iload 6, 2) := by decide +kernel
theorem d_R_holds_82 : decode b_R_holds 82 = .ok (.ior, 1) := by decide +kernel
theorem d_R_holds_83 : decode b_R_holds 83 = .ok (.istore 4, 2) := by decide +kernel
theorem d_R_holds_85 : decode b_R_holds 85 = .ok (.goto 29, 3) := by decide +kernel
theorem d_R_holds_88 : decode b_R_holds 88 = .ok (.iload 4, 2) := by decide +kernel
theorem d_R_holds_90 : decode b_R_holds 90 = .ok (.iconst 1, 1) := by decide +kernel
theorem d_R_holds_91 : decode b_R_holds 91 = .ok (.ishl, 1) := by decide +kernel
theorem d_R_holds_92 : decode b_R_holds 92 = .ok (.aload_n 0, 1) := by decide +kernel
theorem d_R_holds_93 : decode b_R_holds 93 = .ok (.getfield 28, 3) := by decide +kernel
theorem d_R_holds_96 : decode b_R_holds 96 = .ok (.iload 5, 2) := by decide +kernel
theorem d_R_holds_98 : decode b_R_holds 98 = .ok (.iaload, 1) := by decide +kernel
theorem d_R_holds_99 : decode b_R_holds 99 = .ok (.aload_n 3, 1) := by decide +kernel
theorem d_R_holds_100 : decode b_R_holds 100 = .ok (.invokestatic 44, 3) := by decide +kernel
theorem d_R_holds_103 : decode b_R_holds 103 = .ok (.ifCond .eq 7, 3) := by decide +kernel
theorem d_R_holds_106 : decode b_R_holds 106 = .ok (.iconst 1, 1) := by decide +kernel
theorem d_R_holds_107 : decode b_R_holds 107 = .ok (.goto 4, 3) := by decide +kernel
theorem d_R_holds_110 : decode b_R_holds 110 = .ok (.iconst 0, 1) := by decide +kernel
theorem d_R_holds_111 : decode b_R_holds 111 = .ok (.ior, 1) := by decide +kernel
theorem d_R_holds_112 : decode b_R_holds 112 = .ok (.istore 4, 2) := by decide +kernel
theorem d_R_holds_114 : decode b_R_holds 114 = .ok (.iinc 5 1, 3) := by decide +kernel
theorem d_R_holds_117 : decode b_R_holds 117 = .ok (.goto (-111), 3) := by decide +kernel
theorem d_R_holds_120 : decode b_R_holds 120 = .ok (.iload 4, 2) := by decide +kernel
theorem d_R_holds_122 : decode b_R_holds 122 = .ok (.iconst 1, 1) := by decide +kernel
theorem d_R_holds_123 : decode b_R_holds 123 = .ok (.iand, 1) := by decide +kernel
theorem d_R_holds_124 : decode b_R_holds 124 = .ok (.iconst 1, 1) := by decide +kernel
theorem d_R_holds_125 : decode b_R_holds 125 = .ok (.if_icmp .ne 7, 3) := by decide +kernel
theorem d_R_holds_128 : decode b_R_holds 128 = .ok (.iconst 1, 1) := by decide +kernel
theorem d_R_holds_129 : decode b_R_holds 129 = .ok (.goto 4, 3) := by decide +kernel
theorem d_R_holds_132 : decode b_R_holds 132 = .ok (.iconst 0, 1) := by decide +kernel
theorem d_R_holds_133 : decode b_R_holds 133 = .ok (.ireturn, 1) := by decide +kernel
theorem d_R_passes_0 : decode b_R_passes 0 = .ok (.iload_n 0, 1) := by decide +kernel
theorem d_R_passes_1 : decode b_R_passes 1 = .ok (.bipush 16, 2) := by decide +kernel
theorem d_R_passes_3 : decode b_R_passes 3 = .ok (.ishr, 1) := by decide +kernel
theorem d_R_passes_4 : decode b_R_passes 4 = .ok (.istore_n 2, 1) := by decide +kernel
theorem d_R_passes_5 : decode b_R_passes 5 = .ok (.iload_n 2, 1) := by decide +kernel
theorem d_R_passes_6 : decode b_R_passes 6 = .ok (.ifCond .lt 15, 3) := by decide +kernel
theorem d_R_passes_9 : decode b_R_passes 9 = .ok (.iload_n 2, 1) := by decide +kernel
theorem d_R_passes_10 : decode b_R_passes 10 = .ok (.aload_n 1, 1) := by decide +kernel
theorem d_R_passes_11 : decode b_R_passes 11 = .ok (.arraylength, 1) := by decide +kernel
theorem d_R_passes_12 : decode b_R_passes 12 = .ok (.if_icmp .ge 9, 3) := by decide +kernel
theorem d_R_passes_15 : decode b_R_passes 15 = .ok (.aload_n 1, 1) := by decide +kernel
theorem d_R_passes_16 : decode b_R_passes 16 = .ok (.iload_n 2, 1) := by decide +kernel
theorem d_R_passes_17 : decode b_R_passes 17 = .ok (.iaload, 1) := by decide +kernel
theorem d_R_passes_18 : decode b_R_passes 18 = .ok (.goto 4, 3) := by decide +kernel
theorem d_R_passes_21 : decode b_R_passes 21 = .ok (.iconst 0, 1) := by decide +kernel
theorem d_R_passes_22 : decode b_R_passes 22 = .ok (.istore_n 3, 1) := by decide +kernel
theorem d_R_passes_23 : decode b_R_passes 23 = .ok (.iload_n 0, 1) := by decide +kernel
theorem d_R_passes_24 : decode b_R_passes 24 = .ok (.sipush 255, 3) := by decide +kernel
theorem d_R_passes_27 : decode b_R_passes 27 = .ok (.iand, 1) := by decide +kernel
theorem d_R_passes_28 : decode b_R_passes 28 = .ok (.istore 4, 2) := by decide +kernel
theorem d_R_passes_30 : decode b_R_passes 30 = .ok (.iload_n 0, 1) := by decide +kernel
theorem d_R_passes_31 : decode b_R_passes 31 = .ok (.bipush 8, 2) := by decide +kernel
theorem d_R_passes_33 : decode b_R_passes 33 = .ok (.ishr, 1) := by decide +kernel
theorem d_R_passes_34 : decode b_R_passes 34 = .ok (.sipush 255, 3) := by decide +kernel
theorem d_R_passes_37 : decode b_R_passes 37 = .ok (.iand, 1) := by decide +kernel
theorem d_R_passes_38 : decode b_R_passes 38 = .ok (.lookupswitch 50 #[(60, 26), (61, 38)], 26) := by decide +kernel
theorem d_R_passes_64 : decode b_R_passes 64 = .ok (.iload_n 3, 1) := by decide +kernel
theorem d_R_passes_65 : decode b_R_passes 65 = .ok (.iload 4, 2) := by decide +kernel
theorem d_R_passes_67 : decode b_R_passes 67 = .ok (.if_icmp .ge 7, 3) := by decide +kernel
theorem d_R_passes_70 : decode b_R_passes 70 = .ok (.iconst 1, 1) := by decide +kernel
theorem d_R_passes_71 : decode b_R_passes 71 = .ok (.goto 4, 3) := by decide +kernel
theorem d_R_passes_74 : decode b_R_passes 74 = .ok (.iconst 0, 1) := by decide +kernel
theorem d_R_passes_75 : decode b_R_passes 75 = .ok (.ireturn, 1) := by decide +kernel
theorem d_R_passes_76 : decode b_R_passes 76 = .ok (.iload_n 3, 1) := by decide +kernel
theorem d_R_passes_77 : decode b_R_passes 77 = .ok (.iload 4, 2) := by decide +kernel
theorem d_R_passes_79 : decode b_R_passes 79 = .ok (.if_icmp .ne 7, 3) := by decide +kernel
theorem d_R_passes_82 : decode b_R_passes 82 = .ok (.iconst 1, 1) := by decide +kernel
theorem d_R_passes_83 : decode b_R_passes 83 = .ok (.goto 4, 3) := by decide +kernel
theorem d_R_passes_86 : decode b_R_passes 86 = .ok (.iconst 0, 1) := by decide +kernel
theorem d_R_passes_87 : decode b_R_passes 87 = .ok (.ireturn, 1) := by decide +kernel
theorem d_R_passes_88 : decode b_R_passes 88 = .ok (.iload_n 3, 1) := by decide +kernel
theorem d_R_passes_89 : decode b_R_passes 89 = .ok (.iload 4, 2) := by decide +kernel
theorem d_R_passes_91 : decode b_R_passes 91 = .ok (.if_icmp .le 7, 3) := by decide +kernel
theorem d_R_passes_94 : decode b_R_passes 94 = .ok (.iconst 1, 1) := by decide +kernel
theorem d_R_passes_95 : decode b_R_passes 95 = .ok (.goto 4, 3) := by decide +kernel
theorem d_R_passes_98 : decode b_R_passes 98 = .ok (.iconst 0, 1) := by decide +kernel
theorem d_R_passes_99 : decode b_R_passes 99 = .ok (.ireturn, 1) := by decide +kernel
theorem d_T_init_0 : decode b_T_init 0 = .ok (.aload_n 0, 1) := by decide +kernel
theorem d_T_init_1 : decode b_T_init 1 = .ok (.invokespecial 3, 3) := by decide +kernel
theorem d_T_init_4 : decode b_T_init 4 = .ok (.aload_n 0, 1) := by decide +kernel
theorem d_T_init_5 : decode b_T_init 5 = .ok (.iconst (-1), 1) := by decide +kernel
theorem d_T_init_6 : decode b_T_init 6 = .ok (.putfield 11, 3) := by decide +kernel
theorem d_T_init_9 : decode b_T_init 9 = .ok (.aload_n 0, 1) := by decide +kernel
theorem d_T_init_10 : decode b_T_init 10 = .ok (.iconst 0, 1) := by decide +kernel
theorem d_T_init_11 : decode b_T_init 11 = .ok (.putfield 15, 3) := by decide +kernel
theorem d_T_init_14 : decode b_T_init 14 = .ok (.aload_n 0, 1) := by decide +kernel
theorem d_T_init_15 : decode b_T_init 15 = .ok (.bipush 60, 2) := by decide +kernel
theorem d_T_init_17 : decode b_T_init 17 = .ok (.newarray .long, 2) := by decide +kernel
theorem d_T_init_19 : decode b_T_init 19 = .ok (.putfield 18, 3) := by decide +kernel
theorem d_T_init_22 : decode b_T_init 22 = .ok (.return_, 1) := by decide +kernel
theorem d_T_become_0 : decode b_T_become 0 = .ok (.aload_n 0, 1) := by decide +kernel
theorem d_T_become_1 : decode b_T_become 1 = .ok (.iload_n 1, 1) := by decide +kernel
theorem d_T_become_2 : decode b_T_become 2 = .ok (.putfield 11, 3) := by decide +kernel
theorem d_T_become_5 : decode b_T_become 5 = .ok (.aload_n 0, 1) := by decide +kernel
theorem d_T_become_6 : decode b_T_become 6 = .ok (.iload_n 2, 1) := by decide +kernel
theorem d_T_become_7 : decode b_T_become 7 = .ok (.putfield 15, 3) := by decide +kernel
theorem d_T_become_10 : decode b_T_become 10 = .ok (.aload_n 0, 1) := by decide +kernel
theorem d_T_become_11 : decode b_T_become 11 = .ok (.getfield 18, 3) := by decide +kernel
theorem d_T_become_14 : decode b_T_become 14 = .ok (.lconst 0, 1) := by decide +kernel
theorem d_T_become_15 : decode b_T_become 15 = .ok (.invokestatic 22, 3) := by decide +kernel
theorem d_T_become_18 : decode b_T_become 18 = .ok (.return_, 1) := by decide +kernel
theorem d_T_narrowed_0 : decode b_T_narrowed 0 = .ok (.aload_n 0, 1) := by decide +kernel
theorem d_T_narrowed_1 : decode b_T_narrowed 1 = .ok (.getfield 11, 3) := by decide +kernel
theorem d_T_narrowed_4 : decode b_T_narrowed 4 = .ok (.tableswitch 48 0 3 #[32, 37, 42, 46], 32) := by decide +kernel
theorem d_T_narrowed_36 : decode b_T_narrowed 36 = .ok (.lload_n 1, 1) := by decide +kernel
theorem d_T_narrowed_37 : decode b_T_narrowed 37 = .ok (.l2i, 1) := by decide +kernel
theorem d_T_narrowed_38 : decode b_T_narrowed 38 = .ok (.i2b, 1) := by decide +kernel
theorem d_T_narrowed_39 : decode b_T_narrowed 39 = .ok (.i2l, 1) := by decide +kernel
theorem d_T_narrowed_40 : decode b_T_narrowed 40 = .ok (.lreturn, 1) := by decide +kernel
theorem d_T_narrowed_41 : decode b_T_narrowed 41 = .ok (.lload_n 1, 1) := by decide +kernel
theorem d_T_narrowed_42 : decode b_T_narrowed 42 = .ok (.l2i, 1) := by decide +kernel
theorem d_T_narrowed_43 : decode b_T_narrowed 43 = .ok (.i2s, 1) := by decide +kernel
theorem d_T_narrowed_44 : decode b_T_narrowed 44 = .ok (.i2l, 1) := by decide +kernel
theorem d_T_narrowed_45 : decode b_T_narrowed 45 = .ok (.lreturn, 1) := by decide +kernel
theorem d_T_narrowed_46 : decode b_T_narrowed 46 = .ok (.lload_n 1, 1) := by decide +kernel
theorem d_T_narrowed_47 : decode b_T_narrowed 47 = .ok (.l2i, 1) := by decide +kernel
theorem d_T_narrowed_48 : decode b_T_narrowed 48 = .ok (.i2l, 1) := by decide +kernel
theorem d_T_narrowed_49 : decode b_T_narrowed 49 = .ok (.lreturn, 1) := by decide +kernel
theorem d_T_narrowed_50 : decode b_T_narrowed 50 = .ok (.lload_n 1, 1) := by decide +kernel
theorem d_T_narrowed_51 : decode b_T_narrowed 51 = .ok (.lreturn, 1) := by decide +kernel
theorem d_T_narrowed_52 : decode b_T_narrowed 52 = .ok (.lload_n 1, 1) := by decide +kernel
theorem d_T_narrowed_53 : decode b_T_narrowed 53 = .ok (.lconst 0, 1) := by decide +kernel
theorem d_T_narrowed_54 : decode b_T_narrowed 54 = .ok (.lcmp, 1) := by decide +kernel
theorem d_T_narrowed_55 : decode b_T_narrowed 55 = .ok (.ifCond .eq 7, 3) := by decide +kernel
theorem d_T_narrowed_58 : decode b_T_narrowed 58 = .ok (.lconst 1, 1) := by decide +kernel
theorem d_T_narrowed_59 : decode b_T_narrowed 59 = .ok (.goto 4, 3) := by decide +kernel
theorem d_T_narrowed_62 : decode b_T_narrowed 62 = .ok (.lconst 0, 1) := by decide +kernel
theorem d_T_narrowed_63 : decode b_T_narrowed 63 = .ok (.lreturn, 1) := by decide +kernel
theorem d_L_law_0 : decode code 0 = .ok (.new 7, 3) := by decide +kernel
theorem d_L_law_3 : decode code 3 = .ok (.dup, 1) := by decide +kernel
theorem d_L_law_4 : decode code 4 = .ok (.invokespecial 9, 3) := by decide +kernel
theorem d_L_law_7 : decode code 7 = .ok (.astore_n 1, 1) := by decide +kernel
theorem d_L_law_8 : decode code 8 = .ok (.new 10, 3) := by decide +kernel
theorem d_L_law_11 : decode code 11 = .ok (.dup, 1) := by decide +kernel
theorem d_L_law_12 : decode code 12 = .ok (.invokespecial 12, 3) := by decide +kernel
theorem d_L_law_15 : decode code 15 = .ok (.astore_n 2, 1) := by decide +kernel
theorem d_L_law_16 : decode code 16 = .ok (.iconst 0, 1) := by decide +kernel
theorem d_L_law_17 : decode code 17 = .ok (.istore_n 3, 1) := by decide +kernel
theorem d_L_law_18 : decode code 18 = .ok (.iload_n 3, 1) := by decide +kernel
theorem d_L_law_19 : decode code 19 = .ok (.aload_n 0, 1) := by decide +kernel
theorem d_L_law_20 : decode code 20 = .ok (.arraylength, 1) := by decide +kernel
theorem d_L_law_21 : decode code 21 = .ok (.bipush 6, 2) := by decide +kernel
theorem d_L_law_23 : decode code 23 = .ok (.isub, 1) := by decide +kernel
theorem d_L_law_24 : decode code 24 = .ok (.if_icmp .gt 1265, 3) := by decide +kernel
theorem d_L_law_27 : decode code 27 = .ok (.aload_n 0, 1) := by decide +kernel
theorem d_L_law_28 : decode code 28 = .ok (.iload_n 3, 1) := by decide +kernel
theorem d_L_law_29 : decode code 29 = .ok (.iaload, 1) := by decide +kernel
theorem d_L_law_30 : decode code 30 = .ok (.bipush 63, 2) := by decide +kernel
theorem d_L_law_32 : decode code 32 = .ok (.iand, 1) := by decide +kernel
theorem d_L_law_33 : decode code 33 = .ok (.tableswitch 1250 0 35 #[159, 202, 235, 268, 291, 334, 357, 370, 393, 416, 429, 462, 495, 518, 551, 584, 607, 640, 673, 696, 729, 742, 786, 820, 843, 856, 889, 902, 915, 958, 981, 1014, 1037, 1080, 1153, 1187], 159) := by decide +kernel
theorem d_L_law_192 : decode code 192 = .ok (.aload_n 1, 1) := by decide +kernel
theorem d_L_law_193 : decode code 193 = .ok (.aload_n 0, 1) := by decide +kernel
theorem d_L_law_194 : decode code 194 = .ok (.iload_n 3, 1) := by decide +kernel
theorem d_L_law_195 : decode code 195 = .ok (.iconst 1, 1) := by decide +kernel
theorem d_L_law_196 : decode code 196 = .ok (.iadd, 1) := by decide +kernel
theorem d_L_law_197 : decode code 197 = .ok (.iaload, 1) := by decide +kernel
theorem d_L_law_198 : decode code 198 = .ok (.aload_n 0, 1) := by decide +kernel
theorem d_L_law_199 : decode code 199 = .ok (.iload_n 3, 1) := by decide +kernel
theorem d_L_law_200 : decode code 200 = .ok (.iconst 2, 1) := by decide +kernel
theorem d_L_law_201 : decode code 201 = .ok (.iadd, 1) := by decide +kernel
theorem d_L_law_202 : decode code 202 = .ok (.iaload, 1) := by decide +kernel
theorem d_L_law_203 : decode code 203 = .ok (.aload_n 0, 1) := by decide +kernel
theorem d_L_law_204 : decode code 204 = .ok (.iload_n 3, 1) := by decide +kernel
theorem d_L_law_205 : decode code 205 = .ok (.iconst 3, 1) := by decide +kernel
theorem d_L_law_206 : decode code 206 = .ok (.iadd, 1) := by decide +kernel
theorem d_L_law_207 : decode code 207 = .ok (.iaload, 1) := by decide +kernel
theorem d_L_law_208 : decode code 208 = .ok (.invokevirtual 13, 3) := by decide +kernel
theorem d_L_law_211 : decode code 211 = .ok (.aload_n 2, 1) := by decide +kernel
theorem d_L_law_212 : decode code 212 = .ok (.aload_n 0, 1) := by decide +kernel
theorem d_L_law_213 : decode code 213 = .ok (.iload_n 3, 1) := by decide +kernel
theorem d_L_law_214 : decode code 214 = .ok (.iconst 1, 1) := by decide +kernel
theorem d_L_law_215 : decode code 215 = .ok (.iadd, 1) := by decide +kernel
theorem d_L_law_216 : decode code 216 = .ok (.iaload, 1) := by decide +kernel
theorem d_L_law_217 : decode code 217 = .ok (.aload_n 0, 1) := by decide +kernel
theorem d_L_law_218 : decode code 218 = .ok (.iload_n 3, 1) := by decide +kernel
theorem d_L_law_219 : decode code 219 = .ok (.iconst 2, 1) := by decide +kernel
theorem d_L_law_220 : decode code 220 = .ok (.iadd, 1) := by decide +kernel
theorem d_L_law_221 : decode code 221 = .ok (.iaload, 1) := by decide +kernel
theorem d_L_law_222 : decode code 222 = .ok (.aload_n 0, 1) := by decide +kernel
theorem d_L_law_223 : decode code 223 = .ok (.iload_n 3, 1) := by decide +kernel
theorem d_L_law_224 : decode code 224 = .ok (.iconst 3, 1) := by decide +kernel
theorem d_L_law_225 : decode code 225 = .ok (.iadd, 1) := by decide +kernel
theorem d_L_law_226 : decode code 226 = .ok (.iaload, 1) := by decide +kernel
theorem d_L_law_227 : decode code 227 = .ok (.invokevirtual 17, 3) := by decide +kernel
theorem d_L_law_230 : decode code 230 = .ok (.if_icmp .eq 1053, 3) := by decide +kernel
theorem d_L_law_233 : decode code 233 = .ok (.iconst 0, 1) := by decide +kernel
theorem d_L_law_234 : decode code 234 = .ok (.ireturn, 1) := by decide +kernel
theorem d_L_law_235 : decode code 235 = .ok (.aload_n 1, 1) := by decide +kernel
theorem d_L_law_236 : decode code 236 = .ok (.aload_n 0, 1) := by decide +kernel
theorem d_L_law_237 : decode code 237 = .ok (.iload_n 3, 1) := by decide +kernel
theorem d_L_law_238 : decode code 238 = .ok (.iconst 1, 1) := by decide +kernel
theorem d_L_law_239 : decode code 239 = .ok (.iadd, 1) := by decide +kernel
theorem d_L_law_240 : decode code 240 = .ok (.iaload, 1) := by decide +kernel
theorem d_L_law_241 : decode code 241 = .ok (.aload_n 0, 1) := by decide +kernel
theorem d_L_law_242 : decode code 242 = .ok (.iload_n 3, 1) := by decide +kernel
theorem d_L_law_243 : decode code 243 = .ok (.iconst 2, 1) := by decide +kernel
theorem d_L_law_244 : decode code 244 = .ok (.iadd, 1) := by decide +kernel
theorem d_L_law_245 : decode code 245 = .ok (.iaload, 1) := by decide +kernel
theorem d_L_law_246 : decode code 246 = .ok (.invokevirtual 18, 3) := by decide +kernel
theorem d_L_law_249 : decode code 249 = .ok (.aload_n 2, 1) := by decide +kernel
theorem d_L_law_250 : decode code 250 = .ok (.aload_n 0, 1) := by decide +kernel
theorem d_L_law_251 : decode code 251 = .ok (.iload_n 3, 1) := by decide +kernel
theorem d_L_law_252 : decode code 252 = .ok (.iconst 1, 1) := by decide +kernel
theorem d_L_law_253 : decode code 253 = .ok (.iadd, 1) := by decide +kernel
theorem d_L_law_254 : decode code 254 = .ok (.iaload, 1) := by decide +kernel
theorem d_L_law_255 : decode code 255 = .ok (.aload_n 0, 1) := by decide +kernel
theorem d_L_law_256 : decode code 256 = .ok (.iload_n 3, 1) := by decide +kernel
theorem d_L_law_257 : decode code 257 = .ok (.iconst 2, 1) := by decide +kernel
theorem d_L_law_258 : decode code 258 = .ok (.iadd, 1) := by decide +kernel
theorem d_L_law_259 : decode code 259 = .ok (.iaload, 1) := by decide +kernel
theorem d_L_law_260 : decode code 260 = .ok (.invokevirtual 22, 3) := by decide +kernel
theorem d_L_law_263 : decode code 263 = .ok (.if_icmp .eq 1020, 3) := by decide +kernel
theorem d_L_law_266 : decode code 266 = .ok (.iconst 0, 1) := by decide +kernel
theorem d_L_law_267 : decode code 267 = .ok (.ireturn, 1) := by decide +kernel
theorem d_L_law_268 : decode code 268 = .ok (.aload_n 1, 1) := by decide +kernel
theorem d_L_law_269 : decode code 269 = .ok (.aload_n 0, 1) := by decide +kernel
theorem d_L_law_270 : decode code 270 = .ok (.iload_n 3, 1) := by decide +kernel
theorem d_L_law_271 : decode code 271 = .ok (.iconst 1, 1) := by decide +kernel
theorem d_L_law_272 : decode code 272 = .ok (.iadd, 1) := by decide +kernel
theorem d_L_law_273 : decode code 273 = .ok (.iaload, 1) := by decide +kernel
theorem d_L_law_274 : decode code 274 = .ok (.aload_n 0, 1) := by decide +kernel
theorem d_L_law_275 : decode code 275 = .ok (.iload_n 3, 1) := by decide +kernel
theorem d_L_law_276 : decode code 276 = .ok (.iconst 2, 1) := by decide +kernel
theorem d_L_law_277 : decode code 277 = .ok (.iadd, 1) := by decide +kernel
theorem d_L_law_278 : decode code 278 = .ok (.iaload, 1) := by decide +kernel
theorem d_L_law_279 : decode code 279 = .ok (.invokevirtual 23, 3) := by decide +kernel
theorem d_L_law_282 : decode code 282 = .ok (.aload_n 2, 1) := by decide +kernel
theorem d_L_law_283 : decode code 283 = .ok (.aload_n 0, 1) := by decide +kernel
theorem d_L_law_284 : decode code 284 = .ok (.iload_n 3, 1) := by decide +kernel
theorem d_L_law_285 : decode code 285 = .ok (.iconst 1, 1) := by decide +kernel
theorem d_L_law_286 : decode code 286 = .ok (.iadd, 1) := by decide +kernel
theorem d_L_law_287 : decode code 287 = .ok (.iaload, 1) := by decide +kernel
theorem d_L_law_288 : decode code 288 = .ok (.aload_n 0, 1) := by decide +kernel
theorem d_L_law_289 : decode code 289 = .ok (.iload_n 3, 1) := by decide +kernel
theorem d_L_law_290 : decode code 290 = .ok (.iconst 2, 1) := by decide +kernel
theorem d_L_law_291 : decode code 291 = .ok (.iadd, 1) := by decide +kernel
theorem d_L_law_292 : decode code 292 = .ok (.iaload, 1) := by decide +kernel
theorem d_L_law_293 : decode code 293 = .ok (.invokevirtual 26, 3) := by decide +kernel
theorem d_L_law_296 : decode code 296 = .ok (.if_icmp .eq 987, 3) := by decide +kernel
theorem d_L_law_299 : decode code 299 = .ok (.iconst 0, 1) := by decide +kernel
theorem d_L_law_300 : decode code 300 = .ok (.ireturn, 1) := by decide +kernel
theorem d_L_law_301 : decode code 301 = .ok (.aload_n 1, 1) := by decide +kernel
theorem d_L_law_302 : decode code 302 = .ok (.aload_n 0, 1) := by decide +kernel
theorem d_L_law_303 : decode code 303 = .ok (.iload_n 3, 1) := by decide +kernel
theorem d_L_law_304 : decode code 304 = .ok (.iconst 1, 1) := by decide +kernel
theorem d_L_law_305 : decode code 305 = .ok (.iadd, 1) := by decide +kernel
theorem d_L_law_306 : decode code 306 = .ok (.iaload, 1) := by decide +kernel
theorem d_L_law_307 : decode code 307 = .ok (.invokevirtual 27, 3) := by decide +kernel
theorem d_L_law_310 : decode code 310 = .ok (.aload_n 2, 1) := by decide +kernel
theorem d_L_law_311 : decode code 311 = .ok (.aload_n 0, 1) := by decide +kernel
theorem d_L_law_312 : decode code 312 = .ok (.iload_n 3, 1) := by decide +kernel
theorem d_L_law_313 : decode code 313 = .ok (.iconst 1, 1) := by decide +kernel
theorem d_L_law_314 : decode code 314 = .ok (.iadd, 1) := by decide +kernel
theorem d_L_law_315 : decode code 315 = .ok (.iaload, 1) := by decide +kernel
theorem d_L_law_316 : decode code 316 = .ok (.invokevirtual 31, 3) := by decide +kernel
theorem d_L_law_319 : decode code 319 = .ok (.if_icmp .eq 964, 3) := by decide +kernel
theorem d_L_law_322 : decode code 322 = .ok (.iconst 0, 1) := by decide +kernel
theorem d_L_law_323 : decode code 323 = .ok (.ireturn, 1) := by decide +kernel
theorem d_L_law_324 : decode code 324 = .ok (.aload_n 1, 1) := by decide +kernel
theorem d_L_law_325 : decode code 325 = .ok (.aload_n 0, 1) := by decide +kernel
theorem d_L_law_326 : decode code 326 = .ok (.iload_n 3, 1) := by decide +kernel
theorem d_L_law_327 : decode code 327 = .ok (.iconst 1, 1) := by decide +kernel
theorem d_L_law_328 : decode code 328 = .ok (.iadd, 1) := by decide +kernel
theorem d_L_law_329 : decode code 329 = .ok (.iaload, 1) := by decide +kernel
theorem d_L_law_330 : decode code 330 = .ok (.aload_n 0, 1) := by decide +kernel
theorem d_L_law_331 : decode code 331 = .ok (.iload_n 3, 1) := by decide +kernel
theorem d_L_law_332 : decode code 332 = .ok (.iconst 2, 1) := by decide +kernel
theorem d_L_law_333 : decode code 333 = .ok (.iadd, 1) := by decide +kernel
theorem d_L_law_334 : decode code 334 = .ok (.iaload, 1) := by decide +kernel
theorem d_L_law_335 : decode code 335 = .ok (.aload_n 0, 1) := by decide +kernel
theorem d_L_law_336 : decode code 336 = .ok (.iload_n 3, 1) := by decide +kernel
theorem d_L_law_337 : decode code 337 = .ok (.iconst 3, 1) := by decide +kernel
theorem d_L_law_338 : decode code 338 = .ok (.iadd, 1) := by decide +kernel
theorem d_L_law_339 : decode code 339 = .ok (.iaload, 1) := by decide +kernel
theorem d_L_law_340 : decode code 340 = .ok (.invokevirtual 32, 3) := by decide +kernel
theorem d_L_law_343 : decode code 343 = .ok (.aload_n 2, 1) := by decide +kernel
theorem d_L_law_344 : decode code 344 = .ok (.aload_n 0, 1) := by decide +kernel
theorem d_L_law_345 : decode code 345 = .ok (.iload_n 3, 1) := by decide +kernel
theorem d_L_law_346 : decode code 346 = .ok (.iconst 1, 1) := by decide +kernel
theorem d_L_law_347 : decode code 347 = .ok (.iadd, 1) := by decide +kernel
theorem d_L_law_348 : decode code 348 = .ok (.iaload, 1) := by decide +kernel
theorem d_L_law_349 : decode code 349 = .ok (.aload_n 0, 1) := by decide +kernel
theorem d_L_law_350 : decode code 350 = .ok (.iload_n 3, 1) := by decide +kernel
theorem d_L_law_351 : decode code 351 = .ok (.iconst 2, 1) := by decide +kernel
theorem d_L_law_352 : decode code 352 = .ok (.iadd, 1) := by decide +kernel
theorem d_L_law_353 : decode code 353 = .ok (.iaload, 1) := by decide +kernel
theorem d_L_law_354 : decode code 354 = .ok (.aload_n 0, 1) := by decide +kernel
theorem d_L_law_355 : decode code 355 = .ok (.iload_n 3, 1) := by decide +kernel
theorem d_L_law_356 : decode code 356 = .ok (.iconst 3, 1) := by decide +kernel
theorem d_L_law_357 : decode code 357 = .ok (.iadd, 1) := by decide +kernel
theorem d_L_law_358 : decode code 358 = .ok (.iaload, 1) := by decide +kernel
theorem d_L_law_359 : decode code 359 = .ok (.invokevirtual 35, 3) := by decide +kernel
theorem d_L_law_362 : decode code 362 = .ok (.if_icmp .eq 921, 3) := by decide +kernel
theorem d_L_law_365 : decode code 365 = .ok (.iconst 0, 1) := by decide +kernel
theorem d_L_law_366 : decode code 366 = .ok (.ireturn, 1) := by decide +kernel
theorem d_L_law_367 : decode code 367 = .ok (.aload_n 1, 1) := by decide +kernel
theorem d_L_law_368 : decode code 368 = .ok (.aload_n 0, 1) := by decide +kernel
theorem d_L_law_369 : decode code 369 = .ok (.iload_n 3, 1) := by decide +kernel
theorem d_L_law_370 : decode code 370 = .ok (.iconst 1, 1) := by decide +kernel
theorem d_L_law_371 : decode code 371 = .ok (.iadd, 1) := by decide +kernel
theorem d_L_law_372 : decode code 372 = .ok (.iaload, 1) := by decide +kernel
theorem d_L_law_373 : decode code 373 = .ok (.invokevirtual 36, 3) := by decide +kernel
theorem d_L_law_376 : decode code 376 = .ok (.aload_n 2, 1) := by decide +kernel
theorem d_L_law_377 : decode code 377 = .ok (.aload_n 0, 1) := by decide +kernel
theorem d_L_law_378 : decode code 378 = .ok (.iload_n 3, 1) := by decide +kernel
theorem d_L_law_379 : decode code 379 = .ok (.iconst 1, 1) := by decide +kernel
theorem d_L_law_380 : decode code 380 = .ok (.iadd, 1) := by decide +kernel
theorem d_L_law_381 : decode code 381 = .ok (.iaload, 1) := by decide +kernel
theorem d_L_law_382 : decode code 382 = .ok (.invokevirtual 39, 3) := by decide +kernel
theorem d_L_law_385 : decode code 385 = .ok (.if_icmp .eq 898, 3) := by decide +kernel
theorem d_L_law_388 : decode code 388 = .ok (.iconst 0, 1) := by decide +kernel
theorem d_L_law_389 : decode code 389 = .ok (.ireturn, 1) := by decide +kernel
theorem d_L_law_390 : decode code 390 = .ok (.aload_n 1, 1) := by decide +kernel
theorem d_L_law_391 : decode code 391 = .ok (.invokevirtual 40, 3) := by decide +kernel
theorem d_L_law_394 : decode code 394 = .ok (.aload_n 2, 1) := by decide +kernel
theorem d_L_law_395 : decode code 395 = .ok (.invokevirtual 44, 3) := by decide +kernel
theorem d_L_law_398 : decode code 398 = .ok (.if_icmp .eq 885, 3) := by decide +kernel
theorem d_L_law_401 : decode code 401 = .ok (.iconst 0, 1) := by decide +kernel
theorem d_L_law_402 : decode code 402 = .ok (.ireturn, 1) := by decide +kernel
theorem d_L_law_403 : decode code 403 = .ok (.aload_n 1, 1) := by decide +kernel
theorem d_L_law_404 : decode code 404 = .ok (.aload_n 0, 1) := by decide +kernel
theorem d_L_law_405 : decode code 405 = .ok (.iload_n 3, 1) := by decide +kernel
theorem d_L_law_406 : decode code 406 = .ok (.iconst 1, 1) := by decide +kernel
theorem d_L_law_407 : decode code 407 = .ok (.iadd, 1) := by decide +kernel
theorem d_L_law_408 : decode code 408 = .ok (.iaload, 1) := by decide +kernel
theorem d_L_law_409 : decode code 409 = .ok (.invokevirtual 45, 3) := by decide +kernel
theorem d_L_law_412 : decode code 412 = .ok (.aload_n 2, 1) := by decide +kernel
theorem d_L_law_413 : decode code 413 = .ok (.aload_n 0, 1) := by decide +kernel
theorem d_L_law_414 : decode code 414 = .ok (.iload_n 3, 1) := by decide +kernel
theorem d_L_law_415 : decode code 415 = .ok (.iconst 1, 1) := by decide +kernel
theorem d_L_law_416 : decode code 416 = .ok (.iadd, 1) := by decide +kernel
theorem d_L_law_417 : decode code 417 = .ok (.iaload, 1) := by decide +kernel
theorem d_L_law_418 : decode code 418 = .ok (.invokevirtual 48, 3) := by decide +kernel
theorem d_L_law_421 : decode code 421 = .ok (.if_icmp .eq 862, 3) := by decide +kernel
theorem d_L_law_424 : decode code 424 = .ok (.iconst 0, 1) := by decide +kernel
theorem d_L_law_425 : decode code 425 = .ok (.ireturn, 1) := by decide +kernel
theorem d_L_law_426 : decode code 426 = .ok (.aload_n 1, 1) := by decide +kernel
theorem d_L_law_427 : decode code 427 = .ok (.aload_n 0, 1) := by decide +kernel
theorem d_L_law_428 : decode code 428 = .ok (.iload_n 3, 1) := by decide +kernel
theorem d_L_law_429 : decode code 429 = .ok (.iconst 1, 1) := by decide +kernel
theorem d_L_law_430 : decode code 430 = .ok (.iadd, 1) := by decide +kernel
theorem d_L_law_431 : decode code 431 = .ok (.iaload, 1) := by decide +kernel
theorem d_L_law_432 : decode code 432 = .ok (.invokevirtual 49, 3) := by decide +kernel
theorem d_L_law_435 : decode code 435 = .ok (.aload_n 2, 1) := by decide +kernel
theorem d_L_law_436 : decode code 436 = .ok (.aload_n 0, 1) := by decide +kernel
theorem d_L_law_437 : decode code 437 = .ok (.iload_n 3, 1) := by decide +kernel
theorem d_L_law_438 : decode code 438 = .ok (.iconst 1, 1) := by decide +kernel
theorem d_L_law_439 : decode code 439 = .ok (.iadd, 1) := by decide +kernel
theorem d_L_law_440 : decode code 440 = .ok (.iaload, 1) := by decide +kernel
theorem d_L_law_441 : decode code 441 = .ok (.invokevirtual 52, 3) := by decide +kernel
theorem d_L_law_444 : decode code 444 = .ok (.if_icmp .eq 839, 3) := by decide +kernel
theorem d_L_law_447 : decode code 447 = .ok (.iconst 0, 1) := by decide +kernel
theorem d_L_law_448 : decode code 448 = .ok (.ireturn, 1) := by decide +kernel
theorem d_L_law_449 : decode code 449 = .ok (.aload_n 1, 1) := by decide +kernel
theorem d_L_law_450 : decode code 450 = .ok (.invokevirtual 53, 3) := by decide +kernel
theorem d_L_law_453 : decode code 453 = .ok (.aload_n 2, 1) := by decide +kernel
theorem d_L_law_454 : decode code 454 = .ok (.invokevirtual 56, 3) := by decide +kernel
theorem d_L_law_457 : decode code 457 = .ok (.if_icmp .eq 826, 3) := by decide +kernel
theorem d_L_law_460 : decode code 460 = .ok (.iconst 0, 1) := by decide +kernel
theorem d_L_law_461 : decode code 461 = .ok (.ireturn, 1) := by decide +kernel
theorem d_L_law_462 : decode code 462 = .ok (.aload_n 1, 1) := by decide +kernel
theorem d_L_law_463 : decode code 463 = .ok (.aload_n 0, 1) := by decide +kernel
theorem d_L_law_464 : decode code 464 = .ok (.iload_n 3, 1) := by decide +kernel
theorem d_L_law_465 : decode code 465 = .ok (.iconst 1, 1) := by decide +kernel
theorem d_L_law_466 : decode code 466 = .ok (.iadd, 1) := by decide +kernel
theorem d_L_law_467 : decode code 467 = .ok (.iaload, 1) := by decide +kernel
theorem d_L_law_468 : decode code 468 = .ok (.aload_n 0, 1) := by decide +kernel
theorem d_L_law_469 : decode code 469 = .ok (.iload_n 3, 1) := by decide +kernel
theorem d_L_law_470 : decode code 470 = .ok (.iconst 2, 1) := by decide +kernel
theorem d_L_law_471 : decode code 471 = .ok (.iadd, 1) := by decide +kernel
theorem d_L_law_472 : decode code 472 = .ok (.iaload, 1) := by decide +kernel
theorem d_L_law_473 : decode code 473 = .ok (.invokevirtual 57, 3) := by decide +kernel
theorem d_L_law_476 : decode code 476 = .ok (.aload_n 2, 1) := by decide +kernel
theorem d_L_law_477 : decode code 477 = .ok (.aload_n 0, 1) := by decide +kernel
theorem d_L_law_478 : decode code 478 = .ok (.iload_n 3, 1) := by decide +kernel
theorem d_L_law_479 : decode code 479 = .ok (.iconst 1, 1) := by decide +kernel
theorem d_L_law_480 : decode code 480 = .ok (.iadd, 1) := by decide +kernel
theorem d_L_law_481 : decode code 481 = .ok (.iaload, 1) := by decide +kernel
theorem d_L_law_482 : decode code 482 = .ok (.aload_n 0, 1) := by decide +kernel
theorem d_L_law_483 : decode code 483 = .ok (.iload_n 3, 1) := by decide +kernel
theorem d_L_law_484 : decode code 484 = .ok (.iconst 2, 1) := by decide +kernel
theorem d_L_law_485 : decode code 485 = .ok (.iadd, 1) := by decide +kernel
theorem d_L_law_486 : decode code 486 = .ok (.iaload, 1) := by decide +kernel
theorem d_L_law_487 : decode code 487 = .ok (.invokevirtual 60, 3) := by decide +kernel
theorem d_L_law_490 : decode code 490 = .ok (.if_icmp .eq 793, 3) := by decide +kernel
theorem d_L_law_493 : decode code 493 = .ok (.iconst 0, 1) := by decide +kernel
theorem d_L_law_494 : decode code 494 = .ok (.ireturn, 1) := by decide +kernel
theorem d_L_law_495 : decode code 495 = .ok (.aload_n 1, 1) := by decide +kernel
theorem d_L_law_496 : decode code 496 = .ok (.aload_n 0, 1) := by decide +kernel
theorem d_L_law_497 : decode code 497 = .ok (.iload_n 3, 1) := by decide +kernel
theorem d_L_law_498 : decode code 498 = .ok (.iconst 1, 1) := by decide +kernel
theorem d_L_law_499 : decode code 499 = .ok (.iadd, 1) := by decide +kernel
theorem d_L_law_500 : decode code 500 = .ok (.iaload, 1) := by decide +kernel
theorem d_L_law_501 : decode code 501 = .ok (.aload_n 0, 1) := by decide +kernel
theorem d_L_law_502 : decode code 502 = .ok (.iload_n 3, 1) := by decide +kernel
theorem d_L_law_503 : decode code 503 = .ok (.iconst 2, 1) := by decide +kernel
theorem d_L_law_504 : decode code 504 = .ok (.iadd, 1) := by decide +kernel
theorem d_L_law_505 : decode code 505 = .ok (.iaload, 1) := by decide +kernel
theorem d_L_law_506 : decode code 506 = .ok (.invokevirtual 61, 3) := by decide +kernel
theorem d_L_law_509 : decode code 509 = .ok (.aload_n 2, 1) := by decide +kernel
theorem d_L_law_510 : decode code 510 = .ok (.aload_n 0, 1) := by decide +kernel
theorem d_L_law_511 : decode code 511 = .ok (.iload_n 3, 1) := by decide +kernel
theorem d_L_law_512 : decode code 512 = .ok (.iconst 1, 1) := by decide +kernel
theorem d_L_law_513 : decode code 513 = .ok (.iadd, 1) := by decide +kernel
theorem d_L_law_514 : decode code 514 = .ok (.iaload, 1) := by decide +kernel
theorem d_L_law_515 : decode code 515 = .ok (.aload_n 0, 1) := by decide +kernel
theorem d_L_law_516 : decode code 516 = .ok (.iload_n 3, 1) := by decide +kernel
theorem d_L_law_517 : decode code 517 = .ok (.iconst 2, 1) := by decide +kernel
theorem d_L_law_518 : decode code 518 = .ok (.iadd, 1) := by decide +kernel
theorem d_L_law_519 : decode code 519 = .ok (.iaload, 1) := by decide +kernel
theorem d_L_law_520 : decode code 520 = .ok (.invokevirtual 64, 3) := by decide +kernel
theorem d_L_law_523 : decode code 523 = .ok (.if_icmp .eq 760, 3) := by decide +kernel
theorem d_L_law_526 : decode code 526 = .ok (.iconst 0, 1) := by decide +kernel
theorem d_L_law_527 : decode code 527 = .ok (.ireturn, 1) := by decide +kernel
theorem d_L_law_528 : decode code 528 = .ok (.aload_n 1, 1) := by decide +kernel
theorem d_L_law_529 : decode code 529 = .ok (.aload_n 0, 1) := by decide +kernel
theorem d_L_law_530 : decode code 530 = .ok (.iload_n 3, 1) := by decide +kernel
theorem d_L_law_531 : decode code 531 = .ok (.iconst 1, 1) := by decide +kernel
theorem d_L_law_532 : decode code 532 = .ok (.iadd, 1) := by decide +kernel
theorem d_L_law_533 : decode code 533 = .ok (.iaload, 1) := by decide +kernel
theorem d_L_law_534 : decode code 534 = .ok (.invokevirtual 65, 3) := by decide +kernel
theorem d_L_law_537 : decode code 537 = .ok (.aload_n 2, 1) := by decide +kernel
theorem d_L_law_538 : decode code 538 = .ok (.aload_n 0, 1) := by decide +kernel
theorem d_L_law_539 : decode code 539 = .ok (.iload_n 3, 1) := by decide +kernel
theorem d_L_law_540 : decode code 540 = .ok (.iconst 1, 1) := by decide +kernel
theorem d_L_law_541 : decode code 541 = .ok (.iadd, 1) := by decide +kernel
theorem d_L_law_542 : decode code 542 = .ok (.iaload, 1) := by decide +kernel
theorem d_L_law_543 : decode code 543 = .ok (.invokevirtual 68, 3) := by decide +kernel
theorem d_L_law_546 : decode code 546 = .ok (.if_icmp .eq 737, 3) := by decide +kernel
theorem d_L_law_549 : decode code 549 = .ok (.iconst 0, 1) := by decide +kernel
theorem d_L_law_550 : decode code 550 = .ok (.ireturn, 1) := by decide +kernel
theorem d_L_law_551 : decode code 551 = .ok (.aload_n 1, 1) := by decide +kernel
theorem d_L_law_552 : decode code 552 = .ok (.aload_n 0, 1) := by decide +kernel
theorem d_L_law_553 : decode code 553 = .ok (.iload_n 3, 1) := by decide +kernel
theorem d_L_law_554 : decode code 554 = .ok (.iconst 1, 1) := by decide +kernel
theorem d_L_law_555 : decode code 555 = .ok (.iadd, 1) := by decide +kernel
theorem d_L_law_556 : decode code 556 = .ok (.iaload, 1) := by decide +kernel
theorem d_L_law_557 : decode code 557 = .ok (.aload_n 0, 1) := by decide +kernel
theorem d_L_law_558 : decode code 558 = .ok (.iload_n 3, 1) := by decide +kernel
theorem d_L_law_559 : decode code 559 = .ok (.iconst 2, 1) := by decide +kernel
theorem d_L_law_560 : decode code 560 = .ok (.iadd, 1) := by decide +kernel
theorem d_L_law_561 : decode code 561 = .ok (.iaload, 1) := by decide +kernel
theorem d_L_law_562 : decode code 562 = .ok (.invokevirtual 69, 3) := by decide +kernel
theorem d_L_law_565 : decode code 565 = .ok (.aload_n 2, 1) := by decide +kernel
theorem d_L_law_566 : decode code 566 = .ok (.aload_n 0, 1) := by decide +kernel
theorem d_L_law_567 : decode code 567 = .ok (.iload_n 3, 1) := by decide +kernel
theorem d_L_law_568 : decode code 568 = .ok (.iconst 1, 1) := by decide +kernel
theorem d_L_law_569 : decode code 569 = .ok (.iadd, 1) := by decide +kernel
theorem d_L_law_570 : decode code 570 = .ok (.iaload, 1) := by decide +kernel
theorem d_L_law_571 : decode code 571 = .ok (.aload_n 0, 1) := by decide +kernel
theorem d_L_law_572 : decode code 572 = .ok (.iload_n 3, 1) := by decide +kernel
theorem d_L_law_573 : decode code 573 = .ok (.iconst 2, 1) := by decide +kernel
theorem d_L_law_574 : decode code 574 = .ok (.iadd, 1) := by decide +kernel
theorem d_L_law_575 : decode code 575 = .ok (.iaload, 1) := by decide +kernel
theorem d_L_law_576 : decode code 576 = .ok (.invokevirtual 72, 3) := by decide +kernel
theorem d_L_law_579 : decode code 579 = .ok (.if_icmp .eq 704, 3) := by decide +kernel
theorem d_L_law_582 : decode code 582 = .ok (.iconst 0, 1) := by decide +kernel
theorem d_L_law_583 : decode code 583 = .ok (.ireturn, 1) := by decide +kernel
theorem d_L_law_584 : decode code 584 = .ok (.aload_n 1, 1) := by decide +kernel
theorem d_L_law_585 : decode code 585 = .ok (.aload_n 0, 1) := by decide +kernel
theorem d_L_law_586 : decode code 586 = .ok (.iload_n 3, 1) := by decide +kernel
theorem d_L_law_587 : decode code 587 = .ok (.iconst 1, 1) := by decide +kernel
theorem d_L_law_588 : decode code 588 = .ok (.iadd, 1) := by decide +kernel
theorem d_L_law_589 : decode code 589 = .ok (.iaload, 1) := by decide +kernel
theorem d_L_law_590 : decode code 590 = .ok (.aload_n 0, 1) := by decide +kernel
theorem d_L_law_591 : decode code 591 = .ok (.iload_n 3, 1) := by decide +kernel
theorem d_L_law_592 : decode code 592 = .ok (.iconst 2, 1) := by decide +kernel
theorem d_L_law_593 : decode code 593 = .ok (.iadd, 1) := by decide +kernel
theorem d_L_law_594 : decode code 594 = .ok (.iaload, 1) := by decide +kernel
theorem d_L_law_595 : decode code 595 = .ok (.invokevirtual 73, 3) := by decide +kernel
theorem d_L_law_598 : decode code 598 = .ok (.aload_n 2, 1) := by decide +kernel
theorem d_L_law_599 : decode code 599 = .ok (.aload_n 0, 1) := by decide +kernel
theorem d_L_law_600 : decode code 600 = .ok (.iload_n 3, 1) := by decide +kernel
theorem d_L_law_601 : decode code 601 = .ok (.iconst 1, 1) := by decide +kernel
theorem d_L_law_602 : decode code 602 = .ok (.iadd, 1) := by decide +kernel
theorem d_L_law_603 : decode code 603 = .ok (.iaload, 1) := by decide +kernel
theorem d_L_law_604 : decode code 604 = .ok (.aload_n 0, 1) := by decide +kernel
theorem d_L_law_605 : decode code 605 = .ok (.iload_n 3, 1) := by decide +kernel
theorem d_L_law_606 : decode code 606 = .ok (.iconst 2, 1) := by decide +kernel
theorem d_L_law_607 : decode code 607 = .ok (.iadd, 1) := by decide +kernel
theorem d_L_law_608 : decode code 608 = .ok (.iaload, 1) := by decide +kernel
theorem d_L_law_609 : decode code 609 = .ok (.invokevirtual 76, 3) := by decide +kernel
theorem d_L_law_612 : decode code 612 = .ok (.if_icmp .eq 671, 3) := by decide +kernel
theorem d_L_law_615 : decode code 615 = .ok (.iconst 0, 1) := by decide +kernel
theorem d_L_law_616 : decode code 616 = .ok (.ireturn, 1) := by decide +kernel
theorem d_L_law_617 : decode code 617 = .ok (.aload_n 1, 1) := by decide +kernel
theorem d_L_law_618 : decode code 618 = .ok (.aload_n 0, 1) := by decide +kernel
theorem d_L_law_619 : decode code 619 = .ok (.iload_n 3, 1) := by decide +kernel
theorem d_L_law_620 : decode code 620 = .ok (.iconst 1, 1) := by decide +kernel
theorem d_L_law_621 : decode code 621 = .ok (.iadd, 1) := by decide +kernel
theorem d_L_law_622 : decode code 622 = .ok (.iaload, 1) := by decide +kernel
theorem d_L_law_623 : decode code 623 = .ok (.invokevirtual 77, 3) := by decide +kernel
theorem d_L_law_626 : decode code 626 = .ok (.aload_n 2, 1) := by decide +kernel
theorem d_L_law_627 : decode code 627 = .ok (.aload_n 0, 1) := by decide +kernel
theorem d_L_law_628 : decode code 628 = .ok (.iload_n 3, 1) := by decide +kernel
theorem d_L_law_629 : decode code 629 = .ok (.iconst 1, 1) := by decide +kernel
theorem d_L_law_630 : decode code 630 = .ok (.iadd, 1) := by decide +kernel
theorem d_L_law_631 : decode code 631 = .ok (.iaload, 1) := by decide +kernel
theorem d_L_law_632 : decode code 632 = .ok (.invokevirtual 80, 3) := by decide +kernel
theorem d_L_law_635 : decode code 635 = .ok (.if_icmp .eq 648, 3) := by decide +kernel
theorem d_L_law_638 : decode code 638 = .ok (.iconst 0, 1) := by decide +kernel
theorem d_L_law_639 : decode code 639 = .ok (.ireturn, 1) := by decide +kernel
theorem d_L_law_640 : decode code 640 = .ok (.aload_n 1, 1) := by decide +kernel
theorem d_L_law_641 : decode code 641 = .ok (.aload_n 0, 1) := by decide +kernel
theorem d_L_law_642 : decode code 642 = .ok (.iload_n 3, 1) := by decide +kernel
theorem d_L_law_643 : decode code 643 = .ok (.iconst 1, 1) := by decide +kernel
theorem d_L_law_644 : decode code 644 = .ok (.iadd, 1) := by decide +kernel
theorem d_L_law_645 : decode code 645 = .ok (.iaload, 1) := by decide +kernel
theorem d_L_law_646 : decode code 646 = .ok (.aload_n 0, 1) := by decide +kernel
theorem d_L_law_647 : decode code 647 = .ok (.iload_n 3, 1) := by decide +kernel
theorem d_L_law_648 : decode code 648 = .ok (.iconst 2, 1) := by decide +kernel
theorem d_L_law_649 : decode code 649 = .ok (.iadd, 1) := by decide +kernel
theorem d_L_law_650 : decode code 650 = .ok (.iaload, 1) := by decide +kernel
theorem d_L_law_651 : decode code 651 = .ok (.invokevirtual 81, 3) := by decide +kernel
theorem d_L_law_654 : decode code 654 = .ok (.aload_n 2, 1) := by decide +kernel
theorem d_L_law_655 : decode code 655 = .ok (.aload_n 0, 1) := by decide +kernel
theorem d_L_law_656 : decode code 656 = .ok (.iload_n 3, 1) := by decide +kernel
theorem d_L_law_657 : decode code 657 = .ok (.iconst 1, 1) := by decide +kernel
theorem d_L_law_658 : decode code 658 = .ok (.iadd, 1) := by decide +kernel
theorem d_L_law_659 : decode code 659 = .ok (.iaload, 1) := by decide +kernel
theorem d_L_law_660 : decode code 660 = .ok (.aload_n 0, 1) := by decide +kernel
theorem d_L_law_661 : decode code 661 = .ok (.iload_n 3, 1) := by decide +kernel
theorem d_L_law_662 : decode code 662 = .ok (.iconst 2, 1) := by decide +kernel
theorem d_L_law_663 : decode code 663 = .ok (.iadd, 1) := by decide +kernel
theorem d_L_law_664 : decode code 664 = .ok (.iaload, 1) := by decide +kernel
theorem d_L_law_665 : decode code 665 = .ok (.invokevirtual 84, 3) := by decide +kernel
theorem d_L_law_668 : decode code 668 = .ok (.if_icmp .eq 615, 3) := by decide +kernel
theorem d_L_law_671 : decode code 671 = .ok (.iconst 0, 1) := by decide +kernel
theorem d_L_law_672 : decode code 672 = .ok (.ireturn, 1) := by decide +kernel
theorem d_L_law_673 : decode code 673 = .ok (.aload_n 1, 1) := by decide +kernel
theorem d_L_law_674 : decode code 674 = .ok (.aload_n 0, 1) := by decide +kernel
theorem d_L_law_675 : decode code 675 = .ok (.iload_n 3, 1) := by decide +kernel
theorem d_L_law_676 : decode code 676 = .ok (.iconst 1, 1) := by decide +kernel
theorem d_L_law_677 : decode code 677 = .ok (.iadd, 1) := by decide +kernel
theorem d_L_law_678 : decode code 678 = .ok (.iaload, 1) := by decide +kernel
theorem d_L_law_679 : decode code 679 = .ok (.aload_n 0, 1) := by decide +kernel
theorem d_L_law_680 : decode code 680 = .ok (.iload_n 3, 1) := by decide +kernel
theorem d_L_law_681 : decode code 681 = .ok (.iconst 2, 1) := by decide +kernel
theorem d_L_law_682 : decode code 682 = .ok (.iadd, 1) := by decide +kernel
theorem d_L_law_683 : decode code 683 = .ok (.iaload, 1) := by decide +kernel
theorem d_L_law_684 : decode code 684 = .ok (.invokevirtual 85, 3) := by decide +kernel
theorem d_L_law_687 : decode code 687 = .ok (.aload_n 2, 1) := by decide +kernel
theorem d_L_law_688 : decode code 688 = .ok (.aload_n 0, 1) := by decide +kernel
theorem d_L_law_689 : decode code 689 = .ok (.iload_n 3, 1) := by decide +kernel
theorem d_L_law_690 : decode code 690 = .ok (.iconst 1, 1) := by decide +kernel
theorem d_L_law_691 : decode code 691 = .ok (.iadd, 1) := by decide +kernel
theorem d_L_law_692 : decode code 692 = .ok (.iaload, 1) := by decide +kernel
theorem d_L_law_693 : decode code 693 = .ok (.aload_n 0, 1) := by decide +kernel
theorem d_L_law_694 : decode code 694 = .ok (.iload_n 3, 1) := by decide +kernel
theorem d_L_law_695 : decode code 695 = .ok (.iconst 2, 1) := by decide +kernel
theorem d_L_law_696 : decode code 696 = .ok (.iadd, 1) := by decide +kernel
theorem d_L_law_697 : decode code 697 = .ok (.iaload, 1) := by decide +kernel
theorem d_L_law_698 : decode code 698 = .ok (.invokevirtual 88, 3) := by decide +kernel
theorem d_L_law_701 : decode code 701 = .ok (.if_icmp .eq 582, 3) := by decide +kernel
theorem d_L_law_704 : decode code 704 = .ok (.iconst 0, 1) := by decide +kernel
theorem d_L_law_705 : decode code 705 = .ok (.ireturn, 1) := by decide +kernel
theorem d_L_law_706 : decode code 706 = .ok (.aload_n 1, 1) := by decide +kernel
theorem d_L_law_707 : decode code 707 = .ok (.aload_n 0, 1) := by decide +kernel
theorem d_L_law_708 : decode code 708 = .ok (.iload_n 3, 1) := by decide +kernel
theorem d_L_law_709 : decode code 709 = .ok (.iconst 1, 1) := by decide +kernel
theorem d_L_law_710 : decode code 710 = .ok (.iadd, 1) := by decide +kernel
theorem d_L_law_711 : decode code 711 = .ok (.iaload, 1) := by decide +kernel
theorem d_L_law_712 : decode code 712 = .ok (.invokevirtual 89, 3) := by decide +kernel
theorem d_L_law_715 : decode code 715 = .ok (.aload_n 2, 1) := by decide +kernel
theorem d_L_law_716 : decode code 716 = .ok (.aload_n 0, 1) := by decide +kernel
theorem d_L_law_717 : decode code 717 = .ok (.iload_n 3, 1) := by decide +kernel
theorem d_L_law_718 : decode code 718 = .ok (.iconst 1, 1) := by decide +kernel
theorem d_L_law_719 : decode code 719 = .ok (.iadd, 1) := by decide +kernel
theorem d_L_law_720 : decode code 720 = .ok (.iaload, 1) := by decide +kernel
theorem d_L_law_721 : decode code 721 = .ok (.invokevirtual 92, 3) := by decide +kernel
theorem d_L_law_724 : decode code 724 = .ok (.if_icmp .eq 559, 3) := by decide +kernel
theorem d_L_law_727 : decode code 727 = .ok (.iconst 0, 1) := by decide +kernel
theorem d_L_law_728 : decode code 728 = .ok (.ireturn, 1) := by decide +kernel
theorem d_L_law_729 : decode code 729 = .ok (.aload_n 1, 1) := by decide +kernel
theorem d_L_law_730 : decode code 730 = .ok (.aload_n 0, 1) := by decide +kernel
theorem d_L_law_731 : decode code 731 = .ok (.iload_n 3, 1) := by decide +kernel
theorem d_L_law_732 : decode code 732 = .ok (.iconst 1, 1) := by decide +kernel
theorem d_L_law_733 : decode code 733 = .ok (.iadd, 1) := by decide +kernel
theorem d_L_law_734 : decode code 734 = .ok (.iaload, 1) := by decide +kernel
theorem d_L_law_735 : decode code 735 = .ok (.aload_n 0, 1) := by decide +kernel
theorem d_L_law_736 : decode code 736 = .ok (.iload_n 3, 1) := by decide +kernel
theorem d_L_law_737 : decode code 737 = .ok (.iconst 2, 1) := by decide +kernel
theorem d_L_law_738 : decode code 738 = .ok (.iadd, 1) := by decide +kernel
theorem d_L_law_739 : decode code 739 = .ok (.iaload, 1) := by decide +kernel
theorem d_L_law_740 : decode code 740 = .ok (.invokevirtual 93, 3) := by decide +kernel
theorem d_L_law_743 : decode code 743 = .ok (.aload_n 2, 1) := by decide +kernel
theorem d_L_law_744 : decode code 744 = .ok (.aload_n 0, 1) := by decide +kernel
theorem d_L_law_745 : decode code 745 = .ok (.iload_n 3, 1) := by decide +kernel
theorem d_L_law_746 : decode code 746 = .ok (.iconst 1, 1) := by decide +kernel
theorem d_L_law_747 : decode code 747 = .ok (.iadd, 1) := by decide +kernel
theorem d_L_law_748 : decode code 748 = .ok (.iaload, 1) := by decide +kernel
theorem d_L_law_749 : decode code 749 = .ok (.aload_n 0, 1) := by decide +kernel
theorem d_L_law_750 : decode code 750 = .ok (.iload_n 3, 1) := by decide +kernel
theorem d_L_law_751 : decode code 751 = .ok (.iconst 2, 1) := by decide +kernel
theorem d_L_law_752 : decode code 752 = .ok (.iadd, 1) := by decide +kernel
theorem d_L_law_753 : decode code 753 = .ok (.iaload, 1) := by decide +kernel
theorem d_L_law_754 : decode code 754 = .ok (.invokevirtual 96, 3) := by decide +kernel
theorem d_L_law_757 : decode code 757 = .ok (.if_icmp .eq 526, 3) := by decide +kernel
theorem d_L_law_760 : decode code 760 = .ok (.iconst 0, 1) := by decide +kernel
theorem d_L_law_761 : decode code 761 = .ok (.ireturn, 1) := by decide +kernel
theorem d_L_law_762 : decode code 762 = .ok (.aload_n 1, 1) := by decide +kernel
theorem d_L_law_763 : decode code 763 = .ok (.invokevirtual 97, 3) := by decide +kernel
theorem d_L_law_766 : decode code 766 = .ok (.aload_n 2, 1) := by decide +kernel
theorem d_L_law_767 : decode code 767 = .ok (.invokevirtual 100, 3) := by decide +kernel
theorem d_L_law_770 : decode code 770 = .ok (.if_icmp .eq 513, 3) := by decide +kernel
theorem d_L_law_773 : decode code 773 = .ok (.iconst 0, 1) := by decide +kernel
theorem d_L_law_774 : decode code 774 = .ok (.ireturn, 1) := by decide +kernel
theorem d_L_law_775 : decode code 775 = .ok (.aload_n 1, 1) := by decide +kernel
theorem d_L_law_776 : decode code 776 = .ok (.aload_n 0, 1) := by decide +kernel
theorem d_L_law_777 : decode code 777 = .ok (.iload_n 3, 1) := by decide +kernel
theorem d_L_law_778 : decode code 778 = .ok (.iconst 1, 1) := by decide +kernel
theorem d_L_law_779 : decode code 779 = .ok (.iadd, 1) := by decide +kernel
theorem d_L_law_780 : decode code 780 = .ok (.iaload, 1) := by decide +kernel
theorem d_L_law_781 : decode code 781 = .ok (.aload_n 0, 1) := by decide +kernel
theorem d_L_law_782 : decode code 782 = .ok (.iload_n 3, 1) := by decide +kernel
theorem d_L_law_783 : decode code 783 = .ok (.iconst 2, 1) := by decide +kernel
theorem d_L_law_784 : decode code 784 = .ok (.iadd, 1) := by decide +kernel
theorem d_L_law_785 : decode code 785 = .ok (.iaload, 1) := by decide +kernel
theorem d_L_law_786 : decode code 786 = .ok (.aload_n 0, 1) := by decide +kernel
theorem d_L_law_787 : decode code 787 = .ok (.iload_n 3, 1) := by decide +kernel
theorem d_L_law_788 : decode code 788 = .ok (.iconst 3, 1) := by decide +kernel
theorem d_L_law_789 : decode code 789 = .ok (.iadd, 1) := by decide +kernel
theorem d_L_law_790 : decode code 790 = .ok (.iaload, 1) := by decide +kernel
theorem d_L_law_791 : decode code 791 = .ok (.invokevirtual 101, 3) := by decide +kernel
theorem d_L_law_794 : decode code 794 = .ok (.aload_n 2, 1) := by decide +kernel
theorem d_L_law_795 : decode code 795 = .ok (.aload_n 0, 1) := by decide +kernel
theorem d_L_law_796 : decode code 796 = .ok (.iload_n 3, 1) := by decide +kernel
theorem d_L_law_797 : decode code 797 = .ok (.iconst 1, 1) := by decide +kernel
theorem d_L_law_798 : decode code 798 = .ok (.iadd, 1) := by decide +kernel
theorem d_L_law_799 : decode code 799 = .ok (.iaload, 1) := by decide +kernel
theorem d_L_law_800 : decode code 800 = .ok (.aload_n 0, 1) := by decide +kernel
theorem d_L_law_801 : decode code 801 = .ok (.iload_n 3, 1) := by decide +kernel
theorem d_L_law_802 : decode code 802 = .ok (.iconst 2, 1) := by decide +kernel
theorem d_L_law_803 : decode code 803 = .ok (.iadd, 1) := by decide +kernel
theorem d_L_law_804 : decode code 804 = .ok (.iaload, 1) := by decide +kernel
theorem d_L_law_805 : decode code 805 = .ok (.aload_n 0, 1) := by decide +kernel
theorem d_L_law_806 : decode code 806 = .ok (.iload_n 3, 1) := by decide +kernel
theorem d_L_law_807 : decode code 807 = .ok (.iconst 3, 1) := by decide +kernel
theorem d_L_law_808 : decode code 808 = .ok (.iadd, 1) := by decide +kernel
theorem d_L_law_809 : decode code 809 = .ok (.iaload, 1) := by decide +kernel
theorem d_L_law_810 : decode code 810 = .ok (.invokevirtual 105, 3) := by decide +kernel
theorem d_L_law_813 : decode code 813 = .ok (.lcmp, 1) := by decide +kernel
theorem d_L_law_814 : decode code 814 = .ok (.ifCond .eq 469, 3) := by decide +kernel
theorem d_L_law_817 : decode code 817 = .ok (.iconst 0, 1) := by decide +kernel
theorem d_L_law_818 : decode code 818 = .ok (.ireturn, 1) := by decide +kernel
theorem d_L_law_819 : decode code 819 = .ok (.aload_n 1, 1) := by decide +kernel
theorem d_L_law_820 : decode code 820 = .ok (.aload_n 0, 1) := by decide +kernel
theorem d_L_law_821 : decode code 821 = .ok (.iload_n 3, 1) := by decide +kernel
theorem d_L_law_822 : decode code 822 = .ok (.iconst 1, 1) := by decide +kernel
theorem d_L_law_823 : decode code 823 = .ok (.iadd, 1) := by decide +kernel
theorem d_L_law_824 : decode code 824 = .ok (.iaload, 1) := by decide +kernel
theorem d_L_law_825 : decode code 825 = .ok (.aload_n 0, 1) := by decide +kernel
theorem d_L_law_826 : decode code 826 = .ok (.iload_n 3, 1) := by decide +kernel
theorem d_L_law_827 : decode code 827 = .ok (.iconst 2, 1) := by decide +kernel
theorem d_L_law_828 : decode code 828 = .ok (.iadd, 1) := by decide +kernel
theorem d_L_law_829 : decode code 829 = .ok (.iaload, 1) := by decide +kernel
theorem d_L_law_830 : decode code 830 = .ok (.invokevirtual 106, 3) := by decide +kernel
theorem d_L_law_833 : decode code 833 = .ok (.aload_n 2, 1) := by decide +kernel
theorem d_L_law_834 : decode code 834 = .ok (.aload_n 0, 1) := by decide +kernel
theorem d_L_law_835 : decode code 835 = .ok (.iload_n 3, 1) := by decide +kernel
theorem d_L_law_836 : decode code 836 = .ok (.iconst 1, 1) := by decide +kernel
theorem d_L_law_837 : decode code 837 = .ok (.iadd, 1) := by decide +kernel
theorem d_L_law_838 : decode code 838 = .ok (.iaload, 1) := by decide +kernel
theorem d_L_law_839 : decode code 839 = .ok (.aload_n 0, 1) := by decide +kernel
theorem d_L_law_840 : decode code 840 = .ok (.iload_n 3, 1) := by decide +kernel
theorem d_L_law_841 : decode code 841 = .ok (.iconst 2, 1) := by decide +kernel
theorem d_L_law_842 : decode code 842 = .ok (.iadd, 1) := by decide +kernel
theorem d_L_law_843 : decode code 843 = .ok (.iaload, 1) := by decide +kernel
theorem d_L_law_844 : decode code 844 = .ok (.invokevirtual 110, 3) := by decide +kernel
theorem d_L_law_847 : decode code 847 = .ok (.lcmp, 1) := by decide +kernel
theorem d_L_law_848 : decode code 848 = .ok (.ifCond .eq 435, 3) := by decide +kernel
theorem d_L_law_851 : decode code 851 = .ok (.iconst 0, 1) := by decide +kernel
theorem d_L_law_852 : decode code 852 = .ok (.ireturn, 1) := by decide +kernel
theorem d_L_law_853 : decode code 853 = .ok (.aload_n 1, 1) := by decide +kernel
theorem d_L_law_854 : decode code 854 = .ok (.aload_n 0, 1) := by decide +kernel
theorem d_L_law_855 : decode code 855 = .ok (.iload_n 3, 1) := by decide +kernel
theorem d_L_law_856 : decode code 856 = .ok (.iconst 1, 1) := by decide +kernel
theorem d_L_law_857 : decode code 857 = .ok (.iadd, 1) := by decide +kernel
theorem d_L_law_858 : decode code 858 = .ok (.iaload, 1) := by decide +kernel
theorem d_L_law_859 : decode code 859 = .ok (.invokevirtual 111, 3) := by decide +kernel
theorem d_L_law_862 : decode code 862 = .ok (.aload_n 2, 1) := by decide +kernel
theorem d_L_law_863 : decode code 863 = .ok (.aload_n 0, 1) := by decide +kernel
theorem d_L_law_864 : decode code 864 = .ok (.iload_n 3, 1) := by decide +kernel
theorem d_L_law_865 : decode code 865 = .ok (.iconst 1, 1) := by decide +kernel
theorem d_L_law_866 : decode code 866 = .ok (.iadd, 1) := by decide +kernel
theorem d_L_law_867 : decode code 867 = .ok (.iaload, 1) := by decide +kernel
theorem d_L_law_868 : decode code 868 = .ok (.invokevirtual 114, 3) := by decide +kernel
theorem d_L_law_871 : decode code 871 = .ok (.if_icmp .eq 412, 3) := by decide +kernel
theorem d_L_law_874 : decode code 874 = .ok (.iconst 0, 1) := by decide +kernel
theorem d_L_law_875 : decode code 875 = .ok (.ireturn, 1) := by decide +kernel
theorem d_L_law_876 : decode code 876 = .ok (.aload_n 1, 1) := by decide +kernel
theorem d_L_law_877 : decode code 877 = .ok (.invokevirtual 115, 3) := by decide +kernel
theorem d_L_law_880 : decode code 880 = .ok (.aload_n 2, 1) := by decide +kernel
theorem d_L_law_881 : decode code 881 = .ok (.invokevirtual 118, 3) := by decide +kernel
theorem d_L_law_884 : decode code 884 = .ok (.if_icmp .eq 399, 3) := by decide +kernel
theorem d_L_law_887 : decode code 887 = .ok (.iconst 0, 1) := by decide +kernel
theorem d_L_law_888 : decode code 888 = .ok (.ireturn, 1) := by decide +kernel
theorem d_L_law_889 : decode code 889 = .ok (.aload_n 1, 1) := by decide +kernel
theorem d_L_law_890 : decode code 890 = .ok (.aload_n 0, 1) := by decide +kernel
theorem d_L_law_891 : decode code 891 = .ok (.iload_n 3, 1) := by decide +kernel
theorem d_L_law_892 : decode code 892 = .ok (.iconst 1, 1) := by decide +kernel
theorem d_L_law_893 : decode code 893 = .ok (.iadd, 1) := by decide +kernel
theorem d_L_law_894 : decode code 894 = .ok (.iaload, 1) := by decide +kernel
theorem d_L_law_895 : decode code 895 = .ok (.aload_n 0, 1) := by decide +kernel
theorem d_L_law_896 : decode code 896 = .ok (.iload_n 3, 1) := by decide +kernel
theorem d_L_law_897 : decode code 897 = .ok (.iconst 2, 1) := by decide +kernel
theorem d_L_law_898 : decode code 898 = .ok (.iadd, 1) := by decide +kernel
theorem d_L_law_899 : decode code 899 = .ok (.iaload, 1) := by decide +kernel
theorem d_L_law_900 : decode code 900 = .ok (.invokevirtual 119, 3) := by decide +kernel
theorem d_L_law_903 : decode code 903 = .ok (.aload_n 2, 1) := by decide +kernel
theorem d_L_law_904 : decode code 904 = .ok (.aload_n 0, 1) := by decide +kernel
theorem d_L_law_905 : decode code 905 = .ok (.iload_n 3, 1) := by decide +kernel
theorem d_L_law_906 : decode code 906 = .ok (.iconst 1, 1) := by decide +kernel
theorem d_L_law_907 : decode code 907 = .ok (.iadd, 1) := by decide +kernel
theorem d_L_law_908 : decode code 908 = .ok (.iaload, 1) := by decide +kernel
theorem d_L_law_909 : decode code 909 = .ok (.aload_n 0, 1) := by decide +kernel
theorem d_L_law_910 : decode code 910 = .ok (.iload_n 3, 1) := by decide +kernel
theorem d_L_law_911 : decode code 911 = .ok (.iconst 2, 1) := by decide +kernel
theorem d_L_law_912 : decode code 912 = .ok (.iadd, 1) := by decide +kernel
theorem d_L_law_913 : decode code 913 = .ok (.iaload, 1) := by decide +kernel
theorem d_L_law_914 : decode code 914 = .ok (.invokevirtual 122, 3) := by decide +kernel
theorem d_L_law_917 : decode code 917 = .ok (.if_icmp .eq 366, 3) := by decide +kernel
theorem d_L_law_920 : decode code 920 = .ok (.iconst 0, 1) := by decide +kernel
theorem d_L_law_921 : decode code 921 = .ok (.ireturn, 1) := by decide +kernel
theorem d_L_law_922 : decode code 922 = .ok (.aload_n 1, 1) := by decide +kernel
theorem d_L_law_923 : decode code 923 = .ok (.invokevirtual 123, 3) := by decide +kernel
theorem d_L_law_926 : decode code 926 = .ok (.aload_n 2, 1) := by decide +kernel
theorem d_L_law_927 : decode code 927 = .ok (.invokevirtual 126, 3) := by decide +kernel
theorem d_L_law_930 : decode code 930 = .ok (.if_icmp .eq 353, 3) := by decide +kernel
theorem d_L_law_933 : decode code 933 = .ok (.iconst 0, 1) := by decide +kernel
theorem d_L_law_934 : decode code 934 = .ok (.ireturn, 1) := by decide +kernel
theorem d_L_law_935 : decode code 935 = .ok (.aload_n 1, 1) := by decide +kernel
theorem d_L_law_936 : decode code 936 = .ok (.invokevirtual 127, 3) := by decide +kernel
theorem d_L_law_939 : decode code 939 = .ok (.aload_n 2, 1) := by decide +kernel
theorem d_L_law_940 : decode code 940 = .ok (.invokevirtual 130, 3) := by decide +kernel
theorem d_L_law_943 : decode code 943 = .ok (.if_icmp .eq 340, 3) := by decide +kernel
theorem d_L_law_946 : decode code 946 = .ok (.iconst 0, 1) := by decide +kernel
theorem d_L_law_947 : decode code 947 = .ok (.ireturn, 1) := by decide +kernel
theorem d_L_law_948 : decode code 948 = .ok (.aload_n 1, 1) := by decide +kernel
theorem d_L_law_949 : decode code 949 = .ok (.aload_n 0, 1) := by decide +kernel
theorem d_L_law_950 : decode code 950 = .ok (.iload_n 3, 1) := by decide +kernel
theorem d_L_law_951 : decode code 951 = .ok (.iconst 1, 1) := by decide +kernel
theorem d_L_law_952 : decode code 952 = .ok (.iadd, 1) := by decide +kernel
theorem d_L_law_953 : decode code 953 = .ok (.iaload, 1) := by decide +kernel
theorem d_L_law_954 : decode code 954 = .ok (.aload_n 0, 1) := by decide +kernel
theorem d_L_law_955 : decode code 955 = .ok (.iload_n 3, 1) := by decide +kernel
theorem d_L_law_956 : decode code 956 = .ok (.iconst 2, 1) := by decide +kernel
theorem d_L_law_957 : decode code 957 = .ok (.iadd, 1) := by decide +kernel
theorem d_L_law_958 : decode code 958 = .ok (.iaload, 1) := by decide +kernel
theorem d_L_law_959 : decode code 959 = .ok (.aload_n 0, 1) := by decide +kernel
theorem d_L_law_960 : decode code 960 = .ok (.iload_n 3, 1) := by decide +kernel
theorem d_L_law_961 : decode code 961 = .ok (.iconst 3, 1) := by decide +kernel
theorem d_L_law_962 : decode code 962 = .ok (.iadd, 1) := by decide +kernel
theorem d_L_law_963 : decode code 963 = .ok (.iaload, 1) := by decide +kernel
theorem d_L_law_964 : decode code 964 = .ok (.invokevirtual 131, 3) := by decide +kernel
theorem d_L_law_967 : decode code 967 = .ok (.aload_n 2, 1) := by decide +kernel
theorem d_L_law_968 : decode code 968 = .ok (.aload_n 0, 1) := by decide +kernel
theorem d_L_law_969 : decode code 969 = .ok (.iload_n 3, 1) := by decide +kernel
theorem d_L_law_970 : decode code 970 = .ok (.iconst 1, 1) := by decide +kernel
theorem d_L_law_971 : decode code 971 = .ok (.iadd, 1) := by decide +kernel
theorem d_L_law_972 : decode code 972 = .ok (.iaload, 1) := by decide +kernel
theorem d_L_law_973 : decode code 973 = .ok (.aload_n 0, 1) := by decide +kernel
theorem d_L_law_974 : decode code 974 = .ok (.iload_n 3, 1) := by decide +kernel
theorem d_L_law_975 : decode code 975 = .ok (.iconst 2, 1) := by decide +kernel
theorem d_L_law_976 : decode code 976 = .ok (.iadd, 1) := by decide +kernel
theorem d_L_law_977 : decode code 977 = .ok (.iaload, 1) := by decide +kernel
theorem d_L_law_978 : decode code 978 = .ok (.aload_n 0, 1) := by decide +kernel
theorem d_L_law_979 : decode code 979 = .ok (.iload_n 3, 1) := by decide +kernel
theorem d_L_law_980 : decode code 980 = .ok (.iconst 3, 1) := by decide +kernel
theorem d_L_law_981 : decode code 981 = .ok (.iadd, 1) := by decide +kernel
theorem d_L_law_982 : decode code 982 = .ok (.iaload, 1) := by decide +kernel
theorem d_L_law_983 : decode code 983 = .ok (.invokevirtual 134, 3) := by decide +kernel
theorem d_L_law_986 : decode code 986 = .ok (.if_icmp .eq 297, 3) := by decide +kernel
theorem d_L_law_989 : decode code 989 = .ok (.iconst 0, 1) := by decide +kernel
theorem d_L_law_990 : decode code 990 = .ok (.ireturn, 1) := by decide +kernel
theorem d_L_law_991 : decode code 991 = .ok (.aload_n 1, 1) := by decide +kernel
theorem d_L_law_992 : decode code 992 = .ok (.aload_n 0, 1) := by decide +kernel
theorem d_L_law_993 : decode code 993 = .ok (.iload_n 3, 1) := by decide +kernel
theorem d_L_law_994 : decode code 994 = .ok (.iconst 1, 1) := by decide +kernel
theorem d_L_law_995 : decode code 995 = .ok (.iadd, 1) := by decide +kernel
theorem d_L_law_996 : decode code 996 = .ok (.iaload, 1) := by decide +kernel
theorem d_L_law_997 : decode code 997 = .ok (.invokevirtual 135, 3) := by decide +kernel
theorem d_L_law_1000 : decode code 1000 = .ok (.aload_n 2, 1) := by decide +kernel
theorem d_L_law_1001 : decode code 1001 = .ok (.aload_n 0, 1) := by decide +kernel
theorem d_L_law_1002 : decode code 1002 = .ok (.iload_n 3, 1) := by decide +kernel
theorem d_L_law_1003 : decode code 1003 = .ok (.iconst 1, 1) := by decide +kernel
theorem d_L_law_1004 : decode code 1004 = .ok (.iadd, 1) := by decide +kernel
theorem d_L_law_1005 : decode code 1005 = .ok (.iaload, 1) := by decide +kernel
theorem d_L_law_1006 : decode code 1006 = .ok (.invokevirtual 138, 3) := by decide +kernel
theorem d_L_law_1009 : decode code 1009 = .ok (.if_icmp .eq 274, 3) := by decide +kernel
theorem d_L_law_1012 : decode code 1012 = .ok (.iconst 0, 1) := by decide +kernel
theorem d_L_law_1013 : decode code 1013 = .ok (.ireturn, 1) := by decide +kernel
theorem d_L_law_1014 : decode code 1014 = .ok (.aload_n 1, 1) := by decide +kernel
theorem d_L_law_1015 : decode code 1015 = .ok (.aload_n 0, 1) := by decide +kernel
theorem d_L_law_1016 : decode code 1016 = .ok (.iload_n 3, 1) := by decide +kernel
theorem d_L_law_1017 : decode code 1017 = .ok (.iconst 1, 1) := by decide +kernel
theorem d_L_law_1018 : decode code 1018 = .ok (.iadd, 1) := by decide +kernel
theorem d_L_law_1019 : decode code 1019 = .ok (.iaload, 1) := by decide +kernel
theorem d_L_law_1020 : decode code 1020 = .ok (.aload_n 0, 1) := by decide +kernel
theorem d_L_law_1021 : decode code 1021 = .ok (.iload_n 3, 1) := by decide +kernel
theorem d_L_law_1022 : decode code 1022 = .ok (.iconst 2, 1) := by decide +kernel
theorem d_L_law_1023 : decode code 1023 = .ok (.iadd, 1) := by decide +kernel
theorem d_L_law_1024 : decode code 1024 = .ok (.iaload, 1) := by decide +kernel
theorem d_L_law_1025 : decode code 1025 = .ok (.invokevirtual 139, 3) := by decide +kernel
theorem d_L_law_1028 : decode code 1028 = .ok (.aload_n 2, 1) := by decide +kernel
theorem d_L_law_1029 : decode code 1029 = .ok (.aload_n 0, 1) := by decide +kernel
theorem d_L_law_1030 : decode code 1030 = .ok (.iload_n 3, 1) := by decide +kernel
theorem d_L_law_1031 : decode code 1031 = .ok (.iconst 1, 1) := by decide +kernel
theorem d_L_law_1032 : decode code 1032 = .ok (.iadd, 1) := by decide +kernel
theorem d_L_law_1033 : decode code 1033 = .ok (.iaload, 1) := by decide +kernel
theorem d_L_law_1034 : decode code 1034 = .ok (.aload_n 0, 1) := by decide +kernel
theorem d_L_law_1035 : decode code 1035 = .ok (.iload_n 3, 1) := by decide +kernel
theorem d_L_law_1036 : decode code 1036 = .ok (.iconst 2, 1) := by decide +kernel
theorem d_L_law_1037 : decode code 1037 = .ok (.iadd, 1) := by decide +kernel
theorem d_L_law_1038 : decode code 1038 = .ok (.iaload, 1) := by decide +kernel
theorem d_L_law_1039 : decode code 1039 = .ok (.invokevirtual 142, 3) := by decide +kernel
theorem d_L_law_1042 : decode code 1042 = .ok (.if_icmp .eq 241, 3) := by decide +kernel
theorem d_L_law_1045 : decode code 1045 = .ok (.iconst 0, 1) := by decide +kernel
theorem d_L_law_1046 : decode code 1046 = .ok (.ireturn, 1) := by decide +kernel
theorem d_L_law_1047 : decode code 1047 = .ok (.aload_n 1, 1) := by decide +kernel
theorem d_L_law_1048 : decode code 1048 = .ok (.aload_n 0, 1) := by decide +kernel
theorem d_L_law_1049 : decode code 1049 = .ok (.iload_n 3, 1) := by decide +kernel
theorem d_L_law_1050 : decode code 1050 = .ok (.iconst 1, 1) := by decide +kernel
theorem d_L_law_1051 : decode code 1051 = .ok (.iadd, 1) := by decide +kernel
theorem d_L_law_1052 : decode code 1052 = .ok (.iaload, 1) := by decide +kernel
theorem d_L_law_1053 : decode code 1053 = .ok (.invokevirtual 143, 3) := by decide +kernel
theorem d_L_law_1056 : decode code 1056 = .ok (.aload_n 2, 1) := by decide +kernel
theorem d_L_law_1057 : decode code 1057 = .ok (.aload_n 0, 1) := by decide +kernel
theorem d_L_law_1058 : decode code 1058 = .ok (.iload_n 3, 1) := by decide +kernel
theorem d_L_law_1059 : decode code 1059 = .ok (.iconst 1, 1) := by decide +kernel
theorem d_L_law_1060 : decode code 1060 = .ok (.iadd, 1) := by decide +kernel
theorem d_L_law_1061 : decode code 1061 = .ok (.iaload, 1) := by decide +kernel
theorem d_L_law_1062 : decode code 1062 = .ok (.invokevirtual 146, 3) := by decide +kernel
theorem d_L_law_1065 : decode code 1065 = .ok (.if_icmp .eq 218, 3) := by decide +kernel
theorem d_L_law_1068 : decode code 1068 = .ok (.iconst 0, 1) := by decide +kernel
theorem d_L_law_1069 : decode code 1069 = .ok (.ireturn, 1) := by decide +kernel
theorem d_L_law_1070 : decode code 1070 = .ok (.aload_n 1, 1) := by decide +kernel
theorem d_L_law_1071 : decode code 1071 = .ok (.aload_n 0, 1) := by decide +kernel
theorem d_L_law_1072 : decode code 1072 = .ok (.iload_n 3, 1) := by decide +kernel
theorem d_L_law_1073 : decode code 1073 = .ok (.iconst 1, 1) := by decide +kernel
theorem d_L_law_1074 : decode code 1074 = .ok (.iadd, 1) := by decide +kernel
theorem d_L_law_1075 : decode code 1075 = .ok (.iaload, 1) := by decide +kernel
theorem d_L_law_1076 : decode code 1076 = .ok (.aload_n 0, 1) := by decide +kernel
theorem d_L_law_1077 : decode code 1077 = .ok (.iload_n 3, 1) := by decide +kernel
theorem d_L_law_1078 : decode code 1078 = .ok (.iconst 2, 1) := by decide +kernel
theorem d_L_law_1079 : decode code 1079 = .ok (.iadd, 1) := by decide +kernel
theorem d_L_law_1080 : decode code 1080 = .ok (.iaload, 1) := by decide +kernel
theorem d_L_law_1081 : decode code 1081 = .ok (.aload_n 0, 1) := by decide +kernel
theorem d_L_law_1082 : decode code 1082 = .ok (.iload_n 3, 1) := by decide +kernel
theorem d_L_law_1083 : decode code 1083 = .ok (.iconst 3, 1) := by decide +kernel
theorem d_L_law_1084 : decode code 1084 = .ok (.iadd, 1) := by decide +kernel
theorem d_L_law_1085 : decode code 1085 = .ok (.iaload, 1) := by decide +kernel
theorem d_L_law_1086 : decode code 1086 = .ok (.invokevirtual 147, 3) := by decide +kernel
theorem d_L_law_1089 : decode code 1089 = .ok (.aload_n 2, 1) := by decide +kernel
theorem d_L_law_1090 : decode code 1090 = .ok (.aload_n 0, 1) := by decide +kernel
theorem d_L_law_1091 : decode code 1091 = .ok (.iload_n 3, 1) := by decide +kernel
theorem d_L_law_1092 : decode code 1092 = .ok (.iconst 1, 1) := by decide +kernel
theorem d_L_law_1093 : decode code 1093 = .ok (.iadd, 1) := by decide +kernel
theorem d_L_law_1094 : decode code 1094 = .ok (.iaload, 1) := by decide +kernel
theorem d_L_law_1095 : decode code 1095 = .ok (.aload_n 0, 1) := by decide +kernel
theorem d_L_law_1096 : decode code 1096 = .ok (.iload_n 3, 1) := by decide +kernel
theorem d_L_law_1097 : decode code 1097 = .ok (.iconst 2, 1) := by decide +kernel
theorem d_L_law_1098 : decode code 1098 = .ok (.iadd, 1) := by decide +kernel
theorem d_L_law_1099 : decode code 1099 = .ok (.iaload, 1) := by decide +kernel
theorem d_L_law_1100 : decode code 1100 = .ok (.aload_n 0, 1) := by decide +kernel
theorem d_L_law_1101 : decode code 1101 = .ok (.iload_n 3, 1) := by decide +kernel
theorem d_L_law_1102 : decode code 1102 = .ok (.iconst 3, 1) := by decide +kernel
theorem d_L_law_1103 : decode code 1103 = .ok (.iadd, 1) := by decide +kernel
theorem d_L_law_1104 : decode code 1104 = .ok (.iaload, 1) := by decide +kernel
theorem d_L_law_1105 : decode code 1105 = .ok (.invokevirtual 150, 3) := by decide +kernel
theorem d_L_law_1108 : decode code 1108 = .ok (.if_icmp .eq 175, 3) := by decide +kernel
theorem d_L_law_1111 : decode code 1111 = .ok (.iconst 0, 1) := by decide +kernel
theorem d_L_law_1112 : decode code 1112 = .ok (.ireturn, 1) := by decide +kernel
theorem d_L_law_1113 : decode code 1113 = .ok (.aload_n 1, 1) := by decide +kernel
theorem d_L_law_1114 : decode code 1114 = .ok (.aload_n 0, 1) := by decide +kernel
theorem d_L_law_1115 : decode code 1115 = .ok (.iload_n 3, 1) := by decide +kernel
theorem d_L_law_1116 : decode code 1116 = .ok (.iconst 1, 1) := by decide +kernel
theorem d_L_law_1117 : decode code 1117 = .ok (.iadd, 1) := by decide +kernel
theorem d_L_law_1118 : decode code 1118 = .ok (.iaload, 1) := by decide +kernel
theorem d_L_law_1119 : decode code 1119 = .ok (.aload_n 0, 1) := by decide +kernel
theorem d_L_law_1120 : decode code 1120 = .ok (.iload_n 3, 1) := by decide +kernel
theorem d_L_law_1121 : decode code 1121 = .ok (.iconst 2, 1) := by decide +kernel
theorem d_L_law_1122 : decode code 1122 = .ok (.iadd, 1) := by decide +kernel
theorem d_L_law_1123 : decode code 1123 = .ok (.iaload, 1) := by decide +kernel
theorem d_L_law_1124 : decode code 1124 = .ok (.aload_n 0, 1) := by decide +kernel
theorem d_L_law_1125 : decode code 1125 = .ok (.iload_n 3, 1) := by decide +kernel
theorem d_L_law_1126 : decode code 1126 = .ok (.iconst 3, 1) := by decide +kernel
theorem d_L_law_1127 : decode code 1127 = .ok (.iadd, 1) := by decide +kernel
theorem d_L_law_1128 : decode code 1128 = .ok (.iaload, 1) := by decide +kernel
theorem d_L_law_1129 : decode code 1129 = .ok (.i2l, 1) := by decide +kernel
theorem d_L_law_1130 : decode code 1130 = .ok (.bipush 32, 2) := by decide +kernel
theorem d_L_law_1132 : decode code 1132 = .ok (.lshl, 1) := by decide +kernel
theorem d_L_law_1133 : decode code 1133 = .ok (.aload_n 0, 1) := by decide +kernel
theorem d_L_law_1134 : decode code 1134 = .ok (.iload_n 3, 1) := by decide +kernel
theorem d_L_law_1135 : decode code 1135 = .ok (.iconst 4, 1) := by decide +kernel
theorem d_L_law_1136 : decode code 1136 = .ok (.iadd, 1) := by decide +kernel
theorem d_L_law_1137 : decode code 1137 = .ok (.iaload, 1) := by decide +kernel
theorem d_L_law_1138 : decode code 1138 = .ok (.i2l, 1) := by decide +kernel
theorem d_L_law_1139 : decode code 1139 = .ok (.ldc2_w 151, 3) := by decide +kernel
theorem d_L_law_1142 : decode code 1142 = .ok (.land, 1) := by decide +kernel
theorem d_L_law_1143 : decode code 1143 = .ok (.lor, 1) := by decide +kernel
theorem d_L_law_1144 : decode code 1144 = .ok (.invokevirtual 153, 3) := by decide +kernel
theorem d_L_law_1147 : decode code 1147 = .ok (.aload_n 2, 1) := by decide +kernel
theorem d_L_law_1148 : decode code 1148 = .ok (.aload_n 0, 1) := by decide +kernel
theorem d_L_law_1149 : decode code 1149 = .ok (.iload_n 3, 1) := by decide +kernel
theorem d_L_law_1150 : decode code 1150 = .ok (.iconst 1, 1) := by decide +kernel
theorem d_L_law_1151 : decode code 1151 = .ok (.iadd, 1) := by decide +kernel
theorem d_L_law_1152 : decode code 1152 = .ok (.iaload, 1) := by decide +kernel
theorem d_L_law_1153 : decode code 1153 = .ok (.aload_n 0, 1) := by decide +kernel
theorem d_L_law_1154 : decode code 1154 = .ok (.iload_n 3, 1) := by decide +kernel
theorem d_L_law_1155 : decode code 1155 = .ok (.iconst 2, 1) := by decide +kernel
theorem d_L_law_1156 : decode code 1156 = .ok (.iadd, 1) := by decide +kernel
theorem d_L_law_1157 : decode code 1157 = .ok (.iaload, 1) := by decide +kernel
theorem d_L_law_1158 : decode code 1158 = .ok (.aload_n 0, 1) := by decide +kernel
theorem d_L_law_1159 : decode code 1159 = .ok (.iload_n 3, 1) := by decide +kernel
theorem d_L_law_1160 : decode code 1160 = .ok (.iconst 3, 1) := by decide +kernel
theorem d_L_law_1161 : decode code 1161 = .ok (.iadd, 1) := by decide +kernel
theorem d_L_law_1162 : decode code 1162 = .ok (.iaload, 1) := by decide +kernel
theorem d_L_law_1163 : decode code 1163 = .ok (.i2l, 1) := by decide +kernel
theorem d_L_law_1164 : decode code 1164 = .ok (.bipush 32, 2) := by decide +kernel
theorem d_L_law_1166 : decode code 1166 = .ok (.lshl, 1) := by decide +kernel
theorem d_L_law_1167 : decode code 1167 = .ok (.aload_n 0, 1) := by decide +kernel
theorem d_L_law_1168 : decode code 1168 = .ok (.iload_n 3, 1) := by decide +kernel
theorem d_L_law_1169 : decode code 1169 = .ok (.iconst 4, 1) := by decide +kernel
theorem d_L_law_1170 : decode code 1170 = .ok (.iadd, 1) := by decide +kernel
theorem d_L_law_1171 : decode code 1171 = .ok (.iaload, 1) := by decide +kernel
theorem d_L_law_1172 : decode code 1172 = .ok (.i2l, 1) := by decide +kernel
theorem d_L_law_1173 : decode code 1173 = .ok (.ldc2_w 151, 3) := by decide +kernel
theorem d_L_law_1176 : decode code 1176 = .ok (.land, 1) := by decide +kernel
theorem d_L_law_1177 : decode code 1177 = .ok (.lor, 1) := by decide +kernel
theorem d_L_law_1178 : decode code 1178 = .ok (.invokevirtual 157, 3) := by decide +kernel
theorem d_L_law_1181 : decode code 1181 = .ok (.if_icmp .eq 102, 3) := by decide +kernel
theorem d_L_law_1184 : decode code 1184 = .ok (.iconst 0, 1) := by decide +kernel
theorem d_L_law_1185 : decode code 1185 = .ok (.ireturn, 1) := by decide +kernel
theorem d_L_law_1186 : decode code 1186 = .ok (.aload_n 1, 1) := by decide +kernel
theorem d_L_law_1187 : decode code 1187 = .ok (.aload_n 0, 1) := by decide +kernel
theorem d_L_law_1188 : decode code 1188 = .ok (.iload_n 3, 1) := by decide +kernel
theorem d_L_law_1189 : decode code 1189 = .ok (.iconst 1, 1) := by decide +kernel
theorem d_L_law_1190 : decode code 1190 = .ok (.iadd, 1) := by decide +kernel
theorem d_L_law_1191 : decode code 1191 = .ok (.iaload, 1) := by decide +kernel
theorem d_L_law_1192 : decode code 1192 = .ok (.aload_n 0, 1) := by decide +kernel
theorem d_L_law_1193 : decode code 1193 = .ok (.iload_n 3, 1) := by decide +kernel
theorem d_L_law_1194 : decode code 1194 = .ok (.iconst 2, 1) := by decide +kernel
theorem d_L_law_1195 : decode code 1195 = .ok (.iadd, 1) := by decide +kernel
theorem d_L_law_1196 : decode code 1196 = .ok (.iaload, 1) := by decide +kernel
theorem d_L_law_1197 : decode code 1197 = .ok (.invokevirtual 158, 3) := by decide +kernel
theorem d_L_law_1200 : decode code 1200 = .ok (.aload_n 2, 1) := by decide +kernel
theorem d_L_law_1201 : decode code 1201 = .ok (.aload_n 0, 1) := by decide +kernel
theorem d_L_law_1202 : decode code 1202 = .ok (.iload_n 3, 1) := by decide +kernel
theorem d_L_law_1203 : decode code 1203 = .ok (.iconst 1, 1) := by decide +kernel
theorem d_L_law_1204 : decode code 1204 = .ok (.iadd, 1) := by decide +kernel
theorem d_L_law_1205 : decode code 1205 = .ok (.iaload, 1) := by decide +kernel
theorem d_L_law_1206 : decode code 1206 = .ok (.aload_n 0, 1) := by decide +kernel
theorem d_L_law_1207 : decode code 1207 = .ok (.iload_n 3, 1) := by decide +kernel
theorem d_L_law_1208 : decode code 1208 = .ok (.iconst 2, 1) := by decide +kernel
theorem d_L_law_1209 : decode code 1209 = .ok (.iadd, 1) := by decide +kernel
theorem d_L_law_1210 : decode code 1210 = .ok (.iaload, 1) := by decide +kernel
theorem d_L_law_1211 : decode code 1211 = .ok (.invokevirtual 161, 3) := by decide +kernel
theorem d_L_law_1214 : decode code 1214 = .ok (.lcmp, 1) := by decide +kernel
theorem d_L_law_1215 : decode code 1215 = .ok (.ifCond .eq 68, 3) := by decide +kernel
theorem d_L_law_1218 : decode code 1218 = .ok (.iconst 0, 1) := by decide +kernel
theorem d_L_law_1219 : decode code 1219 = .ok (.ireturn, 1) := by decide +kernel
theorem d_L_law_1220 : decode code 1220 = .ok (.aload_n 1, 1) := by decide +kernel
theorem d_L_law_1221 : decode code 1221 = .ok (.aload_n 0, 1) := by decide +kernel
theorem d_L_law_1222 : decode code 1222 = .ok (.iload_n 3, 1) := by decide +kernel
theorem d_L_law_1223 : decode code 1223 = .ok (.iconst 1, 1) := by decide +kernel
theorem d_L_law_1224 : decode code 1224 = .ok (.iadd, 1) := by decide +kernel
theorem d_L_law_1225 : decode code 1225 = .ok (.iaload, 1) := by decide +kernel
theorem d_L_law_1226 : decode code 1226 = .ok (.aload_n 0, 1) := by decide +kernel
theorem d_L_law_1227 : decode code 1227 = .ok (.iload_n 3, 1) := by decide +kernel
theorem d_L_law_1228 : decode code 1228 = .ok (.iconst 2, 1) := by decide +kernel
theorem d_L_law_1229 : decode code 1229 = .ok (.iadd, 1) := by decide +kernel
theorem d_L_law_1230 : decode code 1230 = .ok (.iaload, 1) := by decide +kernel
theorem d_L_law_1231 : decode code 1231 = .ok (.aload_n 0, 1) := by decide +kernel
theorem d_L_law_1232 : decode code 1232 = .ok (.iload_n 3, 1) := by decide +kernel
theorem d_L_law_1233 : decode code 1233 = .ok (.iconst 3, 1) := by decide +kernel
theorem d_L_law_1234 : decode code 1234 = .ok (.iadd, 1) := by decide +kernel
theorem d_L_law_1235 : decode code 1235 = .ok (.iaload, 1) := by decide +kernel
theorem d_L_law_1236 : decode code 1236 = .ok (.aload_n 0, 1) := by decide +kernel
theorem d_L_law_1237 : decode code 1237 = .ok (.iload_n 3, 1) := by decide +kernel
theorem d_L_law_1238 : decode code 1238 = .ok (.iconst 4, 1) := by decide +kernel
theorem d_L_law_1239 : decode code 1239 = .ok (.iadd, 1) := by decide +kernel
theorem d_L_law_1240 : decode code 1240 = .ok (.iaload, 1) := by decide +kernel
theorem d_L_law_1241 : decode code 1241 = .ok (.aload_n 0, 1) := by decide +kernel
theorem d_L_law_1242 : decode code 1242 = .ok (.iload_n 3, 1) := by decide +kernel
theorem d_L_law_1243 : decode code 1243 = .ok (.iconst 5, 1) := by decide +kernel
theorem d_L_law_1244 : decode code 1244 = .ok (.iadd, 1) := by decide +kernel
theorem d_L_law_1245 : decode code 1245 = .ok (.iaload, 1) := by decide +kernel
theorem d_L_law_1246 : decode code 1246 = .ok (.invokevirtual 162, 3) := by decide +kernel
theorem d_L_law_1249 : decode code 1249 = .ok (.aload_n 2, 1) := by decide +kernel
theorem d_L_law_1250 : decode code 1250 = .ok (.aload_n 0, 1) := by decide +kernel
theorem d_L_law_1251 : decode code 1251 = .ok (.iload_n 3, 1) := by decide +kernel
theorem d_L_law_1252 : decode code 1252 = .ok (.iconst 1, 1) := by decide +kernel
theorem d_L_law_1253 : decode code 1253 = .ok (.iadd, 1) := by decide +kernel
theorem d_L_law_1254 : decode code 1254 = .ok (.iaload, 1) := by decide +kernel
theorem d_L_law_1255 : decode code 1255 = .ok (.aload_n 0, 1) := by decide +kernel
theorem d_L_law_1256 : decode code 1256 = .ok (.iload_n 3, 1) := by decide +kernel
theorem d_L_law_1257 : decode code 1257 = .ok (.iconst 2, 1) := by decide +kernel
theorem d_L_law_1258 : decode code 1258 = .ok (.iadd, 1) := by decide +kernel
theorem d_L_law_1259 : decode code 1259 = .ok (.iaload, 1) := by decide +kernel
theorem d_L_law_1260 : decode code 1260 = .ok (.aload_n 0, 1) := by decide +kernel
theorem d_L_law_1261 : decode code 1261 = .ok (.iload_n 3, 1) := by decide +kernel
theorem d_L_law_1262 : decode code 1262 = .ok (.iconst 3, 1) := by decide +kernel
theorem d_L_law_1263 : decode code 1263 = .ok (.iadd, 1) := by decide +kernel
theorem d_L_law_1264 : decode code 1264 = .ok (.iaload, 1) := by decide +kernel
theorem d_L_law_1265 : decode code 1265 = .ok (.aload_n 0, 1) := by decide +kernel
theorem d_L_law_1266 : decode code 1266 = .ok (.iload_n 3, 1) := by decide +kernel
theorem d_L_law_1267 : decode code 1267 = .ok (.iconst 4, 1) := by decide +kernel
theorem d_L_law_1268 : decode code 1268 = .ok (.iadd, 1) := by decide +kernel
theorem d_L_law_1269 : decode code 1269 = .ok (.iaload, 1) := by decide +kernel
theorem d_L_law_1270 : decode code 1270 = .ok (.aload_n 0, 1) := by decide +kernel
theorem d_L_law_1271 : decode code 1271 = .ok (.iload_n 3, 1) := by decide +kernel
theorem d_L_law_1272 : decode code 1272 = .ok (.iconst 5, 1) := by decide +kernel
theorem d_L_law_1273 : decode code 1273 = .ok (.iadd, 1) := by decide +kernel
theorem d_L_law_1274 : decode code 1274 = .ok (.iaload, 1) := by decide +kernel
theorem d_L_law_1275 : decode code 1275 = .ok (.invokevirtual 166, 3) := by decide +kernel
theorem d_L_law_1278 : decode code 1278 = .ok (.if_icmp .eq 5, 3) := by decide +kernel
theorem d_L_law_1281 : decode code 1281 = .ok (.iconst 0, 1) := by decide +kernel
theorem d_L_law_1282 : decode code 1282 = .ok (.ireturn, 1) := by decide +kernel
theorem d_L_law_1283 : decode code 1283 = .ok (.iinc 3 6, 3) := by decide +kernel
theorem d_L_law_1286 : decode code 1286 = .ok (.goto (-1268), 3) := by decide +kernel
theorem d_L_law_1289 : decode code 1289 = .ok (.iconst 1, 1) := by decide +kernel
theorem d_L_law_1290 : decode code 1290 = .ok (.ireturn, 1) := by decide +kernel
