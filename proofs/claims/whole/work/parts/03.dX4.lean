theorem dX4_init_0 : decode cX4_init 0 = .ok (.aload_n 0, 1) := by decide +kernel
theorem dX4_init_1 : decode cX4_init 1 = .ok (.invokespecial 1, 3) := by decide +kernel
theorem dX4_init_4 : decode cX4_init 4 = .ok (.aload_n 0, 1) := by decide +kernel
theorem dX4_init_5 : decode cX4_init 5 = .ok (.bipush 12, 2) := by decide +kernel
theorem dX4_init_7 : decode cX4_init 7 = .ok (.newarray .int, 2) := by decide +kernel
theorem dX4_init_9 : decode cX4_init 9 = .ok (.putfield 7, 3) := by decide +kernel
theorem dX4_init_12 : decode cX4_init 12 = .ok (.aload_n 0, 1) := by decide +kernel
theorem dX4_init_13 : decode cX4_init 13 = .ok (.bipush 12, 2) := by decide +kernel
theorem dX4_init_15 : decode cX4_init 15 = .ok (.newarray .int, 2) := by decide +kernel
theorem dX4_init_17 : decode cX4_init 17 = .ok (.putfield 13, 3) := by decide +kernel
theorem dX4_init_20 : decode cX4_init 20 = .ok (.aload_n 0, 1) := by decide +kernel
theorem dX4_init_21 : decode cX4_init 21 = .ok (.bipush 12, 2) := by decide +kernel
theorem dX4_init_23 : decode cX4_init 23 = .ok (.newarray .boolean, 2) := by decide +kernel
theorem dX4_init_25 : decode cX4_init 25 = .ok (.putfield 16, 3) := by decide +kernel
theorem dX4_init_28 : decode cX4_init 28 = .ok (.aload_n 0, 1) := by decide +kernel
theorem dX4_init_29 : decode cX4_init 29 = .ok (.sipush 740, 3) := by decide +kernel
theorem dX4_init_32 : decode cX4_init 32 = .ok (.newarray .int, 2) := by decide +kernel
theorem dX4_init_34 : decode cX4_init 34 = .ok (.putfield 20, 3) := by decide +kernel
theorem dX4_init_37 : decode cX4_init 37 = .ok (.aload_n 0, 1) := by decide +kernel
theorem dX4_init_38 : decode cX4_init 38 = .ok (.sipush 1480, 3) := by decide +kernel
theorem dX4_init_41 : decode cX4_init 41 = .ok (.newarray .int, 2) := by decide +kernel
theorem dX4_init_43 : decode cX4_init 43 = .ok (.putfield 23, 3) := by decide +kernel
theorem dX4_init_46 : decode cX4_init 46 = .ok (.aload_n 0, 1) := by decide +kernel
theorem dX4_init_47 : decode cX4_init 47 = .ok (.sipush 740, 3) := by decide +kernel
theorem dX4_init_50 : decode cX4_init 50 = .ok (.newarray .int, 2) := by decide +kernel
theorem dX4_init_52 : decode cX4_init 52 = .ok (.putfield 26, 3) := by decide +kernel
theorem dX4_init_55 : decode cX4_init 55 = .ok (.aload_n 0, 1) := by decide +kernel
theorem dX4_init_56 : decode cX4_init 56 = .ok (.bipush 64, 2) := by decide +kernel
theorem dX4_init_58 : decode cX4_init 58 = .ok (.newarray .int, 2) := by decide +kernel
theorem dX4_init_60 : decode cX4_init 60 = .ok (.putfield 29, 3) := by decide +kernel
theorem dX4_init_63 : decode cX4_init 63 = .ok (.aload_n 0, 1) := by decide +kernel
theorem dX4_init_64 : decode cX4_init 64 = .ok (.bipush 12, 2) := by decide +kernel
theorem dX4_init_66 : decode cX4_init 66 = .ok (.newarray .int, 2) := by decide +kernel
theorem dX4_init_68 : decode cX4_init 68 = .ok (.putfield 32, 3) := by decide +kernel
theorem dX4_init_71 : decode cX4_init 71 = .ok (.aload_n 0, 1) := by decide +kernel
theorem dX4_init_72 : decode cX4_init 72 = .ok (.bipush 12, 2) := by decide +kernel
theorem dX4_init_74 : decode cX4_init 74 = .ok (.newarray .long, 2) := by decide +kernel
theorem dX4_init_76 : decode cX4_init 76 = .ok (.putfield 35, 3) := by decide +kernel
theorem dX4_init_79 : decode cX4_init 79 = .ok (.aload_n 0, 1) := by decide +kernel
theorem dX4_init_80 : decode cX4_init 80 = .ok (.bipush 24, 2) := by decide +kernel
theorem dX4_init_82 : decode cX4_init 82 = .ok (.newarray .long, 2) := by decide +kernel
theorem dX4_init_84 : decode cX4_init 84 = .ok (.putfield 39, 3) := by decide +kernel
theorem dX4_init_87 : decode cX4_init 87 = .ok (.aload_n 0, 1) := by decide +kernel
theorem dX4_init_88 : decode cX4_init 88 = .ok (.bipush 12, 2) := by decide +kernel
theorem dX4_init_90 : decode cX4_init 90 = .ok (.newarray .long, 2) := by decide +kernel
theorem dX4_init_92 : decode cX4_init 92 = .ok (.putfield 42, 3) := by decide +kernel
theorem dX4_init_95 : decode cX4_init 95 = .ok (.aload_n 0, 1) := by decide +kernel
theorem dX4_init_96 : decode cX4_init 96 = .ok (.bipush 12, 2) := by decide +kernel
theorem dX4_init_98 : decode cX4_init 98 = .ok (.newarray .int, 2) := by decide +kernel
theorem dX4_init_100 : decode cX4_init 100 = .ok (.putfield 45, 3) := by decide +kernel
theorem dX4_init_103 : decode cX4_init 103 = .ok (.aload_n 0, 1) := by decide +kernel
theorem dX4_init_104 : decode cX4_init 104 = .ok (.sipush 740, 3) := by decide +kernel
theorem dX4_init_107 : decode cX4_init 107 = .ok (.newarray .long, 2) := by decide +kernel
theorem dX4_init_109 : decode cX4_init 109 = .ok (.putfield 48, 3) := by decide +kernel
theorem dX4_init_112 : decode cX4_init 112 = .ok (.aload_n 0, 1) := by decide +kernel
theorem dX4_init_113 : decode cX4_init 113 = .ok (.sipush 1480, 3) := by decide +kernel
theorem dX4_init_116 : decode cX4_init 116 = .ok (.newarray .long, 2) := by decide +kernel
theorem dX4_init_118 : decode cX4_init 118 = .ok (.putfield 51, 3) := by decide +kernel
theorem dX4_init_121 : decode cX4_init 121 = .ok (.aload_n 0, 1) := by decide +kernel
theorem dX4_init_122 : decode cX4_init 122 = .ok (.sipush 740, 3) := by decide +kernel
theorem dX4_init_125 : decode cX4_init 125 = .ok (.newarray .long, 2) := by decide +kernel
theorem dX4_init_127 : decode cX4_init 127 = .ok (.putfield 54, 3) := by decide +kernel
theorem dX4_init_130 : decode cX4_init 130 = .ok (.aload_n 0, 1) := by decide +kernel
theorem dX4_init_131 : decode cX4_init 131 = .ok (.ldc 57, 2) := by decide +kernel
theorem dX4_init_133 : decode cX4_init 133 = .ok (.newarray .int, 2) := by decide +kernel
theorem dX4_init_135 : decode cX4_init 135 = .ok (.putfield 58, 3) := by decide +kernel
theorem dX4_init_138 : decode cX4_init 138 = .ok (.aload_n 0, 1) := by decide +kernel
theorem dX4_init_139 : decode cX4_init 139 = .ok (.bipush 64, 2) := by decide +kernel
theorem dX4_init_141 : decode cX4_init 141 = .ok (.newarray .int, 2) := by decide +kernel
theorem dX4_init_143 : decode cX4_init 143 = .ok (.putfield 61, 3) := by decide +kernel
theorem dX4_init_146 : decode cX4_init 146 = .ok (.aload_n 0, 1) := by decide +kernel
theorem dX4_init_147 : decode cX4_init 147 = .ok (.sipush 256, 3) := by decide +kernel
theorem dX4_init_150 : decode cX4_init 150 = .ok (.newarray .int, 2) := by decide +kernel
theorem dX4_init_152 : decode cX4_init 152 = .ok (.putfield 64, 3) := by decide +kernel
theorem dX4_init_155 : decode cX4_init 155 = .ok (.aload_n 0, 1) := by decide +kernel
theorem dX4_init_156 : decode cX4_init 156 = .ok (.sipush 256, 3) := by decide +kernel
theorem dX4_init_159 : decode cX4_init 159 = .ok (.newarray .int, 2) := by decide +kernel
theorem dX4_init_161 : decode cX4_init 161 = .ok (.putfield 67, 3) := by decide +kernel
theorem dX4_init_164 : decode cX4_init 164 = .ok (.aload_n 0, 1) := by decide +kernel
theorem dX4_init_165 : decode cX4_init 165 = .ok (.sipush 256, 3) := by decide +kernel
theorem dX4_init_168 : decode cX4_init 168 = .ok (.newarray .int, 2) := by decide +kernel
theorem dX4_init_170 : decode cX4_init 170 = .ok (.putfield 70, 3) := by decide +kernel
theorem dX4_init_173 : decode cX4_init 173 = .ok (.aload_n 0, 1) := by decide +kernel
theorem dX4_init_174 : decode cX4_init 174 = .ok (.iconst 5, 1) := by decide +kernel
theorem dX4_init_175 : decode cX4_init 175 = .ok (.newarray .int, 2) := by decide +kernel
theorem dX4_init_177 : decode cX4_init 177 = .ok (.putfield 73, 3) := by decide +kernel
theorem dX4_init_180 : decode cX4_init 180 = .ok (.iconst 0, 1) := by decide +kernel
theorem dX4_init_181 : decode cX4_init 181 = .ok (.istore_n 1, 1) := by decide +kernel
theorem dX4_init_182 : decode cX4_init 182 = .ok (.iload_n 1, 1) := by decide +kernel
theorem dX4_init_183 : decode cX4_init 183 = .ok (.bipush 12, 2) := by decide +kernel
theorem dX4_init_185 : decode cX4_init 185 = .ok (.if_icmp .ge 17, 3) := by decide +kernel
theorem dX4_init_188 : decode cX4_init 188 = .ok (.aload_n 0, 1) := by decide +kernel
theorem dX4_init_189 : decode cX4_init 189 = .ok (.getfield 13, 3) := by decide +kernel
theorem dX4_init_192 : decode cX4_init 192 = .ok (.iload_n 1, 1) := by decide +kernel
theorem dX4_init_193 : decode cX4_init 193 = .ok (.bipush (-9), 2) := by decide +kernel
theorem dX4_init_195 : decode cX4_init 195 = .ok (.iastore, 1) := by decide +kernel
theorem dX4_init_196 : decode cX4_init 196 = .ok (.iinc 1 1, 3) := by decide +kernel
theorem dX4_init_199 : decode cX4_init 199 = .ok (.goto (-17), 3) := by decide +kernel
theorem dX4_init_202 : decode cX4_init 202 = .ok (.return_, 1) := by decide +kernel
theorem dX4_within_0 : decode cX4_within 0 = .ok (.iload_n 0, 1) := by decide +kernel
theorem dX4_within_1 : decode cX4_within 1 = .ok (.iload_n 1, 1) := by decide +kernel
theorem dX4_within_2 : decode cX4_within 2 = .ok (.if_icmp .lt 12, 3) := by decide +kernel
theorem dX4_within_5 : decode cX4_within 5 = .ok (.iload_n 0, 1) := by decide +kernel
theorem dX4_within_6 : decode cX4_within 6 = .ok (.iload_n 2, 1) := by decide +kernel
theorem dX4_within_7 : decode cX4_within 7 = .ok (.if_icmp .gt 7, 3) := by decide +kernel
theorem dX4_within_10 : decode cX4_within 10 = .ok (.iconst 1, 1) := by decide +kernel
theorem dX4_within_11 : decode cX4_within 11 = .ok (.goto 4, 3) := by decide +kernel
theorem dX4_within_14 : decode cX4_within 14 = .ok (.iconst 0, 1) := by decide +kernel
theorem dX4_within_15 : decode cX4_within 15 = .ok (.ireturn, 1) := by decide +kernel
theorem dX4_isName_0 : decode cX4_isName 0 = .ok (.iload_n 1, 1) := by decide +kernel
theorem dX4_isName_1 : decode cX4_isName 1 = .ok (.iconst 0, 1) := by decide +kernel
theorem dX4_isName_2 : decode cX4_isName 2 = .ok (.aload_n 0, 1) := by decide +kernel
theorem dX4_isName_3 : decode cX4_isName 3 = .ok (.getfield 76, 3) := by decide +kernel
theorem dX4_isName_6 : decode cX4_isName 6 = .ok (.iconst 1, 1) := by decide +kernel
theorem dX4_isName_7 : decode cX4_isName 7 = .ok (.isub, 1) := by decide +kernel
theorem dX4_isName_8 : decode cX4_isName 8 = .ok (.invokestatic 80, 3) := by decide +kernel
theorem dX4_isName_11 : decode cX4_isName 11 = .ok (.ireturn, 1) := by decide +kernel
theorem dX4_isFolded_0 : decode cX4_isFolded 0 = .ok (.aload_n 0, 1) := by decide +kernel
theorem dX4_isFolded_1 : decode cX4_isFolded 1 = .ok (.getfield 13, 3) := by decide +kernel
theorem dX4_isFolded_4 : decode cX4_isFolded 4 = .ok (.iload_n 1, 1) := by decide +kernel
theorem dX4_isFolded_5 : decode cX4_isFolded 5 = .ok (.iaload, 1) := by decide +kernel
theorem dX4_isFolded_6 : decode cX4_isFolded 6 = .ok (.bipush (-9), 2) := by decide +kernel
theorem dX4_isFolded_8 : decode cX4_isFolded 8 = .ok (.if_icmp .eq 16, 3) := by decide +kernel
theorem dX4_isFolded_11 : decode cX4_isFolded 11 = .ok (.aload_n 0, 1) := by decide +kernel
theorem dX4_isFolded_12 : decode cX4_isFolded 12 = .ok (.getfield 16, 3) := by decide +kernel
theorem dX4_isFolded_15 : decode cX4_isFolded 15 = .ok (.iload_n 1, 1) := by decide +kernel
theorem dX4_isFolded_16 : decode cX4_isFolded 16 = .ok (.baload, 1) := by decide +kernel
theorem dX4_isFolded_17 : decode cX4_isFolded 17 = .ok (.ifCond .ne 7, 3) := by decide +kernel
theorem dX4_isFolded_20 : decode cX4_isFolded 20 = .ok (.iconst 1, 1) := by decide +kernel
theorem dX4_isFolded_21 : decode cX4_isFolded 21 = .ok (.goto 4, 3) := by decide +kernel
theorem dX4_isFolded_24 : decode cX4_isFolded 24 = .ok (.iconst 0, 1) := by decide +kernel
theorem dX4_isFolded_25 : decode cX4_isFolded 25 = .ok (.ireturn, 1) := by decide +kernel
theorem dX4_isTerm_0 : decode cX4_isTerm 0 = .ok (.iload_n 1, 1) := by decide +kernel
theorem dX4_isTerm_1 : decode cX4_isTerm 1 = .ok (.iconst 0, 1) := by decide +kernel
theorem dX4_isTerm_2 : decode cX4_isTerm 2 = .ok (.aload_n 0, 1) := by decide +kernel
theorem dX4_isTerm_3 : decode cX4_isTerm 3 = .ok (.getfield 84, 3) := by decide +kernel
theorem dX4_isTerm_6 : decode cX4_isTerm 6 = .ok (.iconst 1, 1) := by decide +kernel
theorem dX4_isTerm_7 : decode cX4_isTerm 7 = .ok (.isub, 1) := by decide +kernel
theorem dX4_isTerm_8 : decode cX4_isTerm 8 = .ok (.invokestatic 80, 3) := by decide +kernel
theorem dX4_isTerm_11 : decode cX4_isTerm 11 = .ok (.ireturn, 1) := by decide +kernel
theorem dX4_part_0 : decode cX4_part 0 = .ok (.aload_n 0, 1) := by decide +kernel
theorem dX4_part_1 : decode cX4_part 1 = .ok (.getfield 23, 3) := by decide +kernel
theorem dX4_part_4 : decode cX4_part 4 = .ok (.iconst 2, 1) := by decide +kernel
theorem dX4_part_5 : decode cX4_part 5 = .ok (.iload_n 1, 1) := by decide +kernel
theorem dX4_part_6 : decode cX4_part 6 = .ok (.imul, 1) := by decide +kernel
theorem dX4_part_7 : decode cX4_part 7 = .ok (.iload_n 2, 1) := by decide +kernel
theorem dX4_part_8 : decode cX4_part 8 = .ok (.iadd, 1) := by decide +kernel
theorem dX4_part_9 : decode cX4_part 9 = .ok (.iaload, 1) := by decide +kernel
theorem dX4_part_10 : decode cX4_part 10 = .ok (.ireturn, 1) := by decide +kernel
theorem dX4_partsOf_0 : decode cX4_partsOf 0 = .ok (.aload_n 0, 1) := by decide +kernel
theorem dX4_partsOf_1 : decode cX4_partsOf 1 = .ok (.getfield 20, 3) := by decide +kernel
theorem dX4_partsOf_4 : decode cX4_partsOf 4 = .ok (.iload_n 1, 1) := by decide +kernel
theorem dX4_partsOf_5 : decode cX4_partsOf 5 = .ok (.iaload, 1) := by decide +kernel
theorem dX4_partsOf_6 : decode cX4_partsOf 6 = .ok (.bipush 100, 2) := by decide +kernel
theorem dX4_partsOf_8 : decode cX4_partsOf 8 = .ok (.if_icmp .lt 7, 3) := by decide +kernel
theorem dX4_partsOf_11 : decode cX4_partsOf 11 = .ok (.iconst 0, 1) := by decide +kernel
theorem dX4_partsOf_12 : decode cX4_partsOf 12 = .ok (.goto 14, 3) := by decide +kernel
theorem dX4_partsOf_15 : decode cX4_partsOf 15 = .ok (.aload_n 0, 1) := by decide +kernel
theorem dX4_partsOf_16 : decode cX4_partsOf 16 = .ok (.getfield 7, 3) := by decide +kernel
theorem dX4_partsOf_19 : decode cX4_partsOf 19 = .ok (.aload_n 0, 1) := by decide +kernel
theorem dX4_partsOf_20 : decode cX4_partsOf 20 = .ok (.getfield 20, 3) := by decide +kernel
theorem dX4_partsOf_23 : decode cX4_partsOf 23 = .ok (.iload_n 1, 1) := by decide +kernel
theorem dX4_partsOf_24 : decode cX4_partsOf 24 = .ok (.iaload, 1) := by decide +kernel
theorem dX4_partsOf_25 : decode cX4_partsOf 25 = .ok (.iaload, 1) := by decide +kernel
theorem dX4_partsOf_26 : decode cX4_partsOf 26 = .ok (.ireturn, 1) := by decide +kernel
theorem dX4_find_0 : decode cX4_find 0 = .ok (.iconst 0, 1) := by decide +kernel
theorem dX4_find_1 : decode cX4_find 1 = .ok (.istore 4, 2) := by decide +kernel
theorem dX4_find_3 : decode cX4_find 3 = .ok (.iload 4, 2) := by decide +kernel
theorem dX4_find_5 : decode cX4_find 5 = .ok (.aload_n 0, 1) := by decide +kernel
theorem dX4_find_6 : decode cX4_find 6 = .ok (.getfield 87, 3) := by decide +kernel
theorem dX4_find_9 : decode cX4_find 9 = .ok (.if_icmp .ge 45, 3) := by decide +kernel
theorem dX4_find_12 : decode cX4_find 12 = .ok (.aload_n 0, 1) := by decide +kernel
theorem dX4_find_13 : decode cX4_find 13 = .ok (.getfield 20, 3) := by decide +kernel
theorem dX4_find_16 : decode cX4_find 16 = .ok (.iload 4, 2) := by decide +kernel
theorem dX4_find_18 : decode cX4_find 18 = .ok (.iaload, 1) := by decide +kernel
theorem dX4_find_19 : decode cX4_find 19 = .ok (.iload_n 1, 1) := by decide +kernel
theorem dX4_find_20 : decode cX4_find 20 = .ok (.if_icmp .ne 28, 3) := by decide +kernel
theorem dX4_find_23 : decode cX4_find 23 = .ok (.aload_n 0, 1) := by decide +kernel
theorem dX4_find_24 : decode cX4_find 24 = .ok (.iload 4, 2) := by decide +kernel
theorem dX4_find_26 : decode cX4_find 26 = .ok (.iconst 0, 1) := by decide +kernel
theorem dX4_find_27 : decode cX4_find 27 = .ok (.invokevirtual 90, 3) := by decide +kernel
theorem dX4_find_30 : decode cX4_find 30 = .ok (.iload_n 2, 1) := by decide +kernel
theorem dX4_find_31 : decode cX4_find 31 = .ok (.if_icmp .ne 17, 3) := by decide +kernel
theorem dX4_find_34 : decode cX4_find 34 = .ok (.aload_n 0, 1) := by decide +kernel
theorem dX4_find_35 : decode cX4_find 35 = .ok (.iload 4, 2) := by decide +kernel
theorem dX4_find_37 : decode cX4_find 37 = .ok (.iconst 1, 1) := by decide +kernel
theorem dX4_find_38 : decode cX4_find 38 = .ok (.invokevirtual 90, 3) := by decide +kernel
theorem dX4_find_41 : decode cX4_find 41 = .ok (.iload_n 3, 1) := by decide +kernel
theorem dX4_find_42 : decode cX4_find 42 = .ok (.if_icmp .ne 6, 3) := by decide +kernel
theorem dX4_find_45 : decode cX4_find 45 = .ok (.iload 4, 2) := by decide +kernel
theorem dX4_find_47 : decode cX4_find 47 = .ok (.ireturn, 1) := by decide +kernel
theorem dX4_find_48 : decode cX4_find 48 = .ok (.iinc 4 1, 3) := by decide +kernel
theorem dX4_find_51 : decode cX4_find 51 = .ok (.goto (-48), 3) := by decide +kernel
theorem dX4_find_54 : decode cX4_find 54 = .ok (.bipush (-9), 2) := by decide +kernel
theorem dX4_find_56 : decode cX4_find 56 = .ok (.ireturn, 1) := by decide +kernel
theorem dX4_depthBy_0 : decode cX4_depthBy 0 = .ok (.iconst 0, 1) := by decide +kernel
theorem dX4_depthBy_1 : decode cX4_depthBy 1 = .ok (.istore_n 3, 1) := by decide +kernel
theorem dX4_depthBy_2 : decode cX4_depthBy 2 = .ok (.iload_n 1, 1) := by decide +kernel
theorem dX4_depthBy_3 : decode cX4_depthBy 3 = .ok (.bipush (-9), 2) := by decide +kernel
theorem dX4_depthBy_5 : decode cX4_depthBy 5 = .ok (.if_icmp .eq 22, 3) := by decide +kernel
theorem dX4_depthBy_8 : decode cX4_depthBy 8 = .ok (.aload_n 0, 1) := by decide +kernel
theorem dX4_depthBy_9 : decode cX4_depthBy 9 = .ok (.getfield 26, 3) := by decide +kernel
theorem dX4_depthBy_12 : decode cX4_depthBy 12 = .ok (.iload_n 1, 1) := by decide +kernel
theorem dX4_depthBy_13 : decode cX4_depthBy 13 = .ok (.iaload, 1) := by decide +kernel
theorem dX4_depthBy_14 : decode cX4_depthBy 14 = .ok (.iload_n 3, 1) := by decide +kernel
theorem dX4_depthBy_15 : decode cX4_depthBy 15 = .ok (.if_icmp .le 12, 3) := by decide +kernel
theorem dX4_depthBy_18 : decode cX4_depthBy 18 = .ok (.aload_n 0, 1) := by decide +kernel
theorem dX4_depthBy_19 : decode cX4_depthBy 19 = .ok (.getfield 26, 3) := by decide +kernel
theorem dX4_depthBy_22 : decode cX4_depthBy 22 = .ok (.iload_n 1, 1) := by decide +kernel
theorem dX4_depthBy_23 : decode cX4_depthBy 23 = .ok (.iaload, 1) := by decide +kernel
theorem dX4_depthBy_24 : decode cX4_depthBy 24 = .ok (.goto 4, 3) := by decide +kernel
theorem dX4_depthBy_27 : decode cX4_depthBy 27 = .ok (.iload_n 3, 1) := by decide +kernel
theorem dX4_depthBy_28 : decode cX4_depthBy 28 = .ok (.istore_n 3, 1) := by decide +kernel
theorem dX4_depthBy_29 : decode cX4_depthBy 29 = .ok (.iconst 1, 1) := by decide +kernel
theorem dX4_depthBy_30 : decode cX4_depthBy 30 = .ok (.iload_n 2, 1) := by decide +kernel
theorem dX4_depthBy_31 : decode cX4_depthBy 31 = .ok (.bipush (-9), 2) := by decide +kernel
theorem dX4_depthBy_33 : decode cX4_depthBy 33 = .ok (.if_icmp .eq 22, 3) := by decide +kernel
theorem dX4_depthBy_36 : decode cX4_depthBy 36 = .ok (.aload_n 0, 1) := by decide +kernel
theorem dX4_depthBy_37 : decode cX4_depthBy 37 = .ok (.getfield 26, 3) := by decide +kernel
theorem dX4_depthBy_40 : decode cX4_depthBy 40 = .ok (.iload_n 2, 1) := by decide +kernel
theorem dX4_depthBy_41 : decode cX4_depthBy 41 = .ok (.iaload, 1) := by decide +kernel
theorem dX4_depthBy_42 : decode cX4_depthBy 42 = .ok (.iload_n 3, 1) := by decide +kernel
theorem dX4_depthBy_43 : decode cX4_depthBy 43 = .ok (.if_icmp .le 12, 3) := by decide +kernel
theorem dX4_depthBy_46 : decode cX4_depthBy 46 = .ok (.aload_n 0, 1) := by decide +kernel
theorem dX4_depthBy_47 : decode cX4_depthBy 47 = .ok (.getfield 26, 3) := by decide +kernel
theorem dX4_depthBy_50 : decode cX4_depthBy 50 = .ok (.iload_n 2, 1) := by decide +kernel
theorem dX4_depthBy_51 : decode cX4_depthBy 51 = .ok (.iaload, 1) := by decide +kernel
theorem dX4_depthBy_52 : decode cX4_depthBy 52 = .ok (.goto 4, 3) := by decide +kernel
theorem dX4_depthBy_55 : decode cX4_depthBy 55 = .ok (.iload_n 3, 1) := by decide +kernel
theorem dX4_depthBy_56 : decode cX4_depthBy 56 = .ok (.iadd, 1) := by decide +kernel
theorem dX4_depthBy_57 : decode cX4_depthBy 57 = .ok (.ireturn, 1) := by decide +kernel
theorem dX4_comes_0 : decode cX4_comes 0 = .ok (.aload_n 0, 1) := by decide +kernel
theorem dX4_comes_1 : decode cX4_comes 1 = .ok (.iload_n 1, 1) := by decide +kernel
theorem dX4_comes_2 : decode cX4_comes 2 = .ok (.iload_n 2, 1) := by decide +kernel
theorem dX4_comes_3 : decode cX4_comes 3 = .ok (.iload_n 3, 1) := by decide +kernel
theorem dX4_comes_4 : decode cX4_comes 4 = .ok (.invokevirtual 94, 3) := by decide +kernel
theorem dX4_comes_7 : decode cX4_comes 7 = .ok (.istore 4, 2) := by decide +kernel
theorem dX4_comes_9 : decode cX4_comes 9 = .ok (.iload 4, 2) := by decide +kernel
theorem dX4_comes_11 : decode cX4_comes 11 = .ok (.bipush (-9), 2) := by decide +kernel
theorem dX4_comes_13 : decode cX4_comes 13 = .ok (.if_icmp .eq 6, 3) := by decide +kernel
theorem dX4_comes_16 : decode cX4_comes 16 = .ok (.iload 4, 2) := by decide +kernel
theorem dX4_comes_18 : decode cX4_comes 18 = .ok (.ireturn, 1) := by decide +kernel
theorem dX4_comes_19 : decode cX4_comes 19 = .ok (.aload_n 0, 1) := by decide +kernel
theorem dX4_comes_20 : decode cX4_comes 20 = .ok (.getfield 20, 3) := by decide +kernel
theorem dX4_comes_23 : decode cX4_comes 23 = .ok (.aload_n 0, 1) := by decide +kernel
theorem dX4_comes_24 : decode cX4_comes 24 = .ok (.getfield 87, 3) := by decide +kernel
theorem dX4_comes_27 : decode cX4_comes 27 = .ok (.iload_n 1, 1) := by decide +kernel
theorem dX4_comes_28 : decode cX4_comes 28 = .ok (.iastore, 1) := by decide +kernel
theorem dX4_comes_29 : decode cX4_comes 29 = .ok (.aload_n 0, 1) := by decide +kernel
theorem dX4_comes_30 : decode cX4_comes 30 = .ok (.getfield 23, 3) := by decide +kernel
theorem dX4_comes_33 : decode cX4_comes 33 = .ok (.iconst 2, 1) := by decide +kernel
theorem dX4_comes_34 : decode cX4_comes 34 = .ok (.aload_n 0, 1) := by decide +kernel
theorem dX4_comes_35 : decode cX4_comes 35 = .ok (.getfield 87, 3) := by decide +kernel
theorem dX4_comes_38 : decode cX4_comes 38 = .ok (.imul, 1) := by decide +kernel
theorem dX4_comes_39 : decode cX4_comes 39 = .ok (.iload_n 2, 1) := by decide +kernel
theorem dX4_comes_40 : decode cX4_comes 40 = .ok (.iastore, 1) := by decide +kernel
theorem dX4_comes_41 : decode cX4_comes 41 = .ok (.aload_n 0, 1) := by decide +kernel
theorem dX4_comes_42 : decode cX4_comes 42 = .ok (.getfield 23, 3) := by decide +kernel
theorem dX4_comes_45 : decode cX4_comes 45 = .ok (.iconst 2, 1) := by decide +kernel
theorem dX4_comes_46 : decode cX4_comes 46 = .ok (.aload_n 0, 1) := by decide +kernel
theorem dX4_comes_47 : decode cX4_comes 47 = .ok (.getfield 87, 3) := by decide +kernel
theorem dX4_comes_50 : decode cX4_comes 50 = .ok (.imul, 1) := by decide +kernel
theorem dX4_comes_51 : decode cX4_comes 51 = .ok (.iconst 1, 1) := by decide +kernel
theorem dX4_comes_52 : decode cX4_comes 52 = .ok (.iadd, 1) := by decide +kernel
theorem dX4_comes_53 : decode cX4_comes 53 = .ok (.iload_n 3, 1) := by decide +kernel
theorem dX4_comes_54 : decode cX4_comes 54 = .ok (.iastore, 1) := by decide +kernel
theorem dX4_comes_55 : decode cX4_comes 55 = .ok (.aload_n 0, 1) := by decide +kernel
theorem dX4_comes_56 : decode cX4_comes 56 = .ok (.getfield 26, 3) := by decide +kernel
theorem dX4_comes_59 : decode cX4_comes 59 = .ok (.aload_n 0, 1) := by decide +kernel
theorem dX4_comes_60 : decode cX4_comes 60 = .ok (.getfield 87, 3) := by decide +kernel
theorem dX4_comes_63 : decode cX4_comes 63 = .ok (.aload_n 0, 1) := by decide +kernel
theorem dX4_comes_64 : decode cX4_comes 64 = .ok (.iload_n 2, 1) := by decide +kernel
theorem dX4_comes_65 : decode cX4_comes 65 = .ok (.iload_n 3, 1) := by decide +kernel
theorem dX4_comes_66 : decode cX4_comes 66 = .ok (.invokevirtual 98, 3) := by decide +kernel
theorem dX4_comes_69 : decode cX4_comes 69 = .ok (.iastore, 1) := by decide +kernel
theorem dX4_comes_70 : decode cX4_comes 70 = .ok (.aload_n 0, 1) := by decide +kernel
theorem dX4_comes_71 : decode cX4_comes 71 = .ok (.dup, 1) := by decide +kernel
theorem dX4_comes_72 : decode cX4_comes 72 = .ok (.getfield 87, 3) := by decide +kernel
theorem dX4_comes_75 : decode cX4_comes 75 = .ok (.iconst 1, 1) := by decide +kernel
theorem dX4_comes_76 : decode cX4_comes 76 = .ok (.iadd, 1) := by decide +kernel
theorem dX4_comes_77 : decode cX4_comes 77 = .ok (.putfield 87, 3) := by decide +kernel
theorem dX4_comes_80 : decode cX4_comes 80 = .ok (.aload_n 0, 1) := by decide +kernel
theorem dX4_comes_81 : decode cX4_comes 81 = .ok (.getfield 87, 3) := by decide +kernel
theorem dX4_comes_84 : decode cX4_comes 84 = .ok (.iconst 1, 1) := by decide +kernel
theorem dX4_comes_85 : decode cX4_comes 85 = .ok (.isub, 1) := by decide +kernel
theorem dX4_comes_86 : decode cX4_comes 86 = .ok (.ireturn, 1) := by decide +kernel
theorem dX4_makes_0 : decode cX4_makes 0 = .ok (.aload_n 0, 1) := by decide +kernel
theorem dX4_makes_1 : decode cX4_makes 1 = .ok (.iload_n 1, 1) := by decide +kernel
theorem dX4_makes_2 : decode cX4_makes 2 = .ok (.iload_n 2, 1) := by decide +kernel
theorem dX4_makes_3 : decode cX4_makes 3 = .ok (.iload_n 3, 1) := by decide +kernel
theorem dX4_makes_4 : decode cX4_makes 4 = .ok (.invokevirtual 94, 3) := by decide +kernel
theorem dX4_makes_7 : decode cX4_makes 7 = .ok (.bipush (-9), 2) := by decide +kernel
theorem dX4_makes_9 : decode cX4_makes 9 = .ok (.if_icmp .ne 15, 3) := by decide +kernel
theorem dX4_makes_12 : decode cX4_makes 12 = .ok (.aload_n 0, 1) := by decide +kernel
theorem dX4_makes_13 : decode cX4_makes 13 = .ok (.getfield 84, 3) := by decide +kernel
theorem dX4_makes_16 : decode cX4_makes 16 = .ok (.bipush 90, 2) := by decide +kernel
theorem dX4_makes_18 : decode cX4_makes 18 = .ok (.if_icmp .ne 6, 3) := by decide +kernel
theorem dX4_makes_21 : decode cX4_makes 21 = .ok (.bipush (-4), 2) := by decide +kernel
theorem dX4_makes_23 : decode cX4_makes 23 = .ok (.ireturn, 1) := by decide +kernel
theorem dX4_makes_24 : decode cX4_makes 24 = .ok (.aload_n 0, 1) := by decide +kernel
theorem dX4_makes_25 : decode cX4_makes 25 = .ok (.iload_n 1, 1) := by decide +kernel
theorem dX4_makes_26 : decode cX4_makes 26 = .ok (.iload_n 2, 1) := by decide +kernel
theorem dX4_makes_27 : decode cX4_makes 27 = .ok (.iload_n 3, 1) := by decide +kernel
theorem dX4_makes_28 : decode cX4_makes 28 = .ok (.invokevirtual 101, 3) := by decide +kernel
theorem dX4_makes_31 : decode cX4_makes 31 = .ok (.istore 4, 2) := by decide +kernel
theorem dX4_makes_33 : decode cX4_makes 33 = .ok (.aload_n 0, 1) := by decide +kernel
theorem dX4_makes_34 : decode cX4_makes 34 = .ok (.aload_n 0, 1) := by decide +kernel
theorem dX4_makes_35 : decode cX4_makes 35 = .ok (.getfield 87, 3) := by decide +kernel
theorem dX4_makes_38 : decode cX4_makes 38 = .ok (.putfield 84, 3) := by decide +kernel
theorem dX4_makes_41 : decode cX4_makes 41 = .ok (.iload 4, 2) := by decide +kernel
theorem dX4_makes_43 : decode cX4_makes 43 = .ok (.ireturn, 1) := by decide +kernel
theorem dX4_name_0 : decode cX4_name 0 = .ok (.iload_n 1, 1) := by decide +kernel
theorem dX4_name_1 : decode cX4_name 1 = .ok (.iconst 0, 1) := by decide +kernel
theorem dX4_name_2 : decode cX4_name 2 = .ok (.iconst 2, 1) := by decide +kernel
theorem dX4_name_3 : decode cX4_name 3 = .ok (.invokestatic 80, 3) := by decide +kernel
theorem dX4_name_6 : decode cX4_name 6 = .ok (.ifCond .ne 6, 3) := by decide +kernel
theorem dX4_name_9 : decode cX4_name 9 = .ok (.bipush (-2), 2) := by decide +kernel
theorem dX4_name_11 : decode cX4_name 11 = .ok (.ireturn, 1) := by decide +kernel
theorem dX4_name_12 : decode cX4_name 12 = .ok (.aload_n 0, 1) := by decide +kernel
theorem dX4_name_13 : decode cX4_name 13 = .ok (.getfield 76, 3) := by decide +kernel
theorem dX4_name_16 : decode cX4_name 16 = .ok (.bipush 12, 2) := by decide +kernel
theorem dX4_name_18 : decode cX4_name 18 = .ok (.if_icmp .ne 6, 3) := by decide +kernel
theorem dX4_name_21 : decode cX4_name 21 = .ok (.bipush (-4), 2) := by decide +kernel
theorem dX4_name_23 : decode cX4_name 23 = .ok (.ireturn, 1) := by decide +kernel
theorem dX4_name_24 : decode cX4_name 24 = .ok (.aload_n 0, 1) := by decide +kernel
theorem dX4_name_25 : decode cX4_name 25 = .ok (.getfield 7, 3) := by decide +kernel
theorem dX4_name_28 : decode cX4_name 28 = .ok (.aload_n 0, 1) := by decide +kernel
theorem dX4_name_29 : decode cX4_name 29 = .ok (.getfield 76, 3) := by decide +kernel
theorem dX4_name_32 : decode cX4_name 32 = .ok (.iload_n 1, 1) := by decide +kernel
theorem dX4_name_33 : decode cX4_name 33 = .ok (.iastore, 1) := by decide +kernel
theorem dX4_name_34 : decode cX4_name 34 = .ok (.aload_n 0, 1) := by decide +kernel
theorem dX4_name_35 : decode cX4_name 35 = .ok (.dup, 1) := by decide +kernel
theorem dX4_name_36 : decode cX4_name 36 = .ok (.getfield 76, 3) := by decide +kernel
theorem dX4_name_39 : decode cX4_name 39 = .ok (.iconst 1, 1) := by decide +kernel
theorem dX4_name_40 : decode cX4_name 40 = .ok (.iadd, 1) := by decide +kernel
theorem dX4_name_41 : decode cX4_name 41 = .ok (.putfield 76, 3) := by decide +kernel
theorem dX4_name_44 : decode cX4_name 44 = .ok (.aload_n 0, 1) := by decide +kernel
theorem dX4_name_45 : decode cX4_name 45 = .ok (.getfield 76, 3) := by decide +kernel
theorem dX4_name_48 : decode cX4_name 48 = .ok (.iconst 1, 1) := by decide +kernel
theorem dX4_name_49 : decode cX4_name 49 = .ok (.isub, 1) := by decide +kernel
theorem dX4_name_50 : decode cX4_name 50 = .ok (.ireturn, 1) := by decide +kernel
theorem dX4_parameter_0 : decode cX4_parameter 0 = .ok (.iload_n 1, 1) := by decide +kernel
theorem dX4_parameter_1 : decode cX4_parameter 1 = .ok (.iconst 0, 1) := by decide +kernel
theorem dX4_parameter_2 : decode cX4_parameter 2 = .ok (.iconst 1, 1) := by decide +kernel
theorem dX4_parameter_3 : decode cX4_parameter 3 = .ok (.invokestatic 80, 3) := by decide +kernel
theorem dX4_parameter_6 : decode cX4_parameter 6 = .ok (.ifCond .eq 18, 3) := by decide +kernel
theorem dX4_parameter_9 : decode cX4_parameter 9 = .ok (.aload_n 0, 1) := by decide +kernel
theorem dX4_parameter_10 : decode cX4_parameter 10 = .ok (.bipush 100, 2) := by decide +kernel
theorem dX4_parameter_12 : decode cX4_parameter 12 = .ok (.iload_n 1, 1) := by decide +kernel
theorem dX4_parameter_13 : decode cX4_parameter 13 = .ok (.iadd, 1) := by decide +kernel
theorem dX4_parameter_14 : decode cX4_parameter 14 = .ok (.bipush (-9), 2) := by decide +kernel
theorem dX4_parameter_16 : decode cX4_parameter 16 = .ok (.bipush (-9), 2) := by decide +kernel
theorem dX4_parameter_18 : decode cX4_parameter 18 = .ok (.invokevirtual 104, 3) := by decide +kernel
theorem dX4_parameter_21 : decode cX4_parameter 21 = .ok (.goto 5, 3) := by decide +kernel
theorem dX4_parameter_24 : decode cX4_parameter 24 = .ok (.bipush (-2), 2) := by decide +kernel
theorem dX4_parameter_26 : decode cX4_parameter 26 = .ok (.ireturn, 1) := by decide +kernel
theorem dX4_term_0 : decode cX4_term 0 = .ok (.aload_n 0, 1) := by decide +kernel
theorem dX4_term_1 : decode cX4_term 1 = .ok (.iload_n 1, 1) := by decide +kernel
theorem dX4_term_2 : decode cX4_term 2 = .ok (.invokevirtual 107, 3) := by decide +kernel
theorem dX4_term_5 : decode cX4_term 5 = .ok (.ifCond .eq 38, 3) := by decide +kernel
theorem dX4_term_8 : decode cX4_term 8 = .ok (.aload_n 0, 1) := by decide +kernel
theorem dX4_term_9 : decode cX4_term 9 = .ok (.getfield 7, 3) := by decide +kernel
theorem dX4_term_12 : decode cX4_term 12 = .ok (.iload_n 1, 1) := by decide +kernel
theorem dX4_term_13 : decode cX4_term 13 = .ok (.iaload, 1) := by decide +kernel
theorem dX4_term_14 : decode cX4_term 14 = .ok (.ifCond .le 11, 3) := by decide +kernel
theorem dX4_term_17 : decode cX4_term 17 = .ok (.aload_n 0, 1) := by decide +kernel
theorem dX4_term_18 : decode cX4_term 18 = .ok (.iload_n 2, 1) := by decide +kernel
theorem dX4_term_19 : decode cX4_term 19 = .ok (.invokevirtual 111, 3) := by decide +kernel
theorem dX4_term_22 : decode cX4_term 22 = .ok (.ifCond .eq 21, 3) := by decide +kernel
theorem dX4_term_25 : decode cX4_term 25 = .ok (.aload_n 0, 1) := by decide +kernel
theorem dX4_term_26 : decode cX4_term 26 = .ok (.getfield 7, 3) := by decide +kernel
theorem dX4_term_29 : decode cX4_term 29 = .ok (.iload_n 1, 1) := by decide +kernel
theorem dX4_term_30 : decode cX4_term 30 = .ok (.iaload, 1) := by decide +kernel
theorem dX4_term_31 : decode cX4_term 31 = .ok (.iconst 1, 1) := by decide +kernel
theorem dX4_term_32 : decode cX4_term 32 = .ok (.if_icmp .le 13, 3) := by decide +kernel
theorem dX4_term_35 : decode cX4_term 35 = .ok (.aload_n 0, 1) := by decide +kernel
theorem dX4_term_36 : decode cX4_term 36 = .ok (.iload_n 3, 1) := by decide +kernel
theorem dX4_term_37 : decode cX4_term 37 = .ok (.invokevirtual 111, 3) := by decide +kernel
theorem dX4_term_40 : decode cX4_term 40 = .ok (.ifCond .ne 5, 3) := by decide +kernel
theorem dX4_term_43 : decode cX4_term 43 = .ok (.iconst (-1), 1) := by decide +kernel
theorem dX4_term_44 : decode cX4_term 44 = .ok (.ireturn, 1) := by decide +kernel
theorem dX4_term_45 : decode cX4_term 45 = .ok (.aload_n 0, 1) := by decide +kernel
theorem dX4_term_46 : decode cX4_term 46 = .ok (.getfield 7, 3) := by decide +kernel
theorem dX4_term_49 : decode cX4_term 49 = .ok (.iload_n 1, 1) := by decide +kernel
theorem dX4_term_50 : decode cX4_term 50 = .ok (.iaload, 1) := by decide +kernel
theorem dX4_term_51 : decode cX4_term 51 = .ok (.iconst 1, 1) := by decide +kernel
theorem dX4_term_52 : decode cX4_term 52 = .ok (.if_icmp .ge 9, 3) := by decide +kernel
theorem dX4_term_55 : decode cX4_term 55 = .ok (.iload_n 2, 1) := by decide +kernel
theorem dX4_term_56 : decode cX4_term 56 = .ok (.bipush (-9), 2) := by decide +kernel
theorem dX4_term_58 : decode cX4_term 58 = .ok (.if_icmp .ne 19, 3) := by decide +kernel
theorem dX4_term_61 : decode cX4_term 61 = .ok (.aload_n 0, 1) := by decide +kernel
theorem dX4_term_62 : decode cX4_term 62 = .ok (.getfield 7, 3) := by decide +kernel
theorem dX4_term_65 : decode cX4_term 65 = .ok (.iload_n 1, 1) := by decide +kernel
theorem dX4_term_66 : decode cX4_term 66 = .ok (.iaload, 1) := by decide +kernel
theorem dX4_term_67 : decode cX4_term 67 = .ok (.iconst 2, 1) := by decide +kernel
theorem dX4_term_68 : decode cX4_term 68 = .ok (.if_icmp .ge 12, 3) := by decide +kernel
theorem dX4_term_71 : decode cX4_term 71 = .ok (.iload_n 3, 1) := by decide +kernel
theorem dX4_term_72 : decode cX4_term 72 = .ok (.bipush (-9), 2) := by decide +kernel
theorem dX4_term_74 : decode cX4_term 74 = .ok (.if_icmp .eq 6, 3) := by decide +kernel
theorem dX4_term_77 : decode cX4_term 77 = .ok (.bipush (-2), 2) := by decide +kernel
theorem dX4_term_79 : decode cX4_term 79 = .ok (.ireturn, 1) := by decide +kernel
theorem dX4_term_80 : decode cX4_term 80 = .ok (.aload_n 0, 1) := by decide +kernel
theorem dX4_term_81 : decode cX4_term 81 = .ok (.iload_n 2, 1) := by decide +kernel
theorem dX4_term_82 : decode cX4_term 82 = .ok (.iload_n 3, 1) := by decide +kernel
theorem dX4_term_83 : decode cX4_term 83 = .ok (.invokevirtual 98, 3) := by decide +kernel
theorem dX4_term_86 : decode cX4_term 86 = .ok (.iconst 4, 1) := by decide +kernel
theorem dX4_term_87 : decode cX4_term 87 = .ok (.if_icmp .le 8, 3) := by decide +kernel
theorem dX4_term_90 : decode cX4_term 90 = .ok (.bipush (-3), 2) := by decide +kernel
theorem dX4_term_92 : decode cX4_term 92 = .ok (.goto 10, 3) := by decide +kernel
theorem dX4_term_95 : decode cX4_term 95 = .ok (.aload_n 0, 1) := by decide +kernel
theorem dX4_term_96 : decode cX4_term 96 = .ok (.iload_n 1, 1) := by decide +kernel
theorem dX4_term_97 : decode cX4_term 97 = .ok (.iload_n 2, 1) := by decide +kernel
theorem dX4_term_98 : decode cX4_term 98 = .ok (.iload_n 3, 1) := by decide +kernel
theorem dX4_term_99 : decode cX4_term 99 = .ok (.invokevirtual 104, 3) := by decide +kernel
theorem dX4_term_102 : decode cX4_term 102 = .ok (.ireturn, 1) := by decide +kernel
theorem dX4_goesThrough_0 : decode cX4_goesThrough 0 = .ok (.aload_n 0, 1) := by decide +kernel
theorem dX4_goesThrough_1 : decode cX4_goesThrough 1 = .ok (.iconst 0, 1) := by decide +kernel
theorem dX4_goesThrough_2 : decode cX4_goesThrough 2 = .ok (.putfield 114, 3) := by decide +kernel
theorem dX4_goesThrough_5 : decode cX4_goesThrough 5 = .ok (.aload_n 0, 1) := by decide +kernel
theorem dX4_goesThrough_6 : decode cX4_goesThrough 6 = .ok (.getfield 29, 3) := by decide +kernel
theorem dX4_goesThrough_9 : decode cX4_goesThrough 9 = .ok (.aload_n 0, 1) := by decide +kernel
theorem dX4_goesThrough_10 : decode cX4_goesThrough 10 = .ok (.getfield 114, 3) := by decide +kernel
theorem dX4_goesThrough_13 : decode cX4_goesThrough 13 = .ok (.iload_n 1, 1) := by decide +kernel
theorem dX4_goesThrough_14 : decode cX4_goesThrough 14 = .ok (.iastore, 1) := by decide +kernel
theorem dX4_goesThrough_15 : decode cX4_goesThrough 15 = .ok (.aload_n 0, 1) := by decide +kernel
theorem dX4_goesThrough_16 : decode cX4_goesThrough 16 = .ok (.dup, 1) := by decide +kernel
theorem dX4_goesThrough_17 : decode cX4_goesThrough 17 = .ok (.getfield 114, 3) := by decide +kernel
theorem dX4_goesThrough_20 : decode cX4_goesThrough 20 = .ok (.iconst 1, 1) := by decide +kernel
theorem dX4_goesThrough_21 : decode cX4_goesThrough 21 = .ok (.iadd, 1) := by decide +kernel
theorem dX4_goesThrough_22 : decode cX4_goesThrough 22 = .ok (.putfield 114, 3) := by decide +kernel
theorem dX4_goesThrough_25 : decode cX4_goesThrough 25 = .ok (.iconst 0, 1) := by decide +kernel
theorem dX4_goesThrough_26 : decode cX4_goesThrough 26 = .ok (.istore_n 2, 1) := by decide +kernel
theorem dX4_goesThrough_27 : decode cX4_goesThrough 27 = .ok (.iload_n 2, 1) := by decide +kernel
theorem dX4_goesThrough_28 : decode cX4_goesThrough 28 = .ok (.aload_n 0, 1) := by decide +kernel
theorem dX4_goesThrough_29 : decode cX4_goesThrough 29 = .ok (.getfield 114, 3) := by decide +kernel
theorem dX4_goesThrough_32 : decode cX4_goesThrough 32 = .ok (.if_icmp .ge 61, 3) := by decide +kernel
theorem dX4_goesThrough_35 : decode cX4_goesThrough 35 = .ok (.iconst 0, 1) := by decide +kernel
theorem dX4_goesThrough_36 : decode cX4_goesThrough 36 = .ok (.istore_n 3, 1) := by decide +kernel
theorem dX4_goesThrough_37 : decode cX4_goesThrough 37 = .ok (.iload_n 3, 1) := by decide +kernel
theorem dX4_goesThrough_38 : decode cX4_goesThrough 38 = .ok (.aload_n 0, 1) := by decide +kernel
theorem dX4_goesThrough_39 : decode cX4_goesThrough 39 = .ok (.aload_n 0, 1) := by decide +kernel
theorem dX4_goesThrough_40 : decode cX4_goesThrough 40 = .ok (.getfield 29, 3) := by decide +kernel
theorem dX4_goesThrough_43 : decode cX4_goesThrough 43 = .ok (.iload_n 2, 1) := by decide +kernel
theorem dX4_goesThrough_44 : decode cX4_goesThrough 44 = .ok (.iaload, 1) := by decide +kernel
theorem dX4_goesThrough_45 : decode cX4_goesThrough 45 = .ok (.invokevirtual 117, 3) := by decide +kernel
theorem dX4_goesThrough_48 : decode cX4_goesThrough 48 = .ok (.if_icmp .ge 39, 3) := by decide +kernel
theorem dX4_goesThrough_51 : decode cX4_goesThrough 51 = .ok (.aload_n 0, 1) := by decide +kernel
theorem dX4_goesThrough_52 : decode cX4_goesThrough 52 = .ok (.getfield 29, 3) := by decide +kernel
theorem dX4_goesThrough_55 : decode cX4_goesThrough 55 = .ok (.aload_n 0, 1) := by decide +kernel
theorem dX4_goesThrough_56 : decode cX4_goesThrough 56 = .ok (.getfield 114, 3) := by decide +kernel
theorem dX4_goesThrough_59 : decode cX4_goesThrough 59 = .ok (.aload_n 0, 1) := by decide +kernel
theorem dX4_goesThrough_60 : decode cX4_goesThrough 60 = .ok (.aload_n 0, 1) := by decide +kernel
theorem dX4_goesThrough_61 : decode cX4_goesThrough 61 = .ok (.getfield 29, 3) := by decide +kernel
theorem dX4_goesThrough_64 : decode cX4_goesThrough 64 = .ok (.iload_n 2, 1) := by decide +kernel
theorem dX4_goesThrough_65 : decode cX4_goesThrough 65 = .ok (.iaload, 1) := by decide +kernel
theorem dX4_goesThrough_66 : decode cX4_goesThrough 66 = .ok (.iload_n 3, 1) := by decide +kernel
theorem dX4_goesThrough_67 : decode cX4_goesThrough 67 = .ok (.invokevirtual 90, 3) := by decide +kernel
theorem dX4_goesThrough_70 : decode cX4_goesThrough 70 = .ok (.iastore, 1) := by decide +kernel
theorem dX4_goesThrough_71 : decode cX4_goesThrough 71 = .ok (.aload_n 0, 1) := by decide +kernel
theorem dX4_goesThrough_72 : decode cX4_goesThrough 72 = .ok (.dup, 1) := by decide +kernel
theorem dX4_goesThrough_73 : decode cX4_goesThrough 73 = .ok (.getfield 114, 3) := by decide +kernel
theorem dX4_goesThrough_76 : decode cX4_goesThrough 76 = .ok (.iconst 1, 1) := by decide +kernel
theorem dX4_goesThrough_77 : decode cX4_goesThrough 77 = .ok (.iadd, 1) := by decide +kernel
theorem dX4_goesThrough_78 : decode cX4_goesThrough 78 = .ok (.putfield 114, 3) := by decide +kernel
theorem dX4_goesThrough_81 : decode cX4_goesThrough 81 = .ok (.iinc 3 1, 3) := by decide +kernel
theorem dX4_goesThrough_84 : decode cX4_goesThrough 84 = .ok (.goto (-47), 3) := by decide +kernel
theorem dX4_goesThrough_87 : decode cX4_goesThrough 87 = .ok (.iinc 2 1, 3) := by decide +kernel
theorem dX4_goesThrough_90 : decode cX4_goesThrough 90 = .ok (.goto (-63), 3) := by decide +kernel
theorem dX4_goesThrough_93 : decode cX4_goesThrough 93 = .ok (.return_, 1) := by decide +kernel
theorem dX4_mayDefine_0 : decode cX4_mayDefine 0 = .ok (.aload_n 0, 1) := by decide +kernel
theorem dX4_mayDefine_1 : decode cX4_mayDefine 1 = .ok (.iload_n 2, 1) := by decide +kernel
theorem dX4_mayDefine_2 : decode cX4_mayDefine 2 = .ok (.invokevirtual 121, 3) := by decide +kernel
theorem dX4_mayDefine_5 : decode cX4_mayDefine 5 = .ok (.iconst 0, 1) := by decide +kernel
theorem dX4_mayDefine_6 : decode cX4_mayDefine 6 = .ok (.istore_n 3, 1) := by decide +kernel
theorem dX4_mayDefine_7 : decode cX4_mayDefine 7 = .ok (.iload_n 3, 1) := by decide +kernel
theorem dX4_mayDefine_8 : decode cX4_mayDefine 8 = .ok (.aload_n 0, 1) := by decide +kernel
theorem dX4_mayDefine_9 : decode cX4_mayDefine 9 = .ok (.getfield 114, 3) := by decide +kernel
theorem dX4_mayDefine_12 : decode cX4_mayDefine 12 = .ok (.if_icmp .ge 54, 3) := by decide +kernel
theorem dX4_mayDefine_15 : decode cX4_mayDefine 15 = .ok (.aload_n 0, 1) := by decide +kernel
theorem dX4_mayDefine_16 : decode cX4_mayDefine 16 = .ok (.getfield 20, 3) := by decide +kernel
theorem dX4_mayDefine_19 : decode cX4_mayDefine 19 = .ok (.aload_n 0, 1) := by decide +kernel
theorem dX4_mayDefine_20 : decode cX4_mayDefine 20 = .ok (.getfield 29, 3) := by decide +kernel
theorem dX4_mayDefine_23 : decode cX4_mayDefine 23 = .ok (.iload_n 3, 1) := by decide +kernel
theorem dX4_mayDefine_24 : decode cX4_mayDefine 24 = .ok (.iaload, 1) := by decide +kernel
theorem dX4_mayDefine_25 : decode cX4_mayDefine 25 = .ok (.iaload, 1) := by decide +kernel
theorem dX4_mayDefine_26 : decode cX4_mayDefine 26 = .ok (.istore 4, 2) := by decide +kernel
theorem dX4_mayDefine_28 : decode cX4_mayDefine 28 = .ok (.iload 4, 2) := by decide +kernel
theorem dX4_mayDefine_30 : decode cX4_mayDefine 30 = .ok (.bipush 100, 2) := by decide +kernel
theorem dX4_mayDefine_32 : decode cX4_mayDefine 32 = .ok (.if_icmp .ge 12, 3) := by decide +kernel
theorem dX4_mayDefine_35 : decode cX4_mayDefine 35 = .ok (.iload 4, 2) := by decide +kernel
theorem dX4_mayDefine_37 : decode cX4_mayDefine 37 = .ok (.iload_n 1, 1) := by decide +kernel
theorem dX4_mayDefine_38 : decode cX4_mayDefine 38 = .ok (.if_icmp .lt 22, 3) := by decide +kernel
theorem dX4_mayDefine_41 : decode cX4_mayDefine 41 = .ok (.goto 17, 3) := by decide +kernel
theorem dX4_mayDefine_44 : decode cX4_mayDefine 44 = .ok (.iload 4, 2) := by decide +kernel
theorem dX4_mayDefine_46 : decode cX4_mayDefine 46 = .ok (.bipush 100, 2) := by decide +kernel
theorem dX4_mayDefine_48 : decode cX4_mayDefine 48 = .ok (.isub, 1) := by decide +kernel
theorem dX4_mayDefine_49 : decode cX4_mayDefine 49 = .ok (.aload_n 0, 1) := by decide +kernel
theorem dX4_mayDefine_50 : decode cX4_mayDefine 50 = .ok (.getfield 7, 3) := by decide +kernel
theorem dX4_mayDefine_53 : decode cX4_mayDefine 53 = .ok (.iload_n 1, 1) := by decide +kernel
theorem dX4_mayDefine_54 : decode cX4_mayDefine 54 = .ok (.iaload, 1) := by decide +kernel
theorem dX4_mayDefine_55 : decode cX4_mayDefine 55 = .ok (.if_icmp .lt 5, 3) := by decide +kernel
theorem dX4_mayDefine_58 : decode cX4_mayDefine 58 = .ok (.iconst 0, 1) := by decide +kernel
theorem dX4_mayDefine_59 : decode cX4_mayDefine 59 = .ok (.ireturn, 1) := by decide +kernel
theorem dX4_mayDefine_60 : decode cX4_mayDefine 60 = .ok (.iinc 3 1, 3) := by decide +kernel
theorem dX4_mayDefine_63 : decode cX4_mayDefine 63 = .ok (.goto (-56), 3) := by decide +kernel
theorem dX4_mayDefine_66 : decode cX4_mayDefine 66 = .ok (.iconst 1, 1) := by decide +kernel
theorem dX4_mayDefine_67 : decode cX4_mayDefine 67 = .ok (.ireturn, 1) := by decide +kernel
theorem dX4_isClosed_0 : decode cX4_isClosed 0 = .ok (.aload_n 0, 1) := by decide +kernel
theorem dX4_isClosed_1 : decode cX4_isClosed 1 = .ok (.iload_n 1, 1) := by decide +kernel
theorem dX4_isClosed_2 : decode cX4_isClosed 2 = .ok (.invokevirtual 121, 3) := by decide +kernel
theorem dX4_isClosed_5 : decode cX4_isClosed 5 = .ok (.iconst 0, 1) := by decide +kernel
theorem dX4_isClosed_6 : decode cX4_isClosed 6 = .ok (.istore_n 2, 1) := by decide +kernel
theorem dX4_isClosed_7 : decode cX4_isClosed 7 = .ok (.iload_n 2, 1) := by decide +kernel
theorem dX4_isClosed_8 : decode cX4_isClosed 8 = .ok (.aload_n 0, 1) := by decide +kernel
theorem dX4_isClosed_9 : decode cX4_isClosed 9 = .ok (.getfield 114, 3) := by decide +kernel
theorem dX4_isClosed_12 : decode cX4_isClosed 12 = .ok (.if_icmp .ge 27, 3) := by decide +kernel
theorem dX4_isClosed_15 : decode cX4_isClosed 15 = .ok (.aload_n 0, 1) := by decide +kernel
theorem dX4_isClosed_16 : decode cX4_isClosed 16 = .ok (.getfield 20, 3) := by decide +kernel
theorem dX4_isClosed_19 : decode cX4_isClosed 19 = .ok (.aload_n 0, 1) := by decide +kernel
theorem dX4_isClosed_20 : decode cX4_isClosed 20 = .ok (.getfield 29, 3) := by decide +kernel
theorem dX4_isClosed_23 : decode cX4_isClosed 23 = .ok (.iload_n 2, 1) := by decide +kernel
theorem dX4_isClosed_24 : decode cX4_isClosed 24 = .ok (.iaload, 1) := by decide +kernel
theorem dX4_isClosed_25 : decode cX4_isClosed 25 = .ok (.iaload, 1) := by decide +kernel
theorem dX4_isClosed_26 : decode cX4_isClosed 26 = .ok (.bipush 100, 2) := by decide +kernel
theorem dX4_isClosed_28 : decode cX4_isClosed 28 = .ok (.if_icmp .lt 5, 3) := by decide +kernel
theorem dX4_isClosed_31 : decode cX4_isClosed 31 = .ok (.iconst 0, 1) := by decide +kernel
theorem dX4_isClosed_32 : decode cX4_isClosed 32 = .ok (.ireturn, 1) := by decide +kernel
theorem dX4_isClosed_33 : decode cX4_isClosed 33 = .ok (.iinc 2 1, 3) := by decide +kernel
theorem dX4_isClosed_36 : decode cX4_isClosed 36 = .ok (.goto (-29), 3) := by decide +kernel
theorem dX4_isClosed_39 : decode cX4_isClosed 39 = .ok (.iconst 1, 1) := by decide +kernel
theorem dX4_isClosed_40 : decode cX4_isClosed 40 = .ok (.ireturn, 1) := by decide +kernel
theorem dX4_define_0 : decode cX4_define 0 = .ok (.aload_n 0, 1) := by decide +kernel
theorem dX4_define_1 : decode cX4_define 1 = .ok (.iload_n 1, 1) := by decide +kernel
theorem dX4_define_2 : decode cX4_define 2 = .ok (.invokevirtual 107, 3) := by decide +kernel
theorem dX4_define_5 : decode cX4_define 5 = .ok (.ifCond .eq 17, 3) := by decide +kernel
theorem dX4_define_8 : decode cX4_define 8 = .ok (.iload_n 2, 1) := by decide +kernel
theorem dX4_define_9 : decode cX4_define 9 = .ok (.bipush (-9), 2) := by decide +kernel
theorem dX4_define_11 : decode cX4_define 11 = .ok (.if_icmp .eq 13, 3) := by decide +kernel
theorem dX4_define_14 : decode cX4_define 14 = .ok (.aload_n 0, 1) := by decide +kernel
theorem dX4_define_15 : decode cX4_define 15 = .ok (.iload_n 2, 1) := by decide +kernel
theorem dX4_define_16 : decode cX4_define 16 = .ok (.invokevirtual 111, 3) := by decide +kernel
theorem dX4_define_19 : decode cX4_define 19 = .ok (.ifCond .ne 5, 3) := by decide +kernel
theorem dX4_define_22 : decode cX4_define 22 = .ok (.iconst (-1), 1) := by decide +kernel
theorem dX4_define_23 : decode cX4_define 23 = .ok (.ireturn, 1) := by decide +kernel
theorem dX4_define_24 : decode cX4_define 24 = .ok (.iload_n 2, 1) := by decide +kernel
theorem dX4_define_25 : decode cX4_define 25 = .ok (.bipush (-9), 2) := by decide +kernel
theorem dX4_define_27 : decode cX4_define 27 = .ok (.if_icmp .eq 15, 3) := by decide +kernel
theorem dX4_define_30 : decode cX4_define 30 = .ok (.aload_n 0, 1) := by decide +kernel
theorem dX4_define_31 : decode cX4_define 31 = .ok (.iload_n 1, 1) := by decide +kernel
theorem dX4_define_32 : decode cX4_define 32 = .ok (.iload_n 2, 1) := by decide +kernel
theorem dX4_define_33 : decode cX4_define 33 = .ok (.invokevirtual 125, 3) := by decide +kernel
theorem dX4_define_36 : decode cX4_define 36 = .ok (.ifCond .ne 6, 3) := by decide +kernel
theorem dX4_define_39 : decode cX4_define 39 = .ok (.bipush (-3), 2) := by decide +kernel
theorem dX4_define_41 : decode cX4_define 41 = .ok (.ireturn, 1) := by decide +kernel
theorem dX4_define_42 : decode cX4_define 42 = .ok (.aload_n 0, 1) := by decide +kernel
theorem dX4_define_43 : decode cX4_define 43 = .ok (.getfield 13, 3) := by decide +kernel
theorem dX4_define_46 : decode cX4_define 46 = .ok (.iload_n 1, 1) := by decide +kernel
theorem dX4_define_47 : decode cX4_define 47 = .ok (.iaload, 1) := by decide +kernel
theorem dX4_define_48 : decode cX4_define 48 = .ok (.istore_n 3, 1) := by decide +kernel
theorem dX4_define_49 : decode cX4_define 49 = .ok (.aload_n 0, 1) := by decide +kernel
theorem dX4_define_50 : decode cX4_define 50 = .ok (.getfield 13, 3) := by decide +kernel
theorem dX4_define_53 : decode cX4_define 53 = .ok (.iload_n 1, 1) := by decide +kernel
theorem dX4_define_54 : decode cX4_define 54 = .ok (.iload_n 2, 1) := by decide +kernel
theorem dX4_define_55 : decode cX4_define 55 = .ok (.iastore, 1) := by decide +kernel
theorem dX4_define_56 : decode cX4_define 56 = .ok (.iload_n 3, 1) := by decide +kernel
theorem dX4_define_57 : decode cX4_define 57 = .ok (.ireturn, 1) := by decide +kernel
theorem dX4_opaque_0 : decode cX4_opaque 0 = .ok (.aload_n 0, 1) := by decide +kernel
theorem dX4_opaque_1 : decode cX4_opaque 1 = .ok (.iload_n 1, 1) := by decide +kernel
theorem dX4_opaque_2 : decode cX4_opaque 2 = .ok (.invokevirtual 107, 3) := by decide +kernel
theorem dX4_opaque_5 : decode cX4_opaque 5 = .ok (.ifCond .ne 5, 3) := by decide +kernel
theorem dX4_opaque_8 : decode cX4_opaque 8 = .ok (.iconst (-1), 1) := by decide +kernel
theorem dX4_opaque_9 : decode cX4_opaque 9 = .ok (.ireturn, 1) := by decide +kernel
theorem dX4_opaque_10 : decode cX4_opaque 10 = .ok (.aload_n 0, 1) := by decide +kernel
theorem dX4_opaque_11 : decode cX4_opaque 11 = .ok (.getfield 16, 3) := by decide +kernel
theorem dX4_opaque_14 : decode cX4_opaque 14 = .ok (.iload_n 1, 1) := by decide +kernel
theorem dX4_opaque_15 : decode cX4_opaque 15 = .ok (.baload, 1) := by decide +kernel
theorem dX4_opaque_16 : decode cX4_opaque 16 = .ok (.iload_n 2, 1) := by decide +kernel
theorem dX4_opaque_17 : decode cX4_opaque 17 = .ok (.if_icmp .ne 5, 3) := by decide +kernel
theorem dX4_opaque_20 : decode cX4_opaque 20 = .ok (.iconst 0, 1) := by decide +kernel
theorem dX4_opaque_21 : decode cX4_opaque 21 = .ok (.ireturn, 1) := by decide +kernel
theorem dX4_opaque_22 : decode cX4_opaque 22 = .ok (.aload_n 0, 1) := by decide +kernel
theorem dX4_opaque_23 : decode cX4_opaque 23 = .ok (.getfield 16, 3) := by decide +kernel
theorem dX4_opaque_26 : decode cX4_opaque 26 = .ok (.iload_n 1, 1) := by decide +kernel
theorem dX4_opaque_27 : decode cX4_opaque 27 = .ok (.iload_n 2, 1) := by decide +kernel
theorem dX4_opaque_28 : decode cX4_opaque 28 = .ok (.bastore, 1) := by decide +kernel
theorem dX4_opaque_29 : decode cX4_opaque 29 = .ok (.iconst 1, 1) := by decide +kernel
theorem dX4_opaque_30 : decode cX4_opaque 30 = .ok (.ireturn, 1) := by decide +kernel
theorem dX4_atMost_0 : decode cX4_atMost 0 = .ok (.lload_n 0, 1) := by decide +kernel
theorem dX4_atMost_1 : decode cX4_atMost 1 = .ok (.ldc2_w 129, 3) := by decide +kernel
theorem dX4_atMost_4 : decode cX4_atMost 4 = .ok (.lcmp, 1) := by decide +kernel
theorem dX4_atMost_5 : decode cX4_atMost 5 = .ok (.ifCond .ge 7, 3) := by decide +kernel
theorem dX4_atMost_8 : decode cX4_atMost 8 = .ok (.lload_n 0, 1) := by decide +kernel
theorem dX4_atMost_9 : decode cX4_atMost 9 = .ok (.goto 6, 3) := by decide +kernel
theorem dX4_atMost_12 : decode cX4_atMost 12 = .ok (.ldc2_w 129, 3) := by decide +kernel
theorem dX4_atMost_15 : decode cX4_atMost 15 = .ok (.lreturn, 1) := by decide +kernel
theorem dX4_times_0 : decode cX4_times 0 = .ok (.lload_n 0, 1) := by decide +kernel
theorem dX4_times_1 : decode cX4_times 1 = .ok (.lconst 0, 1) := by decide +kernel
theorem dX4_times_2 : decode cX4_times 2 = .ok (.lcmp, 1) := by decide +kernel
theorem dX4_times_3 : decode cX4_times 3 = .ok (.ifCond .le 19, 3) := by decide +kernel
theorem dX4_times_6 : decode cX4_times 6 = .ok (.lload_n 2, 1) := by decide +kernel
theorem dX4_times_7 : decode cX4_times 7 = .ok (.ldc2_w 129, 3) := by decide +kernel
theorem dX4_times_10 : decode cX4_times 10 = .ok (.lload_n 0, 1) := by decide +kernel
theorem dX4_times_11 : decode cX4_times 11 = .ok (.ldiv, 1) := by decide +kernel
theorem dX4_times_12 : decode cX4_times 12 = .ok (.lcmp, 1) := by decide +kernel
theorem dX4_times_13 : decode cX4_times 13 = .ok (.ifCond .le 9, 3) := by decide +kernel
theorem dX4_times_16 : decode cX4_times 16 = .ok (.ldc2_w 129, 3) := by decide +kernel
theorem dX4_times_19 : decode cX4_times 19 = .ok (.goto 9, 3) := by decide +kernel
theorem dX4_times_22 : decode cX4_times 22 = .ok (.lload_n 0, 1) := by decide +kernel
theorem dX4_times_23 : decode cX4_times 23 = .ok (.lload_n 2, 1) := by decide +kernel
theorem dX4_times_24 : decode cX4_times 24 = .ok (.lmul, 1) := by decide +kernel
theorem dX4_times_25 : decode cX4_times 25 = .ok (.invokestatic 131, 3) := by decide +kernel
theorem dX4_times_28 : decode cX4_times 28 = .ok (.lreturn, 1) := by decide +kernel
theorem dX4_weighs_0 : decode cX4_weighs 0 = .ok (.aload_n 0, 1) := by decide +kernel
theorem dX4_weighs_1 : decode cX4_weighs 1 = .ok (.getfield 20, 3) := by decide +kernel
theorem dX4_weighs_4 : decode cX4_weighs 4 = .ok (.iload_n 1, 1) := by decide +kernel
theorem dX4_weighs_5 : decode cX4_weighs 5 = .ok (.iaload, 1) := by decide +kernel
theorem dX4_weighs_6 : decode cX4_weighs 6 = .ok (.istore_n 2, 1) := by decide +kernel
theorem dX4_weighs_7 : decode cX4_weighs 7 = .ok (.iload_n 2, 1) := by decide +kernel
theorem dX4_weighs_8 : decode cX4_weighs 8 = .ok (.bipush 100, 2) := by decide +kernel
theorem dX4_weighs_10 : decode cX4_weighs 10 = .ok (.if_icmp .lt 58, 3) := by decide +kernel
theorem dX4_weighs_13 : decode cX4_weighs 13 = .ok (.aload_n 0, 1) := by decide +kernel
theorem dX4_weighs_14 : decode cX4_weighs 14 = .ok (.getfield 48, 3) := by decide +kernel
theorem dX4_weighs_17 : decode cX4_weighs 17 = .ok (.iload_n 1, 1) := by decide +kernel
theorem dX4_weighs_18 : decode cX4_weighs 18 = .ok (.lconst 0, 1) := by decide +kernel
theorem dX4_weighs_19 : decode cX4_weighs 19 = .ok (.lastore, 1) := by decide +kernel
theorem dX4_weighs_20 : decode cX4_weighs 20 = .ok (.aload_n 0, 1) := by decide +kernel
theorem dX4_weighs_21 : decode cX4_weighs 21 = .ok (.getfield 54, 3) := by decide +kernel
theorem dX4_weighs_24 : decode cX4_weighs 24 = .ok (.iload_n 1, 1) := by decide +kernel
theorem dX4_weighs_25 : decode cX4_weighs 25 = .ok (.lconst 0, 1) := by decide +kernel
theorem dX4_weighs_26 : decode cX4_weighs 26 = .ok (.lastore, 1) := by decide +kernel
theorem dX4_weighs_27 : decode cX4_weighs 27 = .ok (.aload_n 0, 1) := by decide +kernel
theorem dX4_weighs_28 : decode cX4_weighs 28 = .ok (.getfield 51, 3) := by decide +kernel
theorem dX4_weighs_31 : decode cX4_weighs 31 = .ok (.iconst 2, 1) := by decide +kernel
theorem dX4_weighs_32 : decode cX4_weighs 32 = .ok (.iload_n 1, 1) := by decide +kernel
theorem dX4_weighs_33 : decode cX4_weighs 33 = .ok (.imul, 1) := by decide +kernel
theorem dX4_weighs_34 : decode cX4_weighs 34 = .ok (.iload_n 2, 1) := by decide +kernel
theorem dX4_weighs_35 : decode cX4_weighs 35 = .ok (.bipush 100, 2) := by decide +kernel
theorem dX4_weighs_37 : decode cX4_weighs 37 = .ok (.if_icmp .ne 7, 3) := by decide +kernel
theorem dX4_weighs_40 : decode cX4_weighs 40 = .ok (.lconst 1, 1) := by decide +kernel
theorem dX4_weighs_41 : decode cX4_weighs 41 = .ok (.goto 4, 3) := by decide +kernel
theorem dX4_weighs_44 : decode cX4_weighs 44 = .ok (.lconst 0, 1) := by decide +kernel
theorem dX4_weighs_45 : decode cX4_weighs 45 = .ok (.lastore, 1) := by decide +kernel
theorem dX4_weighs_46 : decode cX4_weighs 46 = .ok (.aload_n 0, 1) := by decide +kernel
theorem dX4_weighs_47 : decode cX4_weighs 47 = .ok (.getfield 51, 3) := by decide +kernel
theorem dX4_weighs_50 : decode cX4_weighs 50 = .ok (.iconst 2, 1) := by decide +kernel
theorem dX4_weighs_51 : decode cX4_weighs 51 = .ok (.iload_n 1, 1) := by decide +kernel
theorem dX4_weighs_52 : decode cX4_weighs 52 = .ok (.imul, 1) := by decide +kernel
theorem dX4_weighs_53 : decode cX4_weighs 53 = .ok (.iconst 1, 1) := by decide +kernel
theorem dX4_weighs_54 : decode cX4_weighs 54 = .ok (.iadd, 1) := by decide +kernel
theorem dX4_weighs_55 : decode cX4_weighs 55 = .ok (.iload_n 2, 1) := by decide +kernel
theorem dX4_weighs_56 : decode cX4_weighs 56 = .ok (.bipush 101, 2) := by decide +kernel
theorem dX4_weighs_58 : decode cX4_weighs 58 = .ok (.if_icmp .ne 7, 3) := by decide +kernel
theorem dX4_weighs_61 : decode cX4_weighs 61 = .ok (.lconst 1, 1) := by decide +kernel
theorem dX4_weighs_62 : decode cX4_weighs 62 = .ok (.goto 4, 3) := by decide +kernel
theorem dX4_weighs_65 : decode cX4_weighs 65 = .ok (.lconst 0, 1) := by decide +kernel
theorem dX4_weighs_66 : decode cX4_weighs 66 = .ok (.lastore, 1) := by decide +kernel
theorem dX4_weighs_67 : decode cX4_weighs 67 = .ok (.return_, 1) := by decide +kernel
theorem dX4_weighs_68 : decode cX4_weighs 68 = .ok (.aload_n 0, 1) := by decide +kernel
theorem dX4_weighs_69 : decode cX4_weighs 69 = .ok (.getfield 35, 3) := by decide +kernel
theorem dX4_weighs_72 : decode cX4_weighs 72 = .ok (.iload_n 2, 1) := by decide +kernel
theorem dX4_weighs_73 : decode cX4_weighs 73 = .ok (.laload, 1) := by decide +kernel
theorem dX4_weighs_74 : decode cX4_weighs 74 = .ok (.lstore_n 3, 1) := by decide +kernel
theorem dX4_weighs_75 : decode cX4_weighs 75 = .ok (.aload_n 0, 1) := by decide +kernel
theorem dX4_weighs_76 : decode cX4_weighs 76 = .ok (.getfield 42, 3) := by decide +kernel
theorem dX4_weighs_79 : decode cX4_weighs 79 = .ok (.iload_n 2, 1) := by decide +kernel
theorem dX4_weighs_80 : decode cX4_weighs 80 = .ok (.laload, 1) := by decide +kernel
theorem dX4_weighs_81 : decode cX4_weighs 81 = .ok (.lstore 5, 2) := by decide +kernel
theorem dX4_weighs_83 : decode cX4_weighs 83 = .ok (.lconst 0, 1) := by decide +kernel
theorem dX4_weighs_84 : decode cX4_weighs 84 = .ok (.lstore 7, 2) := by decide +kernel
theorem dX4_weighs_86 : decode cX4_weighs 86 = .ok (.lconst 0, 1) := by decide +kernel
theorem dX4_weighs_87 : decode cX4_weighs 87 = .ok (.lstore 9, 2) := by decide +kernel
theorem dX4_weighs_89 : decode cX4_weighs 89 = .ok (.iconst 0, 1) := by decide +kernel
theorem dX4_weighs_90 : decode cX4_weighs 90 = .ok (.istore 11, 2) := by decide +kernel
theorem dX4_weighs_92 : decode cX4_weighs 92 = .ok (.iload 11, 2) := by decide +kernel
theorem dX4_weighs_94 : decode cX4_weighs 94 = .ok (.aload_n 0, 1) := by decide +kernel
theorem dX4_weighs_95 : decode cX4_weighs 95 = .ok (.getfield 7, 3) := by decide +kernel
theorem dX4_weighs_98 : decode cX4_weighs 98 = .ok (.iload_n 2, 1) := by decide +kernel
theorem dX4_weighs_99 : decode cX4_weighs 99 = .ok (.iaload, 1) := by decide +kernel
theorem dX4_weighs_100 : decode cX4_weighs 100 = .ok (.if_icmp .ge 115, 3) := by decide +kernel
theorem dX4_weighs_103 : decode cX4_weighs 103 = .ok (.aload_n 0, 1) := by decide +kernel
theorem dX4_weighs_104 : decode cX4_weighs 104 = .ok (.getfield 39, 3) := by decide +kernel
theorem dX4_weighs_107 : decode cX4_weighs 107 = .ok (.iconst 2, 1) := by decide +kernel
theorem dX4_weighs_108 : decode cX4_weighs 108 = .ok (.iload_n 2, 1) := by decide +kernel
theorem dX4_weighs_109 : decode cX4_weighs 109 = .ok (.imul, 1) := by decide +kernel
theorem dX4_weighs_110 : decode cX4_weighs 110 = .ok (.iload 11, 2) := by decide +kernel
theorem dX4_weighs_112 : decode cX4_weighs 112 = .ok (.iadd, 1) := by decide +kernel
theorem dX4_weighs_113 : decode cX4_weighs 113 = .ok (.laload, 1) := by decide +kernel
theorem dX4_weighs_114 : decode cX4_weighs 114 = .ok (.lstore 12, 2) := by decide +kernel
theorem dX4_weighs_116 : decode cX4_weighs 116 = .ok (.aload_n 0, 1) := by decide +kernel
theorem dX4_weighs_117 : decode cX4_weighs 117 = .ok (.iload_n 1, 1) := by decide +kernel
theorem dX4_weighs_118 : decode cX4_weighs 118 = .ok (.iload 11, 2) := by decide +kernel
theorem dX4_weighs_120 : decode cX4_weighs 120 = .ok (.invokevirtual 90, 3) := by decide +kernel
theorem dX4_weighs_123 : decode cX4_weighs 123 = .ok (.istore 14, 2) := by decide +kernel
theorem dX4_weighs_125 : decode cX4_weighs 125 = .ok (.lload_n 3, 1) := by decide +kernel
theorem dX4_weighs_126 : decode cX4_weighs 126 = .ok (.lload 12, 2) := by decide +kernel
theorem dX4_weighs_128 : decode cX4_weighs 128 = .ok (.aload_n 0, 1) := by decide +kernel
theorem dX4_weighs_129 : decode cX4_weighs 129 = .ok (.getfield 48, 3) := by decide +kernel
theorem dX4_weighs_132 : decode cX4_weighs 132 = .ok (.iload 14, 2) := by decide +kernel
theorem dX4_weighs_134 : decode cX4_weighs 134 = .ok (.laload, 1) := by decide +kernel
theorem dX4_weighs_135 : decode cX4_weighs 135 = .ok (.invokestatic 135, 3) := by decide +kernel
theorem dX4_weighs_138 : decode cX4_weighs 138 = .ok (.ladd, 1) := by decide +kernel
theorem dX4_weighs_139 : decode cX4_weighs 139 = .ok (.invokestatic 131, 3) := by decide +kernel
theorem dX4_weighs_142 : decode cX4_weighs 142 = .ok (.lstore_n 3, 1) := by decide +kernel
theorem dX4_weighs_143 : decode cX4_weighs 143 = .ok (.lload 5, 2) := by decide +kernel
theorem dX4_weighs_145 : decode cX4_weighs 145 = .ok (.lload 12, 2) := by decide +kernel
theorem dX4_weighs_147 : decode cX4_weighs 147 = .ok (.aload_n 0, 1) := by decide +kernel
theorem dX4_weighs_148 : decode cX4_weighs 148 = .ok (.getfield 54, 3) := by decide +kernel
theorem dX4_weighs_151 : decode cX4_weighs 151 = .ok (.iload 14, 2) := by decide +kernel
theorem dX4_weighs_153 : decode cX4_weighs 153 = .ok (.laload, 1) := by decide +kernel
theorem dX4_weighs_154 : decode cX4_weighs 154 = .ok (.invokestatic 135, 3) := by decide +kernel
theorem dX4_weighs_157 : decode cX4_weighs 157 = .ok (.ladd, 1) := by decide +kernel
theorem dX4_weighs_158 : decode cX4_weighs 158 = .ok (.invokestatic 131, 3) := by decide +kernel
theorem dX4_weighs_161 : decode cX4_weighs 161 = .ok (.lstore 5, 2) := by decide +kernel
theorem dX4_weighs_163 : decode cX4_weighs 163 = .ok (.lload 7, 2) := by decide +kernel
theorem dX4_weighs_165 : decode cX4_weighs 165 = .ok (.lload 12, 2) := by decide +kernel
theorem dX4_weighs_167 : decode cX4_weighs 167 = .ok (.aload_n 0, 1) := by decide +kernel
theorem dX4_weighs_168 : decode cX4_weighs 168 = .ok (.getfield 51, 3) := by decide +kernel
theorem dX4_weighs_171 : decode cX4_weighs 171 = .ok (.iconst 2, 1) := by decide +kernel
theorem dX4_weighs_172 : decode cX4_weighs 172 = .ok (.iload 14, 2) := by decide +kernel
theorem dX4_weighs_174 : decode cX4_weighs 174 = .ok (.imul, 1) := by decide +kernel
theorem dX4_weighs_175 : decode cX4_weighs 175 = .ok (.laload, 1) := by decide +kernel
theorem dX4_weighs_176 : decode cX4_weighs 176 = .ok (.invokestatic 135, 3) := by decide +kernel
theorem dX4_weighs_179 : decode cX4_weighs 179 = .ok (.ladd, 1) := by decide +kernel
theorem dX4_weighs_180 : decode cX4_weighs 180 = .ok (.invokestatic 131, 3) := by decide +kernel
theorem dX4_weighs_183 : decode cX4_weighs 183 = .ok (.lstore 7, 2) := by decide +kernel
theorem dX4_weighs_185 : decode cX4_weighs 185 = .ok (.lload 9, 2) := by decide +kernel
theorem dX4_weighs_187 : decode cX4_weighs 187 = .ok (.lload 12, 2) := by decide +kernel
theorem dX4_weighs_189 : decode cX4_weighs 189 = .ok (.aload_n 0, 1) := by decide +kernel
theorem dX4_weighs_190 : decode cX4_weighs 190 = .ok (.getfield 51, 3) := by decide +kernel
theorem dX4_weighs_193 : decode cX4_weighs 193 = .ok (.iconst 2, 1) := by decide +kernel
theorem dX4_weighs_194 : decode cX4_weighs 194 = .ok (.iload 14, 2) := by decide +kernel
theorem dX4_weighs_196 : decode cX4_weighs 196 = .ok (.imul, 1) := by decide +kernel
theorem dX4_weighs_197 : decode cX4_weighs 197 = .ok (.iconst 1, 1) := by decide +kernel
theorem dX4_weighs_198 : decode cX4_weighs 198 = .ok (.iadd, 1) := by decide +kernel
theorem dX4_weighs_199 : decode cX4_weighs 199 = .ok (.laload, 1) := by decide +kernel
theorem dX4_weighs_200 : decode cX4_weighs 200 = .ok (.invokestatic 135, 3) := by decide +kernel
theorem dX4_weighs_203 : decode cX4_weighs 203 = .ok (.ladd, 1) := by decide +kernel
theorem dX4_weighs_204 : decode cX4_weighs 204 = .ok (.invokestatic 131, 3) := by decide +kernel
theorem dX4_weighs_207 : decode cX4_weighs 207 = .ok (.lstore 9, 2) := by decide +kernel
theorem dX4_weighs_209 : decode cX4_weighs 209 = .ok (.iinc 11 1, 3) := by decide +kernel
theorem dX4_weighs_212 : decode cX4_weighs 212 = .ok (.goto (-120), 3) := by decide +kernel
theorem dX4_weighs_215 : decode cX4_weighs 215 = .ok (.aload_n 0, 1) := by decide +kernel
theorem dX4_weighs_216 : decode cX4_weighs 216 = .ok (.getfield 48, 3) := by decide +kernel
theorem dX4_weighs_219 : decode cX4_weighs 219 = .ok (.iload_n 1, 1) := by decide +kernel
theorem dX4_weighs_220 : decode cX4_weighs 220 = .ok (.lload_n 3, 1) := by decide +kernel
theorem dX4_weighs_221 : decode cX4_weighs 221 = .ok (.lastore, 1) := by decide +kernel
theorem dX4_weighs_222 : decode cX4_weighs 222 = .ok (.aload_n 0, 1) := by decide +kernel
theorem dX4_weighs_223 : decode cX4_weighs 223 = .ok (.getfield 54, 3) := by decide +kernel
theorem dX4_weighs_226 : decode cX4_weighs 226 = .ok (.iload_n 1, 1) := by decide +kernel
theorem dX4_weighs_227 : decode cX4_weighs 227 = .ok (.lload 5, 2) := by decide +kernel
theorem dX4_weighs_229 : decode cX4_weighs 229 = .ok (.lastore, 1) := by decide +kernel
theorem dX4_weighs_230 : decode cX4_weighs 230 = .ok (.aload_n 0, 1) := by decide +kernel
theorem dX4_weighs_231 : decode cX4_weighs 231 = .ok (.getfield 51, 3) := by decide +kernel
theorem dX4_weighs_234 : decode cX4_weighs 234 = .ok (.iconst 2, 1) := by decide +kernel
theorem dX4_weighs_235 : decode cX4_weighs 235 = .ok (.iload_n 1, 1) := by decide +kernel
theorem dX4_weighs_236 : decode cX4_weighs 236 = .ok (.imul, 1) := by decide +kernel
theorem dX4_weighs_237 : decode cX4_weighs 237 = .ok (.lload 7, 2) := by decide +kernel
theorem dX4_weighs_239 : decode cX4_weighs 239 = .ok (.lastore, 1) := by decide +kernel
theorem dX4_weighs_240 : decode cX4_weighs 240 = .ok (.aload_n 0, 1) := by decide +kernel
theorem dX4_weighs_241 : decode cX4_weighs 241 = .ok (.getfield 51, 3) := by decide +kernel
theorem dX4_weighs_244 : decode cX4_weighs 244 = .ok (.iconst 2, 1) := by decide +kernel
theorem dX4_weighs_245 : decode cX4_weighs 245 = .ok (.iload_n 1, 1) := by decide +kernel
theorem dX4_weighs_246 : decode cX4_weighs 246 = .ok (.imul, 1) := by decide +kernel
theorem dX4_weighs_247 : decode cX4_weighs 247 = .ok (.iconst 1, 1) := by decide +kernel
theorem dX4_weighs_248 : decode cX4_weighs 248 = .ok (.iadd, 1) := by decide +kernel
theorem dX4_weighs_249 : decode cX4_weighs 249 = .ok (.lload 9, 2) := by decide +kernel
theorem dX4_weighs_251 : decode cX4_weighs 251 = .ok (.lastore, 1) := by decide +kernel
theorem dX4_weighs_252 : decode cX4_weighs 252 = .ok (.return_, 1) := by decide +kernel
theorem dX4_headNow_0 : decode cX4_headNow 0 = .ok (.iload_n 1, 1) := by decide +kernel
theorem dX4_headNow_1 : decode cX4_headNow 1 = .ok (.istore_n 2, 1) := by decide +kernel
theorem dX4_headNow_2 : decode cX4_headNow 2 = .ok (.aload_n 0, 1) := by decide +kernel
theorem dX4_headNow_3 : decode cX4_headNow 3 = .ok (.getfield 20, 3) := by decide +kernel
theorem dX4_headNow_6 : decode cX4_headNow 6 = .ok (.iload_n 2, 1) := by decide +kernel
theorem dX4_headNow_7 : decode cX4_headNow 7 = .ok (.iaload, 1) := by decide +kernel
theorem dX4_headNow_8 : decode cX4_headNow 8 = .ok (.bipush 100, 2) := by decide +kernel
theorem dX4_headNow_10 : decode cX4_headNow 10 = .ok (.if_icmp .ge 42, 3) := by decide +kernel
theorem dX4_headNow_13 : decode cX4_headNow 13 = .ok (.aload_n 0, 1) := by decide +kernel
theorem dX4_headNow_14 : decode cX4_headNow 14 = .ok (.getfield 45, 3) := by decide +kernel
theorem dX4_headNow_17 : decode cX4_headNow 17 = .ok (.aload_n 0, 1) := by decide +kernel
theorem dX4_headNow_18 : decode cX4_headNow 18 = .ok (.getfield 20, 3) := by decide +kernel
theorem dX4_headNow_21 : decode cX4_headNow 21 = .ok (.iload_n 2, 1) := by decide +kernel
theorem dX4_headNow_22 : decode cX4_headNow 22 = .ok (.iaload, 1) := by decide +kernel
theorem dX4_headNow_23 : decode cX4_headNow 23 = .ok (.iaload, 1) := by decide +kernel
theorem dX4_headNow_24 : decode cX4_headNow 24 = .ok (.bipush 100, 2) := by decide +kernel
theorem dX4_headNow_26 : decode cX4_headNow 26 = .ok (.if_icmp .lt 26, 3) := by decide +kernel
theorem dX4_headNow_29 : decode cX4_headNow 29 = .ok (.aload_n 0, 1) := by decide +kernel
theorem dX4_headNow_30 : decode cX4_headNow 30 = .ok (.iload_n 2, 1) := by decide +kernel
theorem dX4_headNow_31 : decode cX4_headNow 31 = .ok (.aload_n 0, 1) := by decide +kernel
theorem dX4_headNow_32 : decode cX4_headNow 32 = .ok (.getfield 45, 3) := by decide +kernel
theorem dX4_headNow_35 : decode cX4_headNow 35 = .ok (.aload_n 0, 1) := by decide +kernel
theorem dX4_headNow_36 : decode cX4_headNow 36 = .ok (.getfield 20, 3) := by decide +kernel
theorem dX4_headNow_39 : decode cX4_headNow 39 = .ok (.iload_n 2, 1) := by decide +kernel
theorem dX4_headNow_40 : decode cX4_headNow 40 = .ok (.iaload, 1) := by decide +kernel
theorem dX4_headNow_41 : decode cX4_headNow 41 = .ok (.iaload, 1) := by decide +kernel
theorem dX4_headNow_42 : decode cX4_headNow 42 = .ok (.bipush 100, 2) := by decide +kernel
theorem dX4_headNow_44 : decode cX4_headNow 44 = .ok (.isub, 1) := by decide +kernel
theorem dX4_headNow_45 : decode cX4_headNow 45 = .ok (.invokevirtual 90, 3) := by decide +kernel
theorem dX4_headNow_48 : decode cX4_headNow 48 = .ok (.istore_n 2, 1) := by decide +kernel
theorem dX4_headNow_49 : decode cX4_headNow 49 = .ok (.goto (-47), 3) := by decide +kernel
theorem dX4_headNow_52 : decode cX4_headNow 52 = .ok (.aload_n 0, 1) := by decide +kernel
theorem dX4_headNow_53 : decode cX4_headNow 53 = .ok (.getfield 20, 3) := by decide +kernel
theorem dX4_headNow_56 : decode cX4_headNow 56 = .ok (.iload_n 2, 1) := by decide +kernel
theorem dX4_headNow_57 : decode cX4_headNow 57 = .ok (.iaload, 1) := by decide +kernel
theorem dX4_headNow_58 : decode cX4_headNow 58 = .ok (.bipush 100, 2) := by decide +kernel
theorem dX4_headNow_60 : decode cX4_headNow 60 = .ok (.if_icmp .lt 12, 3) := by decide +kernel
theorem dX4_headNow_63 : decode cX4_headNow 63 = .ok (.aload_n 0, 1) := by decide +kernel
theorem dX4_headNow_64 : decode cX4_headNow 64 = .ok (.getfield 20, 3) := by decide +kernel
theorem dX4_headNow_67 : decode cX4_headNow 67 = .ok (.iload_n 2, 1) := by decide +kernel
theorem dX4_headNow_68 : decode cX4_headNow 68 = .ok (.iaload, 1) := by decide +kernel
theorem dX4_headNow_69 : decode cX4_headNow 69 = .ok (.goto 14, 3) := by decide +kernel
theorem dX4_headNow_72 : decode cX4_headNow 72 = .ok (.aload_n 0, 1) := by decide +kernel
theorem dX4_headNow_73 : decode cX4_headNow 73 = .ok (.getfield 45, 3) := by decide +kernel
theorem dX4_headNow_76 : decode cX4_headNow 76 = .ok (.aload_n 0, 1) := by decide +kernel
theorem dX4_headNow_77 : decode cX4_headNow 77 = .ok (.getfield 20, 3) := by decide +kernel
theorem dX4_headNow_80 : decode cX4_headNow 80 = .ok (.iload_n 2, 1) := by decide +kernel
theorem dX4_headNow_81 : decode cX4_headNow 81 = .ok (.iaload, 1) := by decide +kernel
theorem dX4_headNow_82 : decode cX4_headNow 82 = .ok (.iaload, 1) := by decide +kernel
theorem dX4_headNow_83 : decode cX4_headNow 83 = .ok (.ireturn, 1) := by decide +kernel
theorem dX4_findName_0 : decode cX4_findName 0 = .ok (.aload_n 0, 1) := by decide +kernel
theorem dX4_findName_1 : decode cX4_findName 1 = .ok (.getfield 32, 3) := by decide +kernel
theorem dX4_findName_4 : decode cX4_findName 4 = .ok (.iload_n 1, 1) := by decide +kernel
theorem dX4_findName_5 : decode cX4_findName 5 = .ok (.iconst 0, 1) := by decide +kernel
theorem dX4_findName_6 : decode cX4_findName 6 = .ok (.iastore, 1) := by decide +kernel
theorem dX4_findName_7 : decode cX4_findName 7 = .ok (.aload_n 0, 1) := by decide +kernel
theorem dX4_findName_8 : decode cX4_findName 8 = .ok (.getfield 35, 3) := by decide +kernel
theorem dX4_findName_11 : decode cX4_findName 11 = .ok (.iload_n 1, 1) := by decide +kernel
theorem dX4_findName_12 : decode cX4_findName 12 = .ok (.lconst 1, 1) := by decide +kernel
theorem dX4_findName_13 : decode cX4_findName 13 = .ok (.lastore, 1) := by decide +kernel
theorem dX4_findName_14 : decode cX4_findName 14 = .ok (.aload_n 0, 1) := by decide +kernel
theorem dX4_findName_15 : decode cX4_findName 15 = .ok (.getfield 39, 3) := by decide +kernel
theorem dX4_findName_18 : decode cX4_findName 18 = .ok (.iconst 2, 1) := by decide +kernel
theorem dX4_findName_19 : decode cX4_findName 19 = .ok (.iload_n 1, 1) := by decide +kernel
theorem dX4_findName_20 : decode cX4_findName 20 = .ok (.imul, 1) := by decide +kernel
theorem dX4_findName_21 : decode cX4_findName 21 = .ok (.lconst 1, 1) := by decide +kernel
theorem dX4_findName_22 : decode cX4_findName 22 = .ok (.lastore, 1) := by decide +kernel
theorem dX4_findName_23 : decode cX4_findName 23 = .ok (.aload_n 0, 1) := by decide +kernel
theorem dX4_findName_24 : decode cX4_findName 24 = .ok (.getfield 39, 3) := by decide +kernel
theorem dX4_findName_27 : decode cX4_findName 27 = .ok (.iconst 2, 1) := by decide +kernel
theorem dX4_findName_28 : decode cX4_findName 28 = .ok (.iload_n 1, 1) := by decide +kernel
theorem dX4_findName_29 : decode cX4_findName 29 = .ok (.imul, 1) := by decide +kernel
theorem dX4_findName_30 : decode cX4_findName 30 = .ok (.iconst 1, 1) := by decide +kernel
theorem dX4_findName_31 : decode cX4_findName 31 = .ok (.iadd, 1) := by decide +kernel
theorem dX4_findName_32 : decode cX4_findName 32 = .ok (.lconst 1, 1) := by decide +kernel
theorem dX4_findName_33 : decode cX4_findName 33 = .ok (.lastore, 1) := by decide +kernel
theorem dX4_findName_34 : decode cX4_findName 34 = .ok (.aload_n 0, 1) := by decide +kernel
theorem dX4_findName_35 : decode cX4_findName 35 = .ok (.getfield 42, 3) := by decide +kernel
theorem dX4_findName_38 : decode cX4_findName 38 = .ok (.iload_n 1, 1) := by decide +kernel
theorem dX4_findName_39 : decode cX4_findName 39 = .ok (.lconst 0, 1) := by decide +kernel
theorem dX4_findName_40 : decode cX4_findName 40 = .ok (.lastore, 1) := by decide +kernel
theorem dX4_findName_41 : decode cX4_findName 41 = .ok (.aload_n 0, 1) := by decide +kernel
theorem dX4_findName_42 : decode cX4_findName 42 = .ok (.getfield 45, 3) := by decide +kernel
theorem dX4_findName_45 : decode cX4_findName 45 = .ok (.iload_n 1, 1) := by decide +kernel
theorem dX4_findName_46 : decode cX4_findName 46 = .ok (.iload_n 1, 1) := by decide +kernel
theorem dX4_findName_47 : decode cX4_findName 47 = .ok (.iastore, 1) := by decide +kernel
theorem dX4_findName_48 : decode cX4_findName 48 = .ok (.aload_n 0, 1) := by decide +kernel
theorem dX4_findName_49 : decode cX4_findName 49 = .ok (.iload_n 1, 1) := by decide +kernel
theorem dX4_findName_50 : decode cX4_findName 50 = .ok (.invokevirtual 139, 3) := by decide +kernel
theorem dX4_findName_53 : decode cX4_findName 53 = .ok (.ifCond .ne 4, 3) := by decide +kernel
theorem dX4_findName_56 : decode cX4_findName 56 = .ok (.return_, 1) := by decide +kernel
theorem dX4_findName_57 : decode cX4_findName 57 = .ok (.aload_n 0, 1) := by decide +kernel
theorem dX4_findName_58 : decode cX4_findName 58 = .ok (.getfield 13, 3) := by decide +kernel
theorem dX4_findName_61 : decode cX4_findName 61 = .ok (.iload_n 1, 1) := by decide +kernel
theorem dX4_findName_62 : decode cX4_findName 62 = .ok (.iaload, 1) := by decide +kernel
theorem dX4_findName_63 : decode cX4_findName 63 = .ok (.istore_n 2, 1) := by decide +kernel
theorem dX4_findName_64 : decode cX4_findName 64 = .ok (.aload_n 0, 1) := by decide +kernel
theorem dX4_findName_65 : decode cX4_findName 65 = .ok (.iload_n 2, 1) := by decide +kernel
theorem dX4_findName_66 : decode cX4_findName 66 = .ok (.invokevirtual 121, 3) := by decide +kernel
theorem dX4_findName_69 : decode cX4_findName 69 = .ok (.iconst 0, 1) := by decide +kernel
theorem dX4_findName_70 : decode cX4_findName 70 = .ok (.istore_n 3, 1) := by decide +kernel
theorem dX4_findName_71 : decode cX4_findName 71 = .ok (.aload_n 0, 1) := by decide +kernel
theorem dX4_findName_72 : decode cX4_findName 72 = .ok (.getfield 114, 3) := by decide +kernel
theorem dX4_findName_75 : decode cX4_findName 75 = .ok (.iconst 1, 1) := by decide +kernel
theorem dX4_findName_76 : decode cX4_findName 76 = .ok (.isub, 1) := by decide +kernel
theorem dX4_findName_77 : decode cX4_findName 77 = .ok (.istore 4, 2) := by decide +kernel
theorem dX4_findName_79 : decode cX4_findName 79 = .ok (.iload 4, 2) := by decide +kernel
theorem dX4_findName_81 : decode cX4_findName 81 = .ok (.ifCond .lt 64, 3) := by decide +kernel
theorem dX4_findName_84 : decode cX4_findName 84 = .ok (.aload_n 0, 1) := by decide +kernel
theorem dX4_findName_85 : decode cX4_findName 85 = .ok (.getfield 20, 3) := by decide +kernel
theorem dX4_findName_88 : decode cX4_findName 88 = .ok (.aload_n 0, 1) := by decide +kernel
theorem dX4_findName_89 : decode cX4_findName 89 = .ok (.getfield 29, 3) := by decide +kernel
theorem dX4_findName_92 : decode cX4_findName 92 = .ok (.iload 4, 2) := by decide +kernel
theorem dX4_findName_94 : decode cX4_findName 94 = .ok (.iaload, 1) := by decide +kernel
theorem dX4_findName_95 : decode cX4_findName 95 = .ok (.iaload, 1) := by decide +kernel
theorem dX4_findName_96 : decode cX4_findName 96 = .ok (.istore 5, 2) := by decide +kernel
theorem dX4_findName_98 : decode cX4_findName 98 = .ok (.iload 5, 2) := by decide +kernel
theorem dX4_findName_100 : decode cX4_findName 100 = .ok (.bipush 100, 2) := by decide +kernel
theorem dX4_findName_102 : decode cX4_findName 102 = .ok (.if_icmp .ge 24, 3) := by decide +kernel
theorem dX4_findName_105 : decode cX4_findName 105 = .ok (.aload_n 0, 1) := by decide +kernel
theorem dX4_findName_106 : decode cX4_findName 106 = .ok (.getfield 32, 3) := by decide +kernel
theorem dX4_findName_109 : decode cX4_findName 109 = .ok (.iload 5, 2) := by decide +kernel
theorem dX4_findName_111 : decode cX4_findName 111 = .ok (.iaload, 1) := by decide +kernel
theorem dX4_findName_112 : decode cX4_findName 112 = .ok (.iload_n 3, 1) := by decide +kernel
theorem dX4_findName_113 : decode cX4_findName 113 = .ok (.if_icmp .le 13, 3) := by decide +kernel
theorem dX4_findName_116 : decode cX4_findName 116 = .ok (.aload_n 0, 1) := by decide +kernel
theorem dX4_findName_117 : decode cX4_findName 117 = .ok (.getfield 32, 3) := by decide +kernel
theorem dX4_findName_120 : decode cX4_findName 120 = .ok (.iload 5, 2) := by decide +kernel
theorem dX4_findName_122 : decode cX4_findName 122 = .ok (.iaload, 1) := by decide +kernel
theorem dX4_findName_123 : decode cX4_findName 123 = .ok (.goto 4, 3) := by decide +kernel
theorem dX4_findName_126 : decode cX4_findName 126 = .ok (.iload_n 3, 1) := by decide +kernel
theorem dX4_findName_127 : decode cX4_findName 127 = .ok (.istore_n 3, 1) := by decide +kernel
theorem dX4_findName_128 : decode cX4_findName 128 = .ok (.aload_n 0, 1) := by decide +kernel
theorem dX4_findName_129 : decode cX4_findName 129 = .ok (.aload_n 0, 1) := by decide +kernel
theorem dX4_findName_130 : decode cX4_findName 130 = .ok (.getfield 29, 3) := by decide +kernel
theorem dX4_findName_133 : decode cX4_findName 133 = .ok (.iload 4, 2) := by decide +kernel
theorem dX4_findName_135 : decode cX4_findName 135 = .ok (.iaload, 1) := by decide +kernel
theorem dX4_findName_136 : decode cX4_findName 136 = .ok (.invokevirtual 142, 3) := by decide +kernel
theorem dX4_findName_139 : decode cX4_findName 139 = .ok (.iinc 4 (-1), 3) := by decide +kernel
theorem dX4_findName_142 : decode cX4_findName 142 = .ok (.goto (-63), 3) := by decide +kernel
theorem dX4_findName_145 : decode cX4_findName 145 = .ok (.aload_n 0, 1) := by decide +kernel
theorem dX4_findName_146 : decode cX4_findName 146 = .ok (.getfield 32, 3) := by decide +kernel
theorem dX4_findName_149 : decode cX4_findName 149 = .ok (.iload_n 1, 1) := by decide +kernel
theorem dX4_findName_150 : decode cX4_findName 150 = .ok (.iconst 1, 1) := by decide +kernel
theorem dX4_findName_151 : decode cX4_findName 151 = .ok (.iload_n 3, 1) := by decide +kernel
theorem dX4_findName_152 : decode cX4_findName 152 = .ok (.iadd, 1) := by decide +kernel
theorem dX4_findName_153 : decode cX4_findName 153 = .ok (.iastore, 1) := by decide +kernel
theorem dX4_findName_154 : decode cX4_findName 154 = .ok (.aload_n 0, 1) := by decide +kernel
theorem dX4_findName_155 : decode cX4_findName 155 = .ok (.getfield 35, 3) := by decide +kernel
theorem dX4_findName_158 : decode cX4_findName 158 = .ok (.iload_n 1, 1) := by decide +kernel
theorem dX4_findName_159 : decode cX4_findName 159 = .ok (.aload_n 0, 1) := by decide +kernel
theorem dX4_findName_160 : decode cX4_findName 160 = .ok (.getfield 48, 3) := by decide +kernel
theorem dX4_findName_163 : decode cX4_findName 163 = .ok (.iload_n 2, 1) := by decide +kernel
theorem dX4_findName_164 : decode cX4_findName 164 = .ok (.laload, 1) := by decide +kernel
theorem dX4_findName_165 : decode cX4_findName 165 = .ok (.lastore, 1) := by decide +kernel
theorem dX4_findName_166 : decode cX4_findName 166 = .ok (.aload_n 0, 1) := by decide +kernel
theorem dX4_findName_167 : decode cX4_findName 167 = .ok (.getfield 39, 3) := by decide +kernel
theorem dX4_findName_170 : decode cX4_findName 170 = .ok (.iconst 2, 1) := by decide +kernel
theorem dX4_findName_171 : decode cX4_findName 171 = .ok (.iload_n 1, 1) := by decide +kernel
theorem dX4_findName_172 : decode cX4_findName 172 = .ok (.imul, 1) := by decide +kernel
theorem dX4_findName_173 : decode cX4_findName 173 = .ok (.aload_n 0, 1) := by decide +kernel
theorem dX4_findName_174 : decode cX4_findName 174 = .ok (.getfield 51, 3) := by decide +kernel
theorem dX4_findName_177 : decode cX4_findName 177 = .ok (.iconst 2, 1) := by decide +kernel
theorem dX4_findName_178 : decode cX4_findName 178 = .ok (.iload_n 2, 1) := by decide +kernel
theorem dX4_findName_179 : decode cX4_findName 179 = .ok (.imul, 1) := by decide +kernel
theorem dX4_findName_180 : decode cX4_findName 180 = .ok (.laload, 1) := by decide +kernel
theorem dX4_findName_181 : decode cX4_findName 181 = .ok (.lastore, 1) := by decide +kernel
theorem dX4_findName_182 : decode cX4_findName 182 = .ok (.aload_n 0, 1) := by decide +kernel
theorem dX4_findName_183 : decode cX4_findName 183 = .ok (.getfield 39, 3) := by decide +kernel
theorem dX4_findName_186 : decode cX4_findName 186 = .ok (.iconst 2, 1) := by decide +kernel
theorem dX4_findName_187 : decode cX4_findName 187 = .ok (.iload_n 1, 1) := by decide +kernel
theorem dX4_findName_188 : decode cX4_findName 188 = .ok (.imul, 1) := by decide +kernel
theorem dX4_findName_189 : decode cX4_findName 189 = .ok (.iconst 1, 1) := by decide +kernel
theorem dX4_findName_190 : decode cX4_findName 190 = .ok (.iadd, 1) := by decide +kernel
theorem dX4_findName_191 : decode cX4_findName 191 = .ok (.aload_n 0, 1) := by decide +kernel
theorem dX4_findName_192 : decode cX4_findName 192 = .ok (.getfield 51, 3) := by decide +kernel
theorem dX4_findName_195 : decode cX4_findName 195 = .ok (.iconst 2, 1) := by decide +kernel
theorem dX4_findName_196 : decode cX4_findName 196 = .ok (.iload_n 2, 1) := by decide +kernel
theorem dX4_findName_197 : decode cX4_findName 197 = .ok (.imul, 1) := by decide +kernel
theorem dX4_findName_198 : decode cX4_findName 198 = .ok (.iconst 1, 1) := by decide +kernel
theorem dX4_findName_199 : decode cX4_findName 199 = .ok (.iadd, 1) := by decide +kernel
theorem dX4_findName_200 : decode cX4_findName 200 = .ok (.laload, 1) := by decide +kernel
theorem dX4_findName_201 : decode cX4_findName 201 = .ok (.lastore, 1) := by decide +kernel
theorem dX4_findName_202 : decode cX4_findName 202 = .ok (.aload_n 0, 1) := by decide +kernel
theorem dX4_findName_203 : decode cX4_findName 203 = .ok (.getfield 42, 3) := by decide +kernel
theorem dX4_findName_206 : decode cX4_findName 206 = .ok (.iload_n 1, 1) := by decide +kernel
theorem dX4_findName_207 : decode cX4_findName 207 = .ok (.lconst 1, 1) := by decide +kernel
theorem dX4_findName_208 : decode cX4_findName 208 = .ok (.aload_n 0, 1) := by decide +kernel
theorem dX4_findName_209 : decode cX4_findName 209 = .ok (.getfield 54, 3) := by decide +kernel
theorem dX4_findName_212 : decode cX4_findName 212 = .ok (.iload_n 2, 1) := by decide +kernel
theorem dX4_findName_213 : decode cX4_findName 213 = .ok (.laload, 1) := by decide +kernel
theorem dX4_findName_214 : decode cX4_findName 214 = .ok (.ladd, 1) := by decide +kernel
theorem dX4_findName_215 : decode cX4_findName 215 = .ok (.invokestatic 131, 3) := by decide +kernel
theorem dX4_findName_218 : decode cX4_findName 218 = .ok (.lastore, 1) := by decide +kernel
theorem dX4_findName_219 : decode cX4_findName 219 = .ok (.aload_n 0, 1) := by decide +kernel
theorem dX4_findName_220 : decode cX4_findName 220 = .ok (.getfield 45, 3) := by decide +kernel
theorem dX4_findName_223 : decode cX4_findName 223 = .ok (.iload_n 1, 1) := by decide +kernel
theorem dX4_findName_224 : decode cX4_findName 224 = .ok (.aload_n 0, 1) := by decide +kernel
theorem dX4_findName_225 : decode cX4_findName 225 = .ok (.iload_n 2, 1) := by decide +kernel
theorem dX4_findName_226 : decode cX4_findName 226 = .ok (.invokevirtual 145, 3) := by decide +kernel
theorem dX4_findName_229 : decode cX4_findName 229 = .ok (.iastore, 1) := by decide +kernel
theorem dX4_findName_230 : decode cX4_findName 230 = .ok (.return_, 1) := by decide +kernel
theorem dX4_findNames_0 : decode cX4_findNames 0 = .ok (.iconst 0, 1) := by decide +kernel
theorem dX4_findNames_1 : decode cX4_findNames 1 = .ok (.istore_n 1, 1) := by decide +kernel
theorem dX4_findNames_2 : decode cX4_findNames 2 = .ok (.iload_n 1, 1) := by decide +kernel
theorem dX4_findNames_3 : decode cX4_findNames 3 = .ok (.aload_n 0, 1) := by decide +kernel
theorem dX4_findNames_4 : decode cX4_findNames 4 = .ok (.getfield 76, 3) := by decide +kernel
theorem dX4_findNames_7 : decode cX4_findNames 7 = .ok (.if_icmp .ge 14, 3) := by decide +kernel
theorem dX4_findNames_10 : decode cX4_findNames 10 = .ok (.aload_n 0, 1) := by decide +kernel
theorem dX4_findNames_11 : decode cX4_findNames 11 = .ok (.iload_n 1, 1) := by decide +kernel
theorem dX4_findNames_12 : decode cX4_findNames 12 = .ok (.invokevirtual 148, 3) := by decide +kernel
theorem dX4_findNames_15 : decode cX4_findNames 15 = .ok (.iinc 1 1, 3) := by decide +kernel
theorem dX4_findNames_18 : decode cX4_findNames 18 = .ok (.goto (-16), 3) := by decide +kernel
theorem dX4_findNames_21 : decode cX4_findNames 21 = .ok (.return_, 1) := by decide +kernel
theorem dX4_ofName_0 : decode cX4_ofName 0 = .ok (.aload_n 0, 1) := by decide +kernel
theorem dX4_ofName_1 : decode cX4_ofName 1 = .ok (.iload_n 1, 1) := by decide +kernel
theorem dX4_ofName_2 : decode cX4_ofName 2 = .ok (.invokevirtual 107, 3) := by decide +kernel
theorem dX4_ofName_5 : decode cX4_ofName 5 = .ok (.ifCond .ne 5, 3) := by decide +kernel
theorem dX4_ofName_8 : decode cX4_ofName 8 = .ok (.iconst (-1), 1) := by decide +kernel
theorem dX4_ofName_9 : decode cX4_ofName 9 = .ok (.ireturn, 1) := by decide +kernel
theorem dX4_ofName_10 : decode cX4_ofName 10 = .ok (.aload_n 0, 1) := by decide +kernel
theorem dX4_ofName_11 : decode cX4_ofName 11 = .ok (.invokevirtual 151, 3) := by decide +kernel
theorem dX4_ofName_14 : decode cX4_ofName 14 = .ok (.iload_n 2, 1) := by decide +kernel
theorem dX4_ofName_15 : decode cX4_ofName 15 = .ok (.tableswitch 65 0 3 #[29, 36, 43, 58], 29) := by decide +kernel
theorem dX4_ofName_44 : decode cX4_ofName 44 = .ok (.aload_n 0, 1) := by decide +kernel
theorem dX4_ofName_45 : decode cX4_ofName 45 = .ok (.getfield 7, 3) := by decide +kernel
theorem dX4_ofName_48 : decode cX4_ofName 48 = .ok (.iload_n 1, 1) := by decide +kernel
theorem dX4_ofName_49 : decode cX4_ofName 49 = .ok (.iaload, 1) := by decide +kernel
theorem dX4_ofName_50 : decode cX4_ofName 50 = .ok (.ireturn, 1) := by decide +kernel
theorem dX4_ofName_51 : decode cX4_ofName 51 = .ok (.aload_n 0, 1) := by decide +kernel
theorem dX4_ofName_52 : decode cX4_ofName 52 = .ok (.getfield 13, 3) := by decide +kernel
theorem dX4_ofName_55 : decode cX4_ofName 55 = .ok (.iload_n 1, 1) := by decide +kernel
theorem dX4_ofName_56 : decode cX4_ofName 56 = .ok (.iaload, 1) := by decide +kernel
theorem dX4_ofName_57 : decode cX4_ofName 57 = .ok (.ireturn, 1) := by decide +kernel
theorem dX4_ofName_58 : decode cX4_ofName 58 = .ok (.aload_n 0, 1) := by decide +kernel
theorem dX4_ofName_59 : decode cX4_ofName 59 = .ok (.getfield 16, 3) := by decide +kernel
theorem dX4_ofName_62 : decode cX4_ofName 62 = .ok (.iload_n 1, 1) := by decide +kernel
theorem dX4_ofName_63 : decode cX4_ofName 63 = .ok (.baload, 1) := by decide +kernel
theorem dX4_ofName_64 : decode cX4_ofName 64 = .ok (.ifCond .eq 7, 3) := by decide +kernel
theorem dX4_ofName_67 : decode cX4_ofName 67 = .ok (.iconst 1, 1) := by decide +kernel
theorem dX4_ofName_68 : decode cX4_ofName 68 = .ok (.goto 4, 3) := by decide +kernel
theorem dX4_ofName_71 : decode cX4_ofName 71 = .ok (.iconst 0, 1) := by decide +kernel
theorem dX4_ofName_72 : decode cX4_ofName 72 = .ok (.ireturn, 1) := by decide +kernel
theorem dX4_ofName_73 : decode cX4_ofName 73 = .ok (.aload_n 0, 1) := by decide +kernel
theorem dX4_ofName_74 : decode cX4_ofName 74 = .ok (.getfield 32, 3) := by decide +kernel
theorem dX4_ofName_77 : decode cX4_ofName 77 = .ok (.iload_n 1, 1) := by decide +kernel
theorem dX4_ofName_78 : decode cX4_ofName 78 = .ok (.iaload, 1) := by decide +kernel
theorem dX4_ofName_79 : decode cX4_ofName 79 = .ok (.ireturn, 1) := by decide +kernel
theorem dX4_ofName_80 : decode cX4_ofName 80 = .ok (.bipush (-2), 2) := by decide +kernel
theorem dX4_ofName_82 : decode cX4_ofName 82 = .ok (.ireturn, 1) := by decide +kernel
theorem dX4_ofTerm_0 : decode cX4_ofTerm 0 = .ok (.aload_n 0, 1) := by decide +kernel
theorem dX4_ofTerm_1 : decode cX4_ofTerm 1 = .ok (.iload_n 1, 1) := by decide +kernel
theorem dX4_ofTerm_2 : decode cX4_ofTerm 2 = .ok (.invokevirtual 111, 3) := by decide +kernel
theorem dX4_ofTerm_5 : decode cX4_ofTerm 5 = .ok (.ifCond .ne 5, 3) := by decide +kernel
theorem dX4_ofTerm_8 : decode cX4_ofTerm 8 = .ok (.iconst (-1), 1) := by decide +kernel
theorem dX4_ofTerm_9 : decode cX4_ofTerm 9 = .ok (.ireturn, 1) := by decide +kernel
theorem dX4_ofTerm_10 : decode cX4_ofTerm 10 = .ok (.iload_n 2, 1) := by decide +kernel
theorem dX4_ofTerm_11 : decode cX4_ofTerm 11 = .ok (.tableswitch 121 0 5 #[37, 60, 67, 74, 100, 114], 37) := by decide +kernel
theorem dX4_ofTerm_48 : decode cX4_ofTerm 48 = .ok (.aload_n 0, 1) := by decide +kernel
theorem dX4_ofTerm_49 : decode cX4_ofTerm 49 = .ok (.getfield 20, 3) := by decide +kernel
theorem dX4_ofTerm_52 : decode cX4_ofTerm 52 = .ok (.iload_n 1, 1) := by decide +kernel
theorem dX4_ofTerm_53 : decode cX4_ofTerm 53 = .ok (.iaload, 1) := by decide +kernel
theorem dX4_ofTerm_54 : decode cX4_ofTerm 54 = .ok (.bipush 100, 2) := by decide +kernel
theorem dX4_ofTerm_56 : decode cX4_ofTerm 56 = .ok (.if_icmp .ge 12, 3) := by decide +kernel
theorem dX4_ofTerm_59 : decode cX4_ofTerm 59 = .ok (.aload_n 0, 1) := by decide +kernel
theorem dX4_ofTerm_60 : decode cX4_ofTerm 60 = .ok (.getfield 20, 3) := by decide +kernel
theorem dX4_ofTerm_63 : decode cX4_ofTerm 63 = .ok (.iload_n 1, 1) := by decide +kernel
theorem dX4_ofTerm_64 : decode cX4_ofTerm 64 = .ok (.iaload, 1) := by decide +kernel
theorem dX4_ofTerm_65 : decode cX4_ofTerm 65 = .ok (.goto 5, 3) := by decide +kernel
theorem dX4_ofTerm_68 : decode cX4_ofTerm 68 = .ok (.bipush (-9), 2) := by decide +kernel
theorem dX4_ofTerm_70 : decode cX4_ofTerm 70 = .ok (.ireturn, 1) := by decide +kernel
theorem dX4_ofTerm_71 : decode cX4_ofTerm 71 = .ok (.aload_n 0, 1) := by decide +kernel
theorem dX4_ofTerm_72 : decode cX4_ofTerm 72 = .ok (.iload_n 1, 1) := by decide +kernel
theorem dX4_ofTerm_73 : decode cX4_ofTerm 73 = .ok (.iconst 0, 1) := by decide +kernel
theorem dX4_ofTerm_74 : decode cX4_ofTerm 74 = .ok (.invokevirtual 90, 3) := by decide +kernel
theorem dX4_ofTerm_77 : decode cX4_ofTerm 77 = .ok (.ireturn, 1) := by decide +kernel
theorem dX4_ofTerm_78 : decode cX4_ofTerm 78 = .ok (.aload_n 0, 1) := by decide +kernel
theorem dX4_ofTerm_79 : decode cX4_ofTerm 79 = .ok (.iload_n 1, 1) := by decide +kernel
theorem dX4_ofTerm_80 : decode cX4_ofTerm 80 = .ok (.iconst 1, 1) := by decide +kernel
theorem dX4_ofTerm_81 : decode cX4_ofTerm 81 = .ok (.invokevirtual 90, 3) := by decide +kernel
theorem dX4_ofTerm_84 : decode cX4_ofTerm 84 = .ok (.ireturn, 1) := by decide +kernel
theorem dX4_ofTerm_85 : decode cX4_ofTerm 85 = .ok (.aload_n 0, 1) := by decide +kernel
theorem dX4_ofTerm_86 : decode cX4_ofTerm 86 = .ok (.getfield 20, 3) := by decide +kernel
theorem dX4_ofTerm_89 : decode cX4_ofTerm 89 = .ok (.iload_n 1, 1) := by decide +kernel
theorem dX4_ofTerm_90 : decode cX4_ofTerm 90 = .ok (.iaload, 1) := by decide +kernel
theorem dX4_ofTerm_91 : decode cX4_ofTerm 91 = .ok (.bipush 100, 2) := by decide +kernel
theorem dX4_ofTerm_93 : decode cX4_ofTerm 93 = .ok (.if_icmp .ge 8, 3) := by decide +kernel
theorem dX4_ofTerm_96 : decode cX4_ofTerm 96 = .ok (.bipush (-9), 2) := by decide +kernel
theorem dX4_ofTerm_98 : decode cX4_ofTerm 98 = .ok (.goto 12, 3) := by decide +kernel
theorem dX4_ofTerm_101 : decode cX4_ofTerm 101 = .ok (.aload_n 0, 1) := by decide +kernel
theorem dX4_ofTerm_102 : decode cX4_ofTerm 102 = .ok (.getfield 20, 3) := by decide +kernel
theorem dX4_ofTerm_105 : decode cX4_ofTerm 105 = .ok (.iload_n 1, 1) := by decide +kernel
theorem dX4_ofTerm_106 : decode cX4_ofTerm 106 = .ok (.iaload, 1) := by decide +kernel
theorem dX4_ofTerm_107 : decode cX4_ofTerm 107 = .ok (.bipush 100, 2) := by decide +kernel
theorem dX4_ofTerm_109 : decode cX4_ofTerm 109 = .ok (.isub, 1) := by decide +kernel
theorem dX4_ofTerm_110 : decode cX4_ofTerm 110 = .ok (.ireturn, 1) := by decide +kernel
theorem dX4_ofTerm_111 : decode cX4_ofTerm 111 = .ok (.aload_n 0, 1) := by decide +kernel
theorem dX4_ofTerm_112 : decode cX4_ofTerm 112 = .ok (.iload_n 1, 1) := by decide +kernel
theorem dX4_ofTerm_113 : decode cX4_ofTerm 113 = .ok (.invokevirtual 154, 3) := by decide +kernel
theorem dX4_ofTerm_116 : decode cX4_ofTerm 116 = .ok (.ifCond .eq 7, 3) := by decide +kernel
theorem dX4_ofTerm_119 : decode cX4_ofTerm 119 = .ok (.iconst 1, 1) := by decide +kernel
theorem dX4_ofTerm_120 : decode cX4_ofTerm 120 = .ok (.goto 4, 3) := by decide +kernel
theorem dX4_ofTerm_123 : decode cX4_ofTerm 123 = .ok (.iconst 0, 1) := by decide +kernel
theorem dX4_ofTerm_124 : decode cX4_ofTerm 124 = .ok (.ireturn, 1) := by decide +kernel
theorem dX4_ofTerm_125 : decode cX4_ofTerm 125 = .ok (.aload_n 0, 1) := by decide +kernel
theorem dX4_ofTerm_126 : decode cX4_ofTerm 126 = .ok (.getfield 26, 3) := by decide +kernel
theorem dX4_ofTerm_129 : decode cX4_ofTerm 129 = .ok (.iload_n 1, 1) := by decide +kernel
theorem dX4_ofTerm_130 : decode cX4_ofTerm 130 = .ok (.iaload, 1) := by decide +kernel
theorem dX4_ofTerm_131 : decode cX4_ofTerm 131 = .ok (.ireturn, 1) := by decide +kernel
theorem dX4_ofTerm_132 : decode cX4_ofTerm 132 = .ok (.bipush (-2), 2) := by decide +kernel
theorem dX4_ofTerm_134 : decode cX4_ofTerm 134 = .ok (.ireturn, 1) := by decide +kernel
theorem dX4_plainSize_0 : decode cX4_plainSize 0 = .ok (.aload_n 0, 1) := by decide +kernel
theorem dX4_plainSize_1 : decode cX4_plainSize 1 = .ok (.iload_n 1, 1) := by decide +kernel
theorem dX4_plainSize_2 : decode cX4_plainSize 2 = .ok (.invokevirtual 121, 3) := by decide +kernel
theorem dX4_plainSize_5 : decode cX4_plainSize 5 = .ok (.aload_n 0, 1) := by decide +kernel
theorem dX4_plainSize_6 : decode cX4_plainSize 6 = .ok (.getfield 114, 3) := by decide +kernel
theorem dX4_plainSize_9 : decode cX4_plainSize 9 = .ok (.ireturn, 1) := by decide +kernel
theorem dX4_unfoldedSize_0 : decode cX4_unfoldedSize 0 = .ok (.aload_n 0, 1) := by decide +kernel
theorem dX4_unfoldedSize_1 : decode cX4_unfoldedSize 1 = .ok (.getfield 20, 3) := by decide +kernel
theorem dX4_unfoldedSize_4 : decode cX4_unfoldedSize 4 = .ok (.iload_n 1, 1) := by decide +kernel
theorem dX4_unfoldedSize_5 : decode cX4_unfoldedSize 5 = .ok (.iaload, 1) := by decide +kernel
theorem dX4_unfoldedSize_6 : decode cX4_unfoldedSize 6 = .ok (.bipush 100, 2) := by decide +kernel
theorem dX4_unfoldedSize_8 : decode cX4_unfoldedSize 8 = .ok (.if_icmp .ge 16, 3) := by decide +kernel
theorem dX4_unfoldedSize_11 : decode cX4_unfoldedSize 11 = .ok (.aload_n 0, 1) := by decide +kernel
theorem dX4_unfoldedSize_12 : decode cX4_unfoldedSize 12 = .ok (.aload_n 0, 1) := by decide +kernel
theorem dX4_unfoldedSize_13 : decode cX4_unfoldedSize 13 = .ok (.getfield 20, 3) := by decide +kernel
theorem dX4_unfoldedSize_16 : decode cX4_unfoldedSize 16 = .ok (.iload_n 1, 1) := by decide +kernel
theorem dX4_unfoldedSize_17 : decode cX4_unfoldedSize 17 = .ok (.iaload, 1) := by decide +kernel
theorem dX4_unfoldedSize_18 : decode cX4_unfoldedSize 18 = .ok (.invokevirtual 139, 3) := by decide +kernel
theorem dX4_unfoldedSize_21 : decode cX4_unfoldedSize 21 = .ok (.ifCond .ne 5, 3) := by decide +kernel
theorem dX4_unfoldedSize_24 : decode cX4_unfoldedSize 24 = .ok (.lconst 0, 1) := by decide +kernel
theorem dX4_unfoldedSize_25 : decode cX4_unfoldedSize 25 = .ok (.lreturn, 1) := by decide +kernel
theorem dX4_unfoldedSize_26 : decode cX4_unfoldedSize 26 = .ok (.aload_n 0, 1) := by decide +kernel
theorem dX4_unfoldedSize_27 : decode cX4_unfoldedSize 27 = .ok (.getfield 7, 3) := by decide +kernel
theorem dX4_unfoldedSize_30 : decode cX4_unfoldedSize 30 = .ok (.aload_n 0, 1) := by decide +kernel
theorem dX4_unfoldedSize_31 : decode cX4_unfoldedSize 31 = .ok (.getfield 20, 3) := by decide +kernel
theorem dX4_unfoldedSize_34 : decode cX4_unfoldedSize 34 = .ok (.iload_n 1, 1) := by decide +kernel
theorem dX4_unfoldedSize_35 : decode cX4_unfoldedSize 35 = .ok (.iaload, 1) := by decide +kernel
theorem dX4_unfoldedSize_36 : decode cX4_unfoldedSize 36 = .ok (.iaload, 1) := by decide +kernel
theorem dX4_unfoldedSize_37 : decode cX4_unfoldedSize 37 = .ok (.ifCond .le 16, 3) := by decide +kernel
theorem dX4_unfoldedSize_40 : decode cX4_unfoldedSize 40 = .ok (.aload_n 0, 1) := by decide +kernel
theorem dX4_unfoldedSize_41 : decode cX4_unfoldedSize 41 = .ok (.aload_n 0, 1) := by decide +kernel
theorem dX4_unfoldedSize_42 : decode cX4_unfoldedSize 42 = .ok (.iload_n 1, 1) := by decide +kernel
theorem dX4_unfoldedSize_43 : decode cX4_unfoldedSize 43 = .ok (.iconst 0, 1) := by decide +kernel
theorem dX4_unfoldedSize_44 : decode cX4_unfoldedSize 44 = .ok (.invokevirtual 90, 3) := by decide +kernel
theorem dX4_unfoldedSize_47 : decode cX4_unfoldedSize 47 = .ok (.invokevirtual 157, 3) := by decide +kernel
theorem dX4_unfoldedSize_50 : decode cX4_unfoldedSize 50 = .ok (.goto 4, 3) := by decide +kernel
theorem dX4_unfoldedSize_53 : decode cX4_unfoldedSize 53 = .ok (.iconst 0, 1) := by decide +kernel
theorem dX4_unfoldedSize_54 : decode cX4_unfoldedSize 54 = .ok (.istore_n 2, 1) := by decide +kernel
theorem dX4_unfoldedSize_55 : decode cX4_unfoldedSize 55 = .ok (.aload_n 0, 1) := by decide +kernel
theorem dX4_unfoldedSize_56 : decode cX4_unfoldedSize 56 = .ok (.getfield 7, 3) := by decide +kernel
theorem dX4_unfoldedSize_59 : decode cX4_unfoldedSize 59 = .ok (.aload_n 0, 1) := by decide +kernel
theorem dX4_unfoldedSize_60 : decode cX4_unfoldedSize 60 = .ok (.getfield 20, 3) := by decide +kernel
theorem dX4_unfoldedSize_63 : decode cX4_unfoldedSize 63 = .ok (.iload_n 1, 1) := by decide +kernel
theorem dX4_unfoldedSize_64 : decode cX4_unfoldedSize 64 = .ok (.iaload, 1) := by decide +kernel
theorem dX4_unfoldedSize_65 : decode cX4_unfoldedSize 65 = .ok (.iaload, 1) := by decide +kernel
theorem dX4_unfoldedSize_66 : decode cX4_unfoldedSize 66 = .ok (.iconst 1, 1) := by decide +kernel
theorem dX4_unfoldedSize_67 : decode cX4_unfoldedSize 67 = .ok (.if_icmp .le 16, 3) := by decide +kernel
theorem dX4_unfoldedSize_70 : decode cX4_unfoldedSize 70 = .ok (.aload_n 0, 1) := by decide +kernel
theorem dX4_unfoldedSize_71 : decode cX4_unfoldedSize 71 = .ok (.aload_n 0, 1) := by decide +kernel
theorem dX4_unfoldedSize_72 : decode cX4_unfoldedSize 72 = .ok (.iload_n 1, 1) := by decide +kernel
theorem dX4_unfoldedSize_73 : decode cX4_unfoldedSize 73 = .ok (.iconst 1, 1) := by decide +kernel
theorem dX4_unfoldedSize_74 : decode cX4_unfoldedSize 74 = .ok (.invokevirtual 90, 3) := by decide +kernel
theorem dX4_unfoldedSize_77 : decode cX4_unfoldedSize 77 = .ok (.invokevirtual 157, 3) := by decide +kernel
theorem dX4_unfoldedSize_80 : decode cX4_unfoldedSize 80 = .ok (.goto 4, 3) := by decide +kernel
theorem dX4_unfoldedSize_83 : decode cX4_unfoldedSize 83 = .ok (.iconst 0, 1) := by decide +kernel
theorem dX4_unfoldedSize_84 : decode cX4_unfoldedSize 84 = .ok (.istore_n 3, 1) := by decide +kernel
theorem dX4_unfoldedSize_85 : decode cX4_unfoldedSize 85 = .ok (.aload_n 0, 1) := by decide +kernel
theorem dX4_unfoldedSize_86 : decode cX4_unfoldedSize 86 = .ok (.aload_n 0, 1) := by decide +kernel
theorem dX4_unfoldedSize_87 : decode cX4_unfoldedSize 87 = .ok (.getfield 13, 3) := by decide +kernel
theorem dX4_unfoldedSize_90 : decode cX4_unfoldedSize 90 = .ok (.aload_n 0, 1) := by decide +kernel
theorem dX4_unfoldedSize_91 : decode cX4_unfoldedSize 91 = .ok (.getfield 20, 3) := by decide +kernel
theorem dX4_unfoldedSize_94 : decode cX4_unfoldedSize 94 = .ok (.iload_n 1, 1) := by decide +kernel
theorem dX4_unfoldedSize_95 : decode cX4_unfoldedSize 95 = .ok (.iaload, 1) := by decide +kernel
theorem dX4_unfoldedSize_96 : decode cX4_unfoldedSize 96 = .ok (.iaload, 1) := by decide +kernel
theorem dX4_unfoldedSize_97 : decode cX4_unfoldedSize 97 = .ok (.invokevirtual 121, 3) := by decide +kernel
theorem dX4_unfoldedSize_100 : decode cX4_unfoldedSize 100 = .ok (.lconst 0, 1) := by decide +kernel
theorem dX4_unfoldedSize_101 : decode cX4_unfoldedSize 101 = .ok (.lstore 4, 2) := by decide +kernel
theorem dX4_unfoldedSize_103 : decode cX4_unfoldedSize 103 = .ok (.iconst 0, 1) := by decide +kernel
theorem dX4_unfoldedSize_104 : decode cX4_unfoldedSize 104 = .ok (.istore 6, 2) := by decide +kernel
theorem dX4_unfoldedSize_106 : decode cX4_unfoldedSize 106 = .ok (.iload 6, 2) := by decide +kernel
theorem dX4_unfoldedSize_108 : decode cX4_unfoldedSize 108 = .ok (.aload_n 0, 1) := by decide +kernel
theorem dX4_unfoldedSize_109 : decode cX4_unfoldedSize 109 = .ok (.getfield 114, 3) := by decide +kernel
theorem dX4_unfoldedSize_112 : decode cX4_unfoldedSize 112 = .ok (.if_icmp .ge 53, 3) := by decide +kernel
theorem dX4_unfoldedSize_115 : decode cX4_unfoldedSize 115 = .ok (.aload_n 0, 1) := by decide +kernel
theorem dX4_unfoldedSize_116 : decode cX4_unfoldedSize 116 = .ok (.getfield 20, 3) := by decide +kernel
theorem dX4_unfoldedSize_119 : decode cX4_unfoldedSize 119 = .ok (.aload_n 0, 1) := by decide +kernel
theorem dX4_unfoldedSize_120 : decode cX4_unfoldedSize 120 = .ok (.getfield 29, 3) := by decide +kernel
theorem dX4_unfoldedSize_123 : decode cX4_unfoldedSize 123 = .ok (.iload 6, 2) := by decide +kernel
theorem dX4_unfoldedSize_125 : decode cX4_unfoldedSize 125 = .ok (.iaload, 1) := by decide +kernel
theorem dX4_unfoldedSize_126 : decode cX4_unfoldedSize 126 = .ok (.iaload, 1) := by decide +kernel
theorem dX4_unfoldedSize_127 : decode cX4_unfoldedSize 127 = .ok (.istore 7, 2) := by decide +kernel
theorem dX4_unfoldedSize_129 : decode cX4_unfoldedSize 129 = .ok (.lload 4, 2) := by decide +kernel
theorem dX4_unfoldedSize_131 : decode cX4_unfoldedSize 131 = .ok (.iload 7, 2) := by decide +kernel
theorem dX4_unfoldedSize_133 : decode cX4_unfoldedSize 133 = .ok (.bipush 100, 2) := by decide +kernel
theorem dX4_unfoldedSize_135 : decode cX4_unfoldedSize 135 = .ok (.if_icmp .ge 7, 3) := by decide +kernel
theorem dX4_unfoldedSize_138 : decode cX4_unfoldedSize 138 = .ok (.lconst 1, 1) := by decide +kernel
theorem dX4_unfoldedSize_139 : decode cX4_unfoldedSize 139 = .ok (.goto 17, 3) := by decide +kernel
theorem dX4_unfoldedSize_142 : decode cX4_unfoldedSize 142 = .ok (.iload 7, 2) := by decide +kernel
theorem dX4_unfoldedSize_144 : decode cX4_unfoldedSize 144 = .ok (.bipush 100, 2) := by decide +kernel
theorem dX4_unfoldedSize_146 : decode cX4_unfoldedSize 146 = .ok (.if_icmp .ne 8, 3) := by decide +kernel
theorem dX4_unfoldedSize_149 : decode cX4_unfoldedSize 149 = .ok (.iload_n 2, 1) := by decide +kernel
theorem dX4_unfoldedSize_150 : decode cX4_unfoldedSize 150 = .ok (.i2l, 1) := by decide +kernel
theorem dX4_unfoldedSize_151 : decode cX4_unfoldedSize 151 = .ok (.goto 5, 3) := by decide +kernel
theorem dX4_unfoldedSize_154 : decode cX4_unfoldedSize 154 = .ok (.iload_n 3, 1) := by decide +kernel
theorem dX4_unfoldedSize_155 : decode cX4_unfoldedSize 155 = .ok (.i2l, 1) := by decide +kernel
theorem dX4_unfoldedSize_156 : decode cX4_unfoldedSize 156 = .ok (.ladd, 1) := by decide +kernel
theorem dX4_unfoldedSize_157 : decode cX4_unfoldedSize 157 = .ok (.lstore 4, 2) := by decide +kernel
theorem dX4_unfoldedSize_159 : decode cX4_unfoldedSize 159 = .ok (.iinc 6 1, 3) := by decide +kernel
theorem dX4_unfoldedSize_162 : decode cX4_unfoldedSize 162 = .ok (.goto (-56), 3) := by decide +kernel
theorem dX4_unfoldedSize_165 : decode cX4_unfoldedSize 165 = .ok (.lload 4, 2) := by decide +kernel
theorem dX4_unfoldedSize_167 : decode cX4_unfoldedSize 167 = .ok (.lreturn, 1) := by decide +kernel
theorem dX4_weighsAll_0 : decode cX4_weighsAll 0 = .ok (.aload_n 0, 1) := by decide +kernel
theorem dX4_weighsAll_1 : decode cX4_weighsAll 1 = .ok (.invokevirtual 151, 3) := by decide +kernel
theorem dX4_weighsAll_4 : decode cX4_weighsAll 4 = .ok (.aload_n 0, 1) := by decide +kernel
theorem dX4_weighsAll_5 : decode cX4_weighsAll 5 = .ok (.iload_n 1, 1) := by decide +kernel
theorem dX4_weighsAll_6 : decode cX4_weighsAll 6 = .ok (.invokevirtual 121, 3) := by decide +kernel
theorem dX4_weighsAll_9 : decode cX4_weighsAll 9 = .ok (.aload_n 0, 1) := by decide +kernel
theorem dX4_weighsAll_10 : decode cX4_weighsAll 10 = .ok (.getfield 114, 3) := by decide +kernel
theorem dX4_weighsAll_13 : decode cX4_weighsAll 13 = .ok (.iconst 1, 1) := by decide +kernel
theorem dX4_weighsAll_14 : decode cX4_weighsAll 14 = .ok (.isub, 1) := by decide +kernel
theorem dX4_weighsAll_15 : decode cX4_weighsAll 15 = .ok (.istore_n 2, 1) := by decide +kernel
theorem dX4_weighsAll_16 : decode cX4_weighsAll 16 = .ok (.iload_n 2, 1) := by decide +kernel
theorem dX4_weighsAll_17 : decode cX4_weighsAll 17 = .ok (.ifCond .lt 19, 3) := by decide +kernel
theorem dX4_weighsAll_20 : decode cX4_weighsAll 20 = .ok (.aload_n 0, 1) := by decide +kernel
theorem dX4_weighsAll_21 : decode cX4_weighsAll 21 = .ok (.aload_n 0, 1) := by decide +kernel
theorem dX4_weighsAll_22 : decode cX4_weighsAll 22 = .ok (.getfield 29, 3) := by decide +kernel
theorem dX4_weighsAll_25 : decode cX4_weighsAll 25 = .ok (.iload_n 2, 1) := by decide +kernel
theorem dX4_weighsAll_26 : decode cX4_weighsAll 26 = .ok (.iaload, 1) := by decide +kernel
theorem dX4_weighsAll_27 : decode cX4_weighsAll 27 = .ok (.invokevirtual 142, 3) := by decide +kernel
theorem dX4_weighsAll_30 : decode cX4_weighsAll 30 = .ok (.iinc 2 (-1), 3) := by decide +kernel
theorem dX4_weighsAll_33 : decode cX4_weighsAll 33 = .ok (.goto (-17), 3) := by decide +kernel
theorem dX4_weighsAll_36 : decode cX4_weighsAll 36 = .ok (.return_, 1) := by decide +kernel
theorem dX4_size_0 : decode cX4_size 0 = .ok (.aload_n 0, 1) := by decide +kernel
theorem dX4_size_1 : decode cX4_size 1 = .ok (.iload_n 1, 1) := by decide +kernel
theorem dX4_size_2 : decode cX4_size 2 = .ok (.invokevirtual 111, 3) := by decide +kernel
theorem dX4_size_5 : decode cX4_size 5 = .ok (.ifCond .eq 12, 3) := by decide +kernel
theorem dX4_size_8 : decode cX4_size 8 = .ok (.iload_n 2, 1) := by decide +kernel
theorem dX4_size_9 : decode cX4_size 9 = .ok (.iconst 0, 1) := by decide +kernel
theorem dX4_size_10 : decode cX4_size 10 = .ok (.iconst 3, 1) := by decide +kernel
theorem dX4_size_11 : decode cX4_size 11 = .ok (.invokestatic 80, 3) := by decide +kernel
theorem dX4_size_14 : decode cX4_size 14 = .ok (.ifCond .ne 7, 3) := by decide +kernel
theorem dX4_size_17 : decode cX4_size 17 = .ok (.ldc2_w 160, 3) := by decide +kernel
theorem dX4_size_20 : decode cX4_size 20 = .ok (.lreturn, 1) := by decide +kernel
theorem dX4_size_21 : decode cX4_size 21 = .ok (.iload_n 2, 1) := by decide +kernel
theorem dX4_size_22 : decode cX4_size 22 = .ok (.iconst 2, 1) := by decide +kernel
theorem dX4_size_23 : decode cX4_size 23 = .ok (.if_icmp .ge 22, 3) := by decide +kernel
theorem dX4_size_26 : decode cX4_size 26 = .ok (.iload_n 2, 1) := by decide +kernel
theorem dX4_size_27 : decode cX4_size 27 = .ok (.ifCond .ne 12, 3) := by decide +kernel
theorem dX4_size_30 : decode cX4_size 30 = .ok (.aload_n 0, 1) := by decide +kernel
theorem dX4_size_31 : decode cX4_size 31 = .ok (.iload_n 1, 1) := by decide +kernel
theorem dX4_size_32 : decode cX4_size 32 = .ok (.invokevirtual 157, 3) := by decide +kernel
theorem dX4_size_35 : decode cX4_size 35 = .ok (.i2l, 1) := by decide +kernel
theorem dX4_size_36 : decode cX4_size 36 = .ok (.goto 8, 3) := by decide +kernel
theorem dX4_size_39 : decode cX4_size 39 = .ok (.aload_n 0, 1) := by decide +kernel
theorem dX4_size_40 : decode cX4_size 40 = .ok (.iload_n 1, 1) := by decide +kernel
theorem dX4_size_41 : decode cX4_size 41 = .ok (.invokevirtual 162, 3) := by decide +kernel
theorem dX4_size_44 : decode cX4_size 44 = .ok (.lreturn, 1) := by decide +kernel
theorem dX4_size_45 : decode cX4_size 45 = .ok (.aload_n 0, 1) := by decide +kernel
theorem dX4_size_46 : decode cX4_size 46 = .ok (.iload_n 1, 1) := by decide +kernel
theorem dX4_size_47 : decode cX4_size 47 = .ok (.invokevirtual 166, 3) := by decide +kernel
theorem dX4_size_50 : decode cX4_size 50 = .ok (.iload_n 2, 1) := by decide +kernel
theorem dX4_size_51 : decode cX4_size 51 = .ok (.iconst 3, 1) := by decide +kernel
theorem dX4_size_52 : decode cX4_size 52 = .ok (.if_icmp .ne 12, 3) := by decide +kernel
theorem dX4_size_55 : decode cX4_size 55 = .ok (.aload_n 0, 1) := by decide +kernel
theorem dX4_size_56 : decode cX4_size 56 = .ok (.getfield 54, 3) := by decide +kernel
theorem dX4_size_59 : decode cX4_size 59 = .ok (.iload_n 1, 1) := by decide +kernel
theorem dX4_size_60 : decode cX4_size 60 = .ok (.laload, 1) := by decide +kernel
theorem dX4_size_61 : decode cX4_size 61 = .ok (.goto 32, 3) := by decide +kernel
theorem dX4_size_64 : decode cX4_size 64 = .ok (.aload_n 0, 1) := by decide +kernel
theorem dX4_size_65 : decode cX4_size 65 = .ok (.getfield 48, 3) := by decide +kernel
theorem dX4_size_68 : decode cX4_size 68 = .ok (.iload_n 1, 1) := by decide +kernel
theorem dX4_size_69 : decode cX4_size 69 = .ok (.laload, 1) := by decide +kernel
theorem dX4_size_70 : decode cX4_size 70 = .ok (.aload_n 0, 1) := by decide +kernel
theorem dX4_size_71 : decode cX4_size 71 = .ok (.getfield 51, 3) := by decide +kernel
theorem dX4_size_74 : decode cX4_size 74 = .ok (.iconst 2, 1) := by decide +kernel
theorem dX4_size_75 : decode cX4_size 75 = .ok (.iload_n 1, 1) := by decide +kernel
theorem dX4_size_76 : decode cX4_size 76 = .ok (.imul, 1) := by decide +kernel
theorem dX4_size_77 : decode cX4_size 77 = .ok (.laload, 1) := by decide +kernel
theorem dX4_size_78 : decode cX4_size 78 = .ok (.ladd, 1) := by decide +kernel
theorem dX4_size_79 : decode cX4_size 79 = .ok (.aload_n 0, 1) := by decide +kernel
theorem dX4_size_80 : decode cX4_size 80 = .ok (.getfield 51, 3) := by decide +kernel
theorem dX4_size_83 : decode cX4_size 83 = .ok (.iconst 2, 1) := by decide +kernel
theorem dX4_size_84 : decode cX4_size 84 = .ok (.iload_n 1, 1) := by decide +kernel
theorem dX4_size_85 : decode cX4_size 85 = .ok (.imul, 1) := by decide +kernel
theorem dX4_size_86 : decode cX4_size 86 = .ok (.iconst 1, 1) := by decide +kernel
theorem dX4_size_87 : decode cX4_size 87 = .ok (.iadd, 1) := by decide +kernel
theorem dX4_size_88 : decode cX4_size 88 = .ok (.laload, 1) := by decide +kernel
theorem dX4_size_89 : decode cX4_size 89 = .ok (.ladd, 1) := by decide +kernel
theorem dX4_size_90 : decode cX4_size 90 = .ok (.invokestatic 131, 3) := by decide +kernel
theorem dX4_size_93 : decode cX4_size 93 = .ok (.lreturn, 1) := by decide +kernel
theorem dX4_front_0 : decode cX4_front 0 = .ok (.aload_n 0, 1) := by decide +kernel
theorem dX4_front_1 : decode cX4_front 1 = .ok (.iload_n 1, 1) := by decide +kernel
theorem dX4_front_2 : decode cX4_front 2 = .ok (.invokevirtual 111, 3) := by decide +kernel
theorem dX4_front_5 : decode cX4_front 5 = .ok (.ifCond .ne 5, 3) := by decide +kernel
theorem dX4_front_8 : decode cX4_front 8 = .ok (.iconst (-1), 1) := by decide +kernel
theorem dX4_front_9 : decode cX4_front 9 = .ok (.ireturn, 1) := by decide +kernel
theorem dX4_front_10 : decode cX4_front 10 = .ok (.aload_n 0, 1) := by decide +kernel
theorem dX4_front_11 : decode cX4_front 11 = .ok (.invokevirtual 151, 3) := by decide +kernel
theorem dX4_front_14 : decode cX4_front 14 = .ok (.aload_n 0, 1) := by decide +kernel
theorem dX4_front_15 : decode cX4_front 15 = .ok (.iload_n 1, 1) := by decide +kernel
theorem dX4_front_16 : decode cX4_front 16 = .ok (.invokevirtual 145, 3) := by decide +kernel
theorem dX4_front_19 : decode cX4_front 19 = .ok (.ireturn, 1) := by decide +kernel
theorem dX4_unfolds_0 : decode cX4_unfolds 0 = .ok (.aload_n 0, 1) := by decide +kernel
theorem dX4_unfolds_1 : decode cX4_unfolds 1 = .ok (.dup, 1) := by decide +kernel
theorem dX4_unfolds_2 : decode cX4_unfolds 2 = .ok (.getfield 169, 3) := by decide +kernel
theorem dX4_unfolds_5 : decode cX4_unfolds 5 = .ok (.iconst 1, 1) := by decide +kernel
theorem dX4_unfolds_6 : decode cX4_unfolds 6 = .ok (.iadd, 1) := by decide +kernel
theorem dX4_unfolds_7 : decode cX4_unfolds 7 = .ok (.putfield 169, 3) := by decide +kernel
theorem dX4_unfolds_10 : decode cX4_unfolds 10 = .ok (.aload_n 0, 1) := by decide +kernel
theorem dX4_unfolds_11 : decode cX4_unfolds 11 = .ok (.aload_n 0, 1) := by decide +kernel
theorem dX4_unfolds_12 : decode cX4_unfolds 12 = .ok (.getfield 13, 3) := by decide +kernel
theorem dX4_unfolds_15 : decode cX4_unfolds 15 = .ok (.aload_n 0, 1) := by decide +kernel
theorem dX4_unfolds_16 : decode cX4_unfolds 16 = .ok (.getfield 20, 3) := by decide +kernel
theorem dX4_unfolds_19 : decode cX4_unfolds 19 = .ok (.iload_n 1, 1) := by decide +kernel
theorem dX4_unfolds_20 : decode cX4_unfolds 20 = .ok (.iaload, 1) := by decide +kernel
theorem dX4_unfolds_21 : decode cX4_unfolds 21 = .ok (.iaload, 1) := by decide +kernel
theorem dX4_unfolds_22 : decode cX4_unfolds 22 = .ok (.invokevirtual 121, 3) := by decide +kernel
theorem dX4_unfolds_25 : decode cX4_unfolds 25 = .ok (.aload_n 0, 1) := by decide +kernel
theorem dX4_unfolds_26 : decode cX4_unfolds 26 = .ok (.getfield 61, 3) := by decide +kernel
theorem dX4_unfolds_29 : decode cX4_unfolds 29 = .ok (.astore_n 2, 1) := by decide +kernel
theorem dX4_unfolds_30 : decode cX4_unfolds 30 = .ok (.aload_n 0, 1) := by decide +kernel
theorem dX4_unfolds_31 : decode cX4_unfolds 31 = .ok (.getfield 114, 3) := by decide +kernel
theorem dX4_unfolds_34 : decode cX4_unfolds 34 = .ok (.iconst 1, 1) := by decide +kernel
theorem dX4_unfolds_35 : decode cX4_unfolds 35 = .ok (.isub, 1) := by decide +kernel
theorem dX4_unfolds_36 : decode cX4_unfolds 36 = .ok (.istore_n 3, 1) := by decide +kernel
theorem dX4_unfolds_37 : decode cX4_unfolds 37 = .ok (.iload_n 3, 1) := by decide +kernel
theorem dX4_unfolds_38 : decode cX4_unfolds 38 = .ok (.ifCond .lt 114, 3) := by decide +kernel
theorem dX4_unfolds_41 : decode cX4_unfolds 41 = .ok (.aload_n 0, 1) := by decide +kernel
theorem dX4_unfolds_42 : decode cX4_unfolds 42 = .ok (.getfield 29, 3) := by decide +kernel
theorem dX4_unfolds_45 : decode cX4_unfolds 45 = .ok (.iload_n 3, 1) := by decide +kernel
theorem dX4_unfolds_46 : decode cX4_unfolds 46 = .ok (.iaload, 1) := by decide +kernel
theorem dX4_unfolds_47 : decode cX4_unfolds 47 = .ok (.istore 4, 2) := by decide +kernel
theorem dX4_unfolds_49 : decode cX4_unfolds 49 = .ok (.aload_n 0, 1) := by decide +kernel
theorem dX4_unfolds_50 : decode cX4_unfolds 50 = .ok (.getfield 20, 3) := by decide +kernel
theorem dX4_unfolds_53 : decode cX4_unfolds 53 = .ok (.iload 4, 2) := by decide +kernel
theorem dX4_unfolds_55 : decode cX4_unfolds 55 = .ok (.iaload, 1) := by decide +kernel
theorem dX4_unfolds_56 : decode cX4_unfolds 56 = .ok (.istore 5, 2) := by decide +kernel
theorem dX4_unfolds_58 : decode cX4_unfolds 58 = .ok (.iload 5, 2) := by decide +kernel
theorem dX4_unfolds_60 : decode cX4_unfolds 60 = .ok (.bipush 100, 2) := by decide +kernel
theorem dX4_unfolds_62 : decode cX4_unfolds 62 = .ok (.if_icmp .lt 19, 3) := by decide +kernel
theorem dX4_unfolds_65 : decode cX4_unfolds 65 = .ok (.aload_n 2, 1) := by decide +kernel
theorem dX4_unfolds_66 : decode cX4_unfolds 66 = .ok (.iload_n 3, 1) := by decide +kernel
theorem dX4_unfolds_67 : decode cX4_unfolds 67 = .ok (.aload_n 0, 1) := by decide +kernel
theorem dX4_unfolds_68 : decode cX4_unfolds 68 = .ok (.iload_n 1, 1) := by decide +kernel
theorem dX4_unfolds_69 : decode cX4_unfolds 69 = .ok (.iload 5, 2) := by decide +kernel
theorem dX4_unfolds_71 : decode cX4_unfolds 71 = .ok (.bipush 100, 2) := by decide +kernel
theorem dX4_unfolds_73 : decode cX4_unfolds 73 = .ok (.isub, 1) := by decide +kernel
theorem dX4_unfolds_74 : decode cX4_unfolds 74 = .ok (.invokevirtual 90, 3) := by decide +kernel
theorem dX4_unfolds_77 : decode cX4_unfolds 77 = .ok (.iastore, 1) := by decide +kernel
theorem dX4_unfolds_78 : decode cX4_unfolds 78 = .ok (.goto 68, 3) := by decide +kernel
theorem dX4_unfolds_81 : decode cX4_unfolds 81 = .ok (.aload_n 0, 1) := by decide +kernel
theorem dX4_unfolds_82 : decode cX4_unfolds 82 = .ok (.iload_n 3, 1) := by decide +kernel
theorem dX4_unfolds_83 : decode cX4_unfolds 83 = .ok (.invokevirtual 172, 3) := by decide +kernel
theorem dX4_unfolds_86 : decode cX4_unfolds 86 = .ok (.istore 6, 2) := by decide +kernel
theorem dX4_unfolds_88 : decode cX4_unfolds 88 = .ok (.aload_n 0, 1) := by decide +kernel
theorem dX4_unfolds_89 : decode cX4_unfolds 89 = .ok (.getfield 7, 3) := by decide +kernel
theorem dX4_unfolds_92 : decode cX4_unfolds 92 = .ok (.iload 5, 2) := by decide +kernel
theorem dX4_unfolds_94 : decode cX4_unfolds 94 = .ok (.iaload, 1) := by decide +kernel
theorem dX4_unfolds_95 : decode cX4_unfolds 95 = .ok (.ifCond .le 10, 3) := by decide +kernel
theorem dX4_unfolds_98 : decode cX4_unfolds 98 = .ok (.aload_n 2, 1) := by decide +kernel
theorem dX4_unfolds_99 : decode cX4_unfolds 99 = .ok (.iload 6, 2) := by decide +kernel
theorem dX4_unfolds_101 : decode cX4_unfolds 101 = .ok (.iaload, 1) := by decide +kernel
theorem dX4_unfolds_102 : decode cX4_unfolds 102 = .ok (.goto 5, 3) := by decide +kernel
theorem dX4_unfolds_105 : decode cX4_unfolds 105 = .ok (.bipush (-9), 2) := by decide +kernel
theorem dX4_unfolds_107 : decode cX4_unfolds 107 = .ok (.istore 7, 2) := by decide +kernel
theorem dX4_unfolds_109 : decode cX4_unfolds 109 = .ok (.aload_n 0, 1) := by decide +kernel
theorem dX4_unfolds_110 : decode cX4_unfolds 110 = .ok (.getfield 7, 3) := by decide +kernel
theorem dX4_unfolds_113 : decode cX4_unfolds 113 = .ok (.iload 5, 2) := by decide +kernel
theorem dX4_unfolds_115 : decode cX4_unfolds 115 = .ok (.iaload, 1) := by decide +kernel
theorem dX4_unfolds_116 : decode cX4_unfolds 116 = .ok (.iconst 1, 1) := by decide +kernel
theorem dX4_unfolds_117 : decode cX4_unfolds 117 = .ok (.if_icmp .le 12, 3) := by decide +kernel
theorem dX4_unfolds_120 : decode cX4_unfolds 120 = .ok (.aload_n 2, 1) := by decide +kernel
theorem dX4_unfolds_121 : decode cX4_unfolds 121 = .ok (.iload 6, 2) := by decide +kernel
theorem dX4_unfolds_123 : decode cX4_unfolds 123 = .ok (.iconst 1, 1) := by decide +kernel
theorem dX4_unfolds_124 : decode cX4_unfolds 124 = .ok (.iadd, 1) := by decide +kernel
theorem dX4_unfolds_125 : decode cX4_unfolds 125 = .ok (.iaload, 1) := by decide +kernel
theorem dX4_unfolds_126 : decode cX4_unfolds 126 = .ok (.goto 5, 3) := by decide +kernel
theorem dX4_unfolds_129 : decode cX4_unfolds 129 = .ok (.bipush (-9), 2) := by decide +kernel
theorem dX4_unfolds_131 : decode cX4_unfolds 131 = .ok (.istore 8, 2) := by decide +kernel
theorem dX4_unfolds_133 : decode cX4_unfolds 133 = .ok (.aload_n 2, 1) := by decide +kernel
theorem dX4_unfolds_134 : decode cX4_unfolds 134 = .ok (.iload_n 3, 1) := by decide +kernel
theorem dX4_unfolds_135 : decode cX4_unfolds 135 = .ok (.aload_n 0, 1) := by decide +kernel
theorem dX4_unfolds_136 : decode cX4_unfolds 136 = .ok (.iload 5, 2) := by decide +kernel
theorem dX4_unfolds_138 : decode cX4_unfolds 138 = .ok (.iload 7, 2) := by decide +kernel
theorem dX4_unfolds_140 : decode cX4_unfolds 140 = .ok (.iload 8, 2) := by decide +kernel
theorem dX4_unfolds_142 : decode cX4_unfolds 142 = .ok (.invokevirtual 101, 3) := by decide +kernel
theorem dX4_unfolds_145 : decode cX4_unfolds 145 = .ok (.iastore, 1) := by decide +kernel
theorem dX4_unfolds_146 : decode cX4_unfolds 146 = .ok (.iinc 3 (-1), 3) := by decide +kernel
theorem dX4_unfolds_149 : decode cX4_unfolds 149 = .ok (.goto (-112), 3) := by decide +kernel
theorem dX4_unfolds_152 : decode cX4_unfolds 152 = .ok (.aload_n 2, 1) := by decide +kernel
theorem dX4_unfolds_153 : decode cX4_unfolds 153 = .ok (.iconst 0, 1) := by decide +kernel
theorem dX4_unfolds_154 : decode cX4_unfolds 154 = .ok (.iaload, 1) := by decide +kernel
theorem dX4_unfolds_155 : decode cX4_unfolds 155 = .ok (.ireturn, 1) := by decide +kernel
theorem dX4_firstPart_0 : decode cX4_firstPart 0 = .ok (.iconst 1, 1) := by decide +kernel
theorem dX4_firstPart_1 : decode cX4_firstPart 1 = .ok (.istore_n 2, 1) := by decide +kernel
theorem dX4_firstPart_2 : decode cX4_firstPart 2 = .ok (.iconst 0, 1) := by decide +kernel
theorem dX4_firstPart_3 : decode cX4_firstPart 3 = .ok (.istore_n 3, 1) := by decide +kernel
theorem dX4_firstPart_4 : decode cX4_firstPart 4 = .ok (.iload_n 3, 1) := by decide +kernel
theorem dX4_firstPart_5 : decode cX4_firstPart 5 = .ok (.iload_n 1, 1) := by decide +kernel
theorem dX4_firstPart_6 : decode cX4_firstPart 6 = .ok (.if_icmp .ge 22, 3) := by decide +kernel
theorem dX4_firstPart_9 : decode cX4_firstPart 9 = .ok (.iload_n 2, 1) := by decide +kernel
theorem dX4_firstPart_10 : decode cX4_firstPart 10 = .ok (.aload_n 0, 1) := by decide +kernel
theorem dX4_firstPart_11 : decode cX4_firstPart 11 = .ok (.aload_n 0, 1) := by decide +kernel
theorem dX4_firstPart_12 : decode cX4_firstPart 12 = .ok (.getfield 29, 3) := by decide +kernel
theorem dX4_firstPart_15 : decode cX4_firstPart 15 = .ok (.iload_n 3, 1) := by decide +kernel
theorem dX4_firstPart_16 : decode cX4_firstPart 16 = .ok (.iaload, 1) := by decide +kernel
theorem dX4_firstPart_17 : decode cX4_firstPart 17 = .ok (.invokevirtual 117, 3) := by decide +kernel
theorem dX4_firstPart_20 : decode cX4_firstPart 20 = .ok (.iadd, 1) := by decide +kernel
theorem dX4_firstPart_21 : decode cX4_firstPart 21 = .ok (.istore_n 2, 1) := by decide +kernel
theorem dX4_firstPart_22 : decode cX4_firstPart 22 = .ok (.iinc 3 1, 3) := by decide +kernel
theorem dX4_firstPart_25 : decode cX4_firstPart 25 = .ok (.goto (-21), 3) := by decide +kernel
theorem dX4_firstPart_28 : decode cX4_firstPart 28 = .ok (.iload_n 2, 1) := by decide +kernel
theorem dX4_firstPart_29 : decode cX4_firstPart 29 = .ok (.ireturn, 1) := by decide +kernel
theorem dX4_mayUnfold_0 : decode cX4_mayUnfold 0 = .ok (.aload_n 0, 1) := by decide +kernel
theorem dX4_mayUnfold_1 : decode cX4_mayUnfold 1 = .ok (.aload_n 0, 1) := by decide +kernel
theorem dX4_mayUnfold_2 : decode cX4_mayUnfold 2 = .ok (.getfield 175, 3) := by decide +kernel
theorem dX4_mayUnfold_5 : decode cX4_mayUnfold 5 = .ok (.ifCond .ne 14, 3) := by decide +kernel
theorem dX4_mayUnfold_8 : decode cX4_mayUnfold 8 = .ok (.aload_n 0, 1) := by decide +kernel
theorem dX4_mayUnfold_9 : decode cX4_mayUnfold 9 = .ok (.getfield 169, 3) := by decide +kernel
theorem dX4_mayUnfold_12 : decode cX4_mayUnfold 12 = .ok (.iload_n 1, 1) := by decide +kernel
theorem dX4_mayUnfold_13 : decode cX4_mayUnfold 13 = .ok (.iadd, 1) := by decide +kernel
theorem dX4_mayUnfold_14 : decode cX4_mayUnfold 14 = .ok (.bipush 40, 2) := by decide +kernel
theorem dX4_mayUnfold_16 : decode cX4_mayUnfold 16 = .ok (.if_icmp .le 7, 3) := by decide +kernel
theorem dX4_mayUnfold_19 : decode cX4_mayUnfold 19 = .ok (.iconst 1, 1) := by decide +kernel
theorem dX4_mayUnfold_20 : decode cX4_mayUnfold 20 = .ok (.goto 4, 3) := by decide +kernel
theorem dX4_mayUnfold_23 : decode cX4_mayUnfold 23 = .ok (.iconst 0, 1) := by decide +kernel
theorem dX4_mayUnfold_24 : decode cX4_mayUnfold 24 = .ok (.putfield 175, 3) := by decide +kernel
theorem dX4_mayUnfold_27 : decode cX4_mayUnfold 27 = .ok (.aload_n 0, 1) := by decide +kernel
theorem dX4_mayUnfold_28 : decode cX4_mayUnfold 28 = .ok (.getfield 175, 3) := by decide +kernel
theorem dX4_mayUnfold_31 : decode cX4_mayUnfold 31 = .ok (.ifCond .ne 7, 3) := by decide +kernel
theorem dX4_mayUnfold_34 : decode cX4_mayUnfold 34 = .ok (.iconst 1, 1) := by decide +kernel
theorem dX4_mayUnfold_35 : decode cX4_mayUnfold 35 = .ok (.goto 4, 3) := by decide +kernel
theorem dX4_mayUnfold_38 : decode cX4_mayUnfold 38 = .ok (.iconst 0, 1) := by decide +kernel
theorem dX4_mayUnfold_39 : decode cX4_mayUnfold 39 = .ok (.ireturn, 1) := by decide +kernel
theorem dX4_goesTo_0 : decode cX4_goesTo 0 = .ok (.aload_n 0, 1) := by decide +kernel
theorem dX4_goesTo_1 : decode cX4_goesTo 1 = .ok (.getfield 64, 3) := by decide +kernel
theorem dX4_goesTo_4 : decode cX4_goesTo 4 = .ok (.aload_n 0, 1) := by decide +kernel
theorem dX4_goesTo_5 : decode cX4_goesTo 5 = .ok (.getfield 179, 3) := by decide +kernel
theorem dX4_goesTo_8 : decode cX4_goesTo 8 = .ok (.iload_n 1, 1) := by decide +kernel
theorem dX4_goesTo_9 : decode cX4_goesTo 9 = .ok (.iastore, 1) := by decide +kernel
theorem dX4_goesTo_10 : decode cX4_goesTo 10 = .ok (.aload_n 0, 1) := by decide +kernel
theorem dX4_goesTo_11 : decode cX4_goesTo 11 = .ok (.getfield 67, 3) := by decide +kernel
theorem dX4_goesTo_14 : decode cX4_goesTo 14 = .ok (.aload_n 0, 1) := by decide +kernel
theorem dX4_goesTo_15 : decode cX4_goesTo 15 = .ok (.getfield 179, 3) := by decide +kernel
theorem dX4_goesTo_18 : decode cX4_goesTo 18 = .ok (.iload_n 2, 1) := by decide +kernel
theorem dX4_goesTo_19 : decode cX4_goesTo 19 = .ok (.iastore, 1) := by decide +kernel
theorem dX4_goesTo_20 : decode cX4_goesTo 20 = .ok (.aload_n 0, 1) := by decide +kernel
theorem dX4_goesTo_21 : decode cX4_goesTo 21 = .ok (.getfield 70, 3) := by decide +kernel
theorem dX4_goesTo_24 : decode cX4_goesTo 24 = .ok (.aload_n 0, 1) := by decide +kernel
theorem dX4_goesTo_25 : decode cX4_goesTo 25 = .ok (.getfield 179, 3) := by decide +kernel
theorem dX4_goesTo_28 : decode cX4_goesTo 28 = .ok (.iconst 0, 1) := by decide +kernel
theorem dX4_goesTo_29 : decode cX4_goesTo 29 = .ok (.iastore, 1) := by decide +kernel
theorem dX4_goesTo_30 : decode cX4_goesTo 30 = .ok (.aload_n 0, 1) := by decide +kernel
theorem dX4_goesTo_31 : decode cX4_goesTo 31 = .ok (.dup, 1) := by decide +kernel
theorem dX4_goesTo_32 : decode cX4_goesTo 32 = .ok (.getfield 179, 3) := by decide +kernel
theorem dX4_goesTo_35 : decode cX4_goesTo 35 = .ok (.iconst 1, 1) := by decide +kernel
theorem dX4_goesTo_36 : decode cX4_goesTo 36 = .ok (.iadd, 1) := by decide +kernel
theorem dX4_goesTo_37 : decode cX4_goesTo 37 = .ok (.putfield 179, 3) := by decide +kernel
theorem dX4_goesTo_40 : decode cX4_goesTo 40 = .ok (.return_, 1) := by decide +kernel
theorem dX4_ends_0 : decode cX4_ends 0 = .ok (.aload_n 0, 1) := by decide +kernel
theorem dX4_ends_1 : decode cX4_ends 1 = .ok (.dup, 1) := by decide +kernel
theorem dX4_ends_2 : decode cX4_ends 2 = .ok (.getfield 179, 3) := by decide +kernel
theorem dX4_ends_5 : decode cX4_ends 5 = .ok (.iconst 1, 1) := by decide +kernel
theorem dX4_ends_6 : decode cX4_ends 6 = .ok (.isub, 1) := by decide +kernel
theorem dX4_ends_7 : decode cX4_ends 7 = .ok (.putfield 179, 3) := by decide +kernel
theorem dX4_ends_10 : decode cX4_ends 10 = .ok (.aload_n 0, 1) := by decide +kernel
theorem dX4_ends_11 : decode cX4_ends 11 = .ok (.getfield 58, 3) := by decide +kernel
theorem dX4_ends_14 : decode cX4_ends 14 = .ok (.sipush 740, 3) := by decide +kernel
theorem dX4_ends_17 : decode cX4_ends 17 = .ok (.aload_n 0, 1) := by decide +kernel
theorem dX4_ends_18 : decode cX4_ends 18 = .ok (.getfield 64, 3) := by decide +kernel
theorem dX4_ends_21 : decode cX4_ends 21 = .ok (.aload_n 0, 1) := by decide +kernel
theorem dX4_ends_22 : decode cX4_ends 22 = .ok (.getfield 179, 3) := by decide +kernel
theorem dX4_ends_25 : decode cX4_ends 25 = .ok (.iaload, 1) := by decide +kernel
theorem dX4_ends_26 : decode cX4_ends 26 = .ok (.imul, 1) := by decide +kernel
theorem dX4_ends_27 : decode cX4_ends 27 = .ok (.aload_n 0, 1) := by decide +kernel
theorem dX4_ends_28 : decode cX4_ends 28 = .ok (.getfield 67, 3) := by decide +kernel
theorem dX4_ends_31 : decode cX4_ends 31 = .ok (.aload_n 0, 1) := by decide +kernel
theorem dX4_ends_32 : decode cX4_ends 32 = .ok (.getfield 179, 3) := by decide +kernel
theorem dX4_ends_35 : decode cX4_ends 35 = .ok (.iaload, 1) := by decide +kernel
theorem dX4_ends_36 : decode cX4_ends 36 = .ok (.iadd, 1) := by decide +kernel
theorem dX4_ends_37 : decode cX4_ends 37 = .ok (.iconst 2, 1) := by decide +kernel
theorem dX4_ends_38 : decode cX4_ends 38 = .ok (.aload_n 0, 1) := by decide +kernel
theorem dX4_ends_39 : decode cX4_ends 39 = .ok (.getfield 182, 3) := by decide +kernel
theorem dX4_ends_42 : decode cX4_ends 42 = .ok (.imul, 1) := by decide +kernel
theorem dX4_ends_43 : decode cX4_ends 43 = .ok (.iload_n 1, 1) := by decide +kernel
theorem dX4_ends_44 : decode cX4_ends 44 = .ok (.ifCond .eq 7, 3) := by decide +kernel
theorem dX4_ends_47 : decode cX4_ends 47 = .ok (.iconst 1, 1) := by decide +kernel
theorem dX4_ends_48 : decode cX4_ends 48 = .ok (.goto 4, 3) := by decide +kernel
theorem dX4_ends_51 : decode cX4_ends 51 = .ok (.iconst 0, 1) := by decide +kernel
theorem dX4_ends_52 : decode cX4_ends 52 = .ok (.iadd, 1) := by decide +kernel
theorem dX4_ends_53 : decode cX4_ends 53 = .ok (.iastore, 1) := by decide +kernel
theorem dX4_ends_54 : decode cX4_ends 54 = .ok (.aload_n 0, 1) := by decide +kernel
theorem dX4_ends_55 : decode cX4_ends 55 = .ok (.iload_n 1, 1) := by decide +kernel
theorem dX4_ends_56 : decode cX4_ends 56 = .ok (.putfield 185, 3) := by decide +kernel
theorem dX4_ends_59 : decode cX4_ends 59 = .ok (.return_, 1) := by decide +kernel
theorem dX4_leaves_0 : decode cX4_leaves 0 = .ok (.aload_n 0, 1) := by decide +kernel
theorem dX4_leaves_1 : decode cX4_leaves 1 = .ok (.dup, 1) := by decide +kernel
theorem dX4_leaves_2 : decode cX4_leaves 2 = .ok (.getfield 179, 3) := by decide +kernel
theorem dX4_leaves_5 : decode cX4_leaves 5 = .ok (.iconst 1, 1) := by decide +kernel
theorem dX4_leaves_6 : decode cX4_leaves 6 = .ok (.isub, 1) := by decide +kernel
theorem dX4_leaves_7 : decode cX4_leaves 7 = .ok (.putfield 179, 3) := by decide +kernel
theorem dX4_leaves_10 : decode cX4_leaves 10 = .ok (.aload_n 0, 1) := by decide +kernel
theorem dX4_leaves_11 : decode cX4_leaves 11 = .ok (.iload_n 1, 1) := by decide +kernel
theorem dX4_leaves_12 : decode cX4_leaves 12 = .ok (.putfield 185, 3) := by decide +kernel
theorem dX4_leaves_15 : decode cX4_leaves 15 = .ok (.return_, 1) := by decide +kernel
theorem dX4_unfoldsSome_0 : decode cX4_unfoldsSome 0 = .ok (.aload_n 0, 1) := by decide +kernel
theorem dX4_unfoldsSome_1 : decode cX4_unfoldsSome 1 = .ok (.iload_n 1, 1) := by decide +kernel
theorem dX4_unfoldsSome_2 : decode cX4_unfoldsSome 2 = .ok (.ifCond .eq 11, 3) := by decide +kernel
theorem dX4_unfoldsSome_5 : decode cX4_unfoldsSome 5 = .ok (.iload_n 2, 1) := by decide +kernel
theorem dX4_unfoldsSome_6 : decode cX4_unfoldsSome 6 = .ok (.ifCond .eq 7, 3) := by decide +kernel
theorem dX4_unfoldsSome_9 : decode cX4_unfoldsSome 9 = .ok (.iconst 2, 1) := by decide +kernel
theorem dX4_unfoldsSome_10 : decode cX4_unfoldsSome 10 = .ok (.goto 4, 3) := by decide +kernel
theorem dX4_unfoldsSome_13 : decode cX4_unfoldsSome 13 = .ok (.iconst 1, 1) := by decide +kernel
theorem dX4_unfoldsSome_14 : decode cX4_unfoldsSome 14 = .ok (.invokevirtual 188, 3) := by decide +kernel
theorem dX4_unfoldsSome_17 : decode cX4_unfoldsSome 17 = .ok (.ifCond .ne 9, 3) := by decide +kernel
theorem dX4_unfoldsSome_20 : decode cX4_unfoldsSome 20 = .ok (.aload_n 0, 1) := by decide +kernel
theorem dX4_unfoldsSome_21 : decode cX4_unfoldsSome 21 = .ok (.iconst 0, 1) := by decide +kernel
theorem dX4_unfoldsSome_22 : decode cX4_unfoldsSome 22 = .ok (.invokevirtual 191, 3) := by decide +kernel
theorem dX4_unfoldsSome_25 : decode cX4_unfoldsSome 25 = .ok (.return_, 1) := by decide +kernel
theorem dX4_unfoldsSome_26 : decode cX4_unfoldsSome 26 = .ok (.aload_n 0, 1) := by decide +kernel
theorem dX4_unfoldsSome_27 : decode cX4_unfoldsSome 27 = .ok (.getfield 70, 3) := by decide +kernel
theorem dX4_unfoldsSome_30 : decode cX4_unfoldsSome 30 = .ok (.aload_n 0, 1) := by decide +kernel
theorem dX4_unfoldsSome_31 : decode cX4_unfoldsSome 31 = .ok (.getfield 179, 3) := by decide +kernel
theorem dX4_unfoldsSome_34 : decode cX4_unfoldsSome 34 = .ok (.iconst 1, 1) := by decide +kernel
theorem dX4_unfoldsSome_35 : decode cX4_unfoldsSome 35 = .ok (.isub, 1) := by decide +kernel
theorem dX4_unfoldsSome_36 : decode cX4_unfoldsSome 36 = .ok (.bipush 9, 2) := by decide +kernel
theorem dX4_unfoldsSome_38 : decode cX4_unfoldsSome 38 = .ok (.iastore, 1) := by decide +kernel
theorem dX4_unfoldsSome_39 : decode cX4_unfoldsSome 39 = .ok (.aload_n 0, 1) := by decide +kernel
theorem dX4_unfoldsSome_40 : decode cX4_unfoldsSome 40 = .ok (.getfield 64, 3) := by decide +kernel
theorem dX4_unfoldsSome_43 : decode cX4_unfoldsSome 43 = .ok (.aload_n 0, 1) := by decide +kernel
theorem dX4_unfoldsSome_44 : decode cX4_unfoldsSome 44 = .ok (.getfield 179, 3) := by decide +kernel
theorem dX4_unfoldsSome_47 : decode cX4_unfoldsSome 47 = .ok (.iconst 1, 1) := by decide +kernel
theorem dX4_unfoldsSome_48 : decode cX4_unfoldsSome 48 = .ok (.isub, 1) := by decide +kernel
theorem dX4_unfoldsSome_49 : decode cX4_unfoldsSome 49 = .ok (.iaload, 1) := by decide +kernel
theorem dX4_unfoldsSome_50 : decode cX4_unfoldsSome 50 = .ok (.istore_n 3, 1) := by decide +kernel
theorem dX4_unfoldsSome_51 : decode cX4_unfoldsSome 51 = .ok (.aload_n 0, 1) := by decide +kernel
theorem dX4_unfoldsSome_52 : decode cX4_unfoldsSome 52 = .ok (.getfield 67, 3) := by decide +kernel
theorem dX4_unfoldsSome_55 : decode cX4_unfoldsSome 55 = .ok (.aload_n 0, 1) := by decide +kernel
theorem dX4_unfoldsSome_56 : decode cX4_unfoldsSome 56 = .ok (.getfield 179, 3) := by decide +kernel
theorem dX4_unfoldsSome_59 : decode cX4_unfoldsSome 59 = .ok (.iconst 1, 1) := by decide +kernel
theorem dX4_unfoldsSome_60 : decode cX4_unfoldsSome 60 = .ok (.isub, 1) := by decide +kernel
theorem dX4_unfoldsSome_61 : decode cX4_unfoldsSome 61 = .ok (.iaload, 1) := by decide +kernel
theorem dX4_unfoldsSome_62 : decode cX4_unfoldsSome 62 = .ok (.istore 4, 2) := by decide +kernel
theorem dX4_unfoldsSome_64 : decode cX4_unfoldsSome 64 = .ok (.iload_n 1, 1) := by decide +kernel
theorem dX4_unfoldsSome_65 : decode cX4_unfoldsSome 65 = .ok (.ifCond .eq 11, 3) := by decide +kernel
theorem dX4_unfoldsSome_68 : decode cX4_unfoldsSome 68 = .ok (.aload_n 0, 1) := by decide +kernel
theorem dX4_unfoldsSome_69 : decode cX4_unfoldsSome 69 = .ok (.iload_n 3, 1) := by decide +kernel
theorem dX4_unfoldsSome_70 : decode cX4_unfoldsSome 70 = .ok (.invokevirtual 195, 3) := by decide +kernel
theorem dX4_unfoldsSome_73 : decode cX4_unfoldsSome 73 = .ok (.goto 4, 3) := by decide +kernel
theorem dX4_unfoldsSome_76 : decode cX4_unfoldsSome 76 = .ok (.iload_n 3, 1) := by decide +kernel
theorem dX4_unfoldsSome_77 : decode cX4_unfoldsSome 77 = .ok (.istore 5, 2) := by decide +kernel
theorem dX4_unfoldsSome_79 : decode cX4_unfoldsSome 79 = .ok (.aload_n 0, 1) := by decide +kernel
theorem dX4_unfoldsSome_80 : decode cX4_unfoldsSome 80 = .ok (.iload 5, 2) := by decide +kernel
theorem dX4_unfoldsSome_82 : decode cX4_unfoldsSome 82 = .ok (.iload_n 2, 1) := by decide +kernel
theorem dX4_unfoldsSome_83 : decode cX4_unfoldsSome 83 = .ok (.ifCond .eq 12, 3) := by decide +kernel
theorem dX4_unfoldsSome_86 : decode cX4_unfoldsSome 86 = .ok (.aload_n 0, 1) := by decide +kernel
theorem dX4_unfoldsSome_87 : decode cX4_unfoldsSome 87 = .ok (.iload 4, 2) := by decide +kernel
theorem dX4_unfoldsSome_89 : decode cX4_unfoldsSome 89 = .ok (.invokevirtual 195, 3) := by decide +kernel
theorem dX4_unfoldsSome_92 : decode cX4_unfoldsSome 92 = .ok (.goto 5, 3) := by decide +kernel
theorem dX4_unfoldsSome_95 : decode cX4_unfoldsSome 95 = .ok (.iload 4, 2) := by decide +kernel
theorem dX4_unfoldsSome_97 : decode cX4_unfoldsSome 97 = .ok (.invokevirtual 198, 3) := by decide +kernel
theorem dX4_unfoldsSome_100 : decode cX4_unfoldsSome 100 = .ok (.return_, 1) := by decide +kernel
theorem dX4_judgesNames_0 : decode cX4_judgesNames 0 = .ok (.aload_n 0, 1) := by decide +kernel
theorem dX4_judgesNames_1 : decode cX4_judgesNames 1 = .ok (.iload_n 1, 1) := by decide +kernel
theorem dX4_judgesNames_2 : decode cX4_judgesNames 2 = .ok (.invokevirtual 139, 3) := by decide +kernel
theorem dX4_judgesNames_5 : decode cX4_judgesNames 5 = .ok (.istore_n 3, 1) := by decide +kernel
theorem dX4_judgesNames_6 : decode cX4_judgesNames 6 = .ok (.aload_n 0, 1) := by decide +kernel
theorem dX4_judgesNames_7 : decode cX4_judgesNames 7 = .ok (.iload_n 2, 1) := by decide +kernel
theorem dX4_judgesNames_8 : decode cX4_judgesNames 8 = .ok (.invokevirtual 139, 3) := by decide +kernel
theorem dX4_judgesNames_11 : decode cX4_judgesNames 11 = .ok (.istore 4, 2) := by decide +kernel
theorem dX4_judgesNames_13 : decode cX4_judgesNames 13 = .ok (.iload_n 3, 1) := by decide +kernel
theorem dX4_judgesNames_14 : decode cX4_judgesNames 14 = .ok (.ifCond .ne 26, 3) := by decide +kernel
theorem dX4_judgesNames_17 : decode cX4_judgesNames 17 = .ok (.iload 4, 2) := by decide +kernel
theorem dX4_judgesNames_19 : decode cX4_judgesNames 19 = .ok (.ifCond .ne 21, 3) := by decide +kernel
theorem dX4_judgesNames_22 : decode cX4_judgesNames 22 = .ok (.aload_n 0, 1) := by decide +kernel
theorem dX4_judgesNames_23 : decode cX4_judgesNames 23 = .ok (.iload_n 1, 1) := by decide +kernel
theorem dX4_judgesNames_24 : decode cX4_judgesNames 24 = .ok (.putfield 202, 3) := by decide +kernel
theorem dX4_judgesNames_27 : decode cX4_judgesNames 27 = .ok (.aload_n 0, 1) := by decide +kernel
theorem dX4_judgesNames_28 : decode cX4_judgesNames 28 = .ok (.iload_n 2, 1) := by decide +kernel
theorem dX4_judgesNames_29 : decode cX4_judgesNames 29 = .ok (.putfield 205, 3) := by decide +kernel
theorem dX4_judgesNames_32 : decode cX4_judgesNames 32 = .ok (.aload_n 0, 1) := by decide +kernel
theorem dX4_judgesNames_33 : decode cX4_judgesNames 33 = .ok (.iconst 0, 1) := by decide +kernel
theorem dX4_judgesNames_34 : decode cX4_judgesNames 34 = .ok (.invokevirtual 208, 3) := by decide +kernel
theorem dX4_judgesNames_37 : decode cX4_judgesNames 37 = .ok (.goto 66, 3) := by decide +kernel
theorem dX4_judgesNames_40 : decode cX4_judgesNames 40 = .ok (.iload_n 3, 1) := by decide +kernel
theorem dX4_judgesNames_41 : decode cX4_judgesNames 41 = .ok (.ifCond .eq 55, 3) := by decide +kernel
theorem dX4_judgesNames_44 : decode cX4_judgesNames 44 = .ok (.iload 4, 2) := by decide +kernel
theorem dX4_judgesNames_46 : decode cX4_judgesNames 46 = .ok (.ifCond .eq 50, 3) := by decide +kernel
theorem dX4_judgesNames_49 : decode cX4_judgesNames 49 = .ok (.aload_n 0, 1) := by decide +kernel
theorem dX4_judgesNames_50 : decode cX4_judgesNames 50 = .ok (.aload_n 0, 1) := by decide +kernel
theorem dX4_judgesNames_51 : decode cX4_judgesNames 51 = .ok (.getfield 32, 3) := by decide +kernel
theorem dX4_judgesNames_54 : decode cX4_judgesNames 54 = .ok (.iload_n 1, 1) := by decide +kernel
theorem dX4_judgesNames_55 : decode cX4_judgesNames 55 = .ok (.iaload, 1) := by decide +kernel
theorem dX4_judgesNames_56 : decode cX4_judgesNames 56 = .ok (.aload_n 0, 1) := by decide +kernel
theorem dX4_judgesNames_57 : decode cX4_judgesNames 57 = .ok (.getfield 32, 3) := by decide +kernel
theorem dX4_judgesNames_60 : decode cX4_judgesNames 60 = .ok (.iload_n 2, 1) := by decide +kernel
theorem dX4_judgesNames_61 : decode cX4_judgesNames 61 = .ok (.iaload, 1) := by decide +kernel
theorem dX4_judgesNames_62 : decode cX4_judgesNames 62 = .ok (.if_icmp .lt 7, 3) := by decide +kernel
theorem dX4_judgesNames_65 : decode cX4_judgesNames 65 = .ok (.iconst 1, 1) := by decide +kernel
theorem dX4_judgesNames_66 : decode cX4_judgesNames 66 = .ok (.goto 4, 3) := by decide +kernel
theorem dX4_judgesNames_69 : decode cX4_judgesNames 69 = .ok (.iconst 0, 1) := by decide +kernel
theorem dX4_judgesNames_70 : decode cX4_judgesNames 70 = .ok (.aload_n 0, 1) := by decide +kernel
theorem dX4_judgesNames_71 : decode cX4_judgesNames 71 = .ok (.getfield 32, 3) := by decide +kernel
theorem dX4_judgesNames_74 : decode cX4_judgesNames 74 = .ok (.iload_n 2, 1) := by decide +kernel
theorem dX4_judgesNames_75 : decode cX4_judgesNames 75 = .ok (.iaload, 1) := by decide +kernel
theorem dX4_judgesNames_76 : decode cX4_judgesNames 76 = .ok (.aload_n 0, 1) := by decide +kernel
theorem dX4_judgesNames_77 : decode cX4_judgesNames 77 = .ok (.getfield 32, 3) := by decide +kernel
theorem dX4_judgesNames_80 : decode cX4_judgesNames 80 = .ok (.iload_n 1, 1) := by decide +kernel
theorem dX4_judgesNames_81 : decode cX4_judgesNames 81 = .ok (.iaload, 1) := by decide +kernel
theorem dX4_judgesNames_82 : decode cX4_judgesNames 82 = .ok (.if_icmp .lt 7, 3) := by decide +kernel
theorem dX4_judgesNames_85 : decode cX4_judgesNames 85 = .ok (.iconst 1, 1) := by decide +kernel
theorem dX4_judgesNames_86 : decode cX4_judgesNames 86 = .ok (.goto 4, 3) := by decide +kernel
theorem dX4_judgesNames_89 : decode cX4_judgesNames 89 = .ok (.iconst 0, 1) := by decide +kernel
theorem dX4_judgesNames_90 : decode cX4_judgesNames 90 = .ok (.invokevirtual 211, 3) := by decide +kernel
theorem dX4_judgesNames_93 : decode cX4_judgesNames 93 = .ok (.goto 10, 3) := by decide +kernel
theorem dX4_judgesNames_96 : decode cX4_judgesNames 96 = .ok (.aload_n 0, 1) := by decide +kernel
theorem dX4_judgesNames_97 : decode cX4_judgesNames 97 = .ok (.iload_n 3, 1) := by decide +kernel
theorem dX4_judgesNames_98 : decode cX4_judgesNames 98 = .ok (.iload 4, 2) := by decide +kernel
theorem dX4_judgesNames_100 : decode cX4_judgesNames 100 = .ok (.invokevirtual 211, 3) := by decide +kernel
theorem dX4_judgesNames_103 : decode cX4_judgesNames 103 = .ok (.return_, 1) := by decide +kernel
theorem dX4_goesToPart_0 : decode cX4_goesToPart 0 = .ok (.aload_n 0, 1) := by decide +kernel
theorem dX4_goesToPart_1 : decode cX4_goesToPart 1 = .ok (.getfield 179, 3) := by decide +kernel
theorem dX4_goesToPart_4 : decode cX4_goesToPart 4 = .ok (.iconst 1, 1) := by decide +kernel
theorem dX4_goesToPart_5 : decode cX4_goesToPart 5 = .ok (.isub, 1) := by decide +kernel
theorem dX4_goesToPart_6 : decode cX4_goesToPart 6 = .ok (.istore_n 2, 1) := by decide +kernel
theorem dX4_goesToPart_7 : decode cX4_goesToPart 7 = .ok (.aload_n 0, 1) := by decide +kernel
theorem dX4_goesToPart_8 : decode cX4_goesToPart 8 = .ok (.getfield 70, 3) := by decide +kernel
theorem dX4_goesToPart_11 : decode cX4_goesToPart 11 = .ok (.iload_n 2, 1) := by decide +kernel
theorem dX4_goesToPart_12 : decode cX4_goesToPart 12 = .ok (.iconst 1, 1) := by decide +kernel
theorem dX4_goesToPart_13 : decode cX4_goesToPart 13 = .ok (.iload_n 1, 1) := by decide +kernel
theorem dX4_goesToPart_14 : decode cX4_goesToPart 14 = .ok (.iadd, 1) := by decide +kernel
theorem dX4_goesToPart_15 : decode cX4_goesToPart 15 = .ok (.iastore, 1) := by decide +kernel
theorem dX4_goesToPart_16 : decode cX4_goesToPart 16 = .ok (.aload_n 0, 1) := by decide +kernel
theorem dX4_goesToPart_17 : decode cX4_goesToPart 17 = .ok (.aload_n 0, 1) := by decide +kernel
theorem dX4_goesToPart_18 : decode cX4_goesToPart 18 = .ok (.aload_n 0, 1) := by decide +kernel
theorem dX4_goesToPart_19 : decode cX4_goesToPart 19 = .ok (.getfield 64, 3) := by decide +kernel
theorem dX4_goesToPart_22 : decode cX4_goesToPart 22 = .ok (.iload_n 2, 1) := by decide +kernel
theorem dX4_goesToPart_23 : decode cX4_goesToPart 23 = .ok (.iaload, 1) := by decide +kernel
theorem dX4_goesToPart_24 : decode cX4_goesToPart 24 = .ok (.iload_n 1, 1) := by decide +kernel
theorem dX4_goesToPart_25 : decode cX4_goesToPart 25 = .ok (.invokevirtual 90, 3) := by decide +kernel
theorem dX4_goesToPart_28 : decode cX4_goesToPart 28 = .ok (.aload_n 0, 1) := by decide +kernel
theorem dX4_goesToPart_29 : decode cX4_goesToPart 29 = .ok (.aload_n 0, 1) := by decide +kernel
theorem dX4_goesToPart_30 : decode cX4_goesToPart 30 = .ok (.getfield 67, 3) := by decide +kernel
theorem dX4_goesToPart_33 : decode cX4_goesToPart 33 = .ok (.iload_n 2, 1) := by decide +kernel
theorem dX4_goesToPart_34 : decode cX4_goesToPart 34 = .ok (.iaload, 1) := by decide +kernel
theorem dX4_goesToPart_35 : decode cX4_goesToPart 35 = .ok (.iload_n 1, 1) := by decide +kernel
theorem dX4_goesToPart_36 : decode cX4_goesToPart 36 = .ok (.invokevirtual 90, 3) := by decide +kernel
theorem dX4_goesToPart_39 : decode cX4_goesToPart 39 = .ok (.invokevirtual 198, 3) := by decide +kernel
theorem dX4_goesToPart_42 : decode cX4_goesToPart 42 = .ok (.return_, 1) := by decide +kernel
theorem dX4_begins_0 : decode cX4_begins 0 = .ok (.aload_n 0, 1) := by decide +kernel
theorem dX4_begins_1 : decode cX4_begins 1 = .ok (.getfield 64, 3) := by decide +kernel
theorem dX4_begins_4 : decode cX4_begins 4 = .ok (.aload_n 0, 1) := by decide +kernel
theorem dX4_begins_5 : decode cX4_begins 5 = .ok (.getfield 179, 3) := by decide +kernel
theorem dX4_begins_8 : decode cX4_begins 8 = .ok (.iconst 1, 1) := by decide +kernel
theorem dX4_begins_9 : decode cX4_begins 9 = .ok (.isub, 1) := by decide +kernel
theorem dX4_begins_10 : decode cX4_begins 10 = .ok (.iaload, 1) := by decide +kernel
theorem dX4_begins_11 : decode cX4_begins 11 = .ok (.istore_n 1, 1) := by decide +kernel
theorem dX4_begins_12 : decode cX4_begins 12 = .ok (.aload_n 0, 1) := by decide +kernel
theorem dX4_begins_13 : decode cX4_begins 13 = .ok (.getfield 67, 3) := by decide +kernel
theorem dX4_begins_16 : decode cX4_begins 16 = .ok (.aload_n 0, 1) := by decide +kernel
theorem dX4_begins_17 : decode cX4_begins 17 = .ok (.getfield 179, 3) := by decide +kernel
theorem dX4_begins_20 : decode cX4_begins 20 = .ok (.iconst 1, 1) := by decide +kernel
theorem dX4_begins_21 : decode cX4_begins 21 = .ok (.isub, 1) := by decide +kernel
theorem dX4_begins_22 : decode cX4_begins 22 = .ok (.iaload, 1) := by decide +kernel
theorem dX4_begins_23 : decode cX4_begins 23 = .ok (.istore_n 2, 1) := by decide +kernel
theorem dX4_begins_24 : decode cX4_begins 24 = .ok (.aload_n 0, 1) := by decide +kernel
theorem dX4_begins_25 : decode cX4_begins 25 = .ok (.getfield 58, 3) := by decide +kernel
theorem dX4_begins_28 : decode cX4_begins 28 = .ok (.sipush 740, 3) := by decide +kernel
theorem dX4_begins_31 : decode cX4_begins 31 = .ok (.iload_n 1, 1) := by decide +kernel
theorem dX4_begins_32 : decode cX4_begins 32 = .ok (.imul, 1) := by decide +kernel
theorem dX4_begins_33 : decode cX4_begins 33 = .ok (.iload_n 2, 1) := by decide +kernel
theorem dX4_begins_34 : decode cX4_begins 34 = .ok (.iadd, 1) := by decide +kernel
theorem dX4_begins_35 : decode cX4_begins 35 = .ok (.iaload, 1) := by decide +kernel
theorem dX4_begins_36 : decode cX4_begins 36 = .ok (.istore_n 3, 1) := by decide +kernel
theorem dX4_begins_37 : decode cX4_begins 37 = .ok (.aload_n 0, 1) := by decide +kernel
theorem dX4_begins_38 : decode cX4_begins 38 = .ok (.getfield 175, 3) := by decide +kernel
theorem dX4_begins_41 : decode cX4_begins 41 = .ok (.ifCond .ne 8, 3) := by decide +kernel
theorem dX4_begins_44 : decode cX4_begins 44 = .ok (.iload_n 1, 1) := by decide +kernel
theorem dX4_begins_45 : decode cX4_begins 45 = .ok (.iload_n 2, 1) := by decide +kernel
theorem dX4_begins_46 : decode cX4_begins 46 = .ok (.if_icmp .ne 22, 3) := by decide +kernel
theorem dX4_begins_49 : decode cX4_begins 49 = .ok (.aload_n 0, 1) := by decide +kernel
theorem dX4_begins_50 : decode cX4_begins 50 = .ok (.aload_n 0, 1) := by decide +kernel
theorem dX4_begins_51 : decode cX4_begins 51 = .ok (.getfield 175, 3) := by decide +kernel
theorem dX4_begins_54 : decode cX4_begins 54 = .ok (.ifCond .ne 7, 3) := by decide +kernel
theorem dX4_begins_57 : decode cX4_begins 57 = .ok (.iconst 1, 1) := by decide +kernel
theorem dX4_begins_58 : decode cX4_begins 58 = .ok (.goto 4, 3) := by decide +kernel
theorem dX4_begins_61 : decode cX4_begins 61 = .ok (.iconst 0, 1) := by decide +kernel
theorem dX4_begins_62 : decode cX4_begins 62 = .ok (.invokevirtual 191, 3) := by decide +kernel
theorem dX4_begins_65 : decode cX4_begins 65 = .ok (.goto 81, 3) := by decide +kernel
theorem dX4_begins_68 : decode cX4_begins 68 = .ok (.iload_n 3, 1) := by decide +kernel
theorem dX4_begins_69 : decode cX4_begins 69 = .ok (.iconst 2, 1) := by decide +kernel
theorem dX4_begins_70 : decode cX4_begins 70 = .ok (.idiv, 1) := by decide +kernel
theorem dX4_begins_71 : decode cX4_begins 71 = .ok (.aload_n 0, 1) := by decide +kernel
theorem dX4_begins_72 : decode cX4_begins 72 = .ok (.getfield 182, 3) := by decide +kernel
theorem dX4_begins_75 : decode cX4_begins 75 = .ok (.if_icmp .ne 22, 3) := by decide +kernel
theorem dX4_begins_78 : decode cX4_begins 78 = .ok (.aload_n 0, 1) := by decide +kernel
theorem dX4_begins_79 : decode cX4_begins 79 = .ok (.iload_n 3, 1) := by decide +kernel
theorem dX4_begins_80 : decode cX4_begins 80 = .ok (.iconst 2, 1) := by decide +kernel
theorem dX4_begins_81 : decode cX4_begins 81 = .ok (.irem, 1) := by decide +kernel
theorem dX4_begins_82 : decode cX4_begins 82 = .ok (.iconst 1, 1) := by decide +kernel
theorem dX4_begins_83 : decode cX4_begins 83 = .ok (.if_icmp .ne 7, 3) := by decide +kernel
theorem dX4_begins_86 : decode cX4_begins 86 = .ok (.iconst 1, 1) := by decide +kernel
theorem dX4_begins_87 : decode cX4_begins 87 = .ok (.goto 4, 3) := by decide +kernel
theorem dX4_begins_90 : decode cX4_begins 90 = .ok (.iconst 0, 1) := by decide +kernel
theorem dX4_begins_91 : decode cX4_begins 91 = .ok (.invokevirtual 191, 3) := by decide +kernel
theorem dX4_begins_94 : decode cX4_begins 94 = .ok (.goto 52, 3) := by decide +kernel
theorem dX4_begins_97 : decode cX4_begins 97 = .ok (.aload_n 0, 1) := by decide +kernel
theorem dX4_begins_98 : decode cX4_begins 98 = .ok (.dup, 1) := by decide +kernel
theorem dX4_begins_99 : decode cX4_begins 99 = .ok (.getfield 215, 3) := by decide +kernel
theorem dX4_begins_102 : decode cX4_begins 102 = .ok (.iconst 1, 1) := by decide +kernel
theorem dX4_begins_103 : decode cX4_begins 103 = .ok (.iadd, 1) := by decide +kernel
theorem dX4_begins_104 : decode cX4_begins 104 = .ok (.putfield 215, 3) := by decide +kernel
theorem dX4_begins_107 : decode cX4_begins 107 = .ok (.aload_n 0, 1) := by decide +kernel
theorem dX4_begins_108 : decode cX4_begins 108 = .ok (.getfield 20, 3) := by decide +kernel
theorem dX4_begins_111 : decode cX4_begins 111 = .ok (.iload_n 1, 1) := by decide +kernel
theorem dX4_begins_112 : decode cX4_begins 112 = .ok (.iaload, 1) := by decide +kernel
theorem dX4_begins_113 : decode cX4_begins 113 = .ok (.aload_n 0, 1) := by decide +kernel
theorem dX4_begins_114 : decode cX4_begins 114 = .ok (.getfield 20, 3) := by decide +kernel
theorem dX4_begins_117 : decode cX4_begins 117 = .ok (.iload_n 2, 1) := by decide +kernel
theorem dX4_begins_118 : decode cX4_begins 118 = .ok (.iaload, 1) := by decide +kernel
theorem dX4_begins_119 : decode cX4_begins 119 = .ok (.if_icmp .ne 11, 3) := by decide +kernel
theorem dX4_begins_122 : decode cX4_begins 122 = .ok (.aload_n 0, 1) := by decide +kernel
theorem dX4_begins_123 : decode cX4_begins 123 = .ok (.iconst 0, 1) := by decide +kernel
theorem dX4_begins_124 : decode cX4_begins 124 = .ok (.invokevirtual 218, 3) := by decide +kernel
theorem dX4_begins_127 : decode cX4_begins 127 = .ok (.goto 19, 3) := by decide +kernel
theorem dX4_begins_130 : decode cX4_begins 130 = .ok (.aload_n 0, 1) := by decide +kernel
theorem dX4_begins_131 : decode cX4_begins 131 = .ok (.aload_n 0, 1) := by decide +kernel
theorem dX4_begins_132 : decode cX4_begins 132 = .ok (.getfield 20, 3) := by decide +kernel
theorem dX4_begins_135 : decode cX4_begins 135 = .ok (.iload_n 1, 1) := by decide +kernel
theorem dX4_begins_136 : decode cX4_begins 136 = .ok (.iaload, 1) := by decide +kernel
theorem dX4_begins_137 : decode cX4_begins 137 = .ok (.aload_n 0, 1) := by decide +kernel
theorem dX4_begins_138 : decode cX4_begins 138 = .ok (.getfield 20, 3) := by decide +kernel
theorem dX4_begins_141 : decode cX4_begins 141 = .ok (.iload_n 2, 1) := by decide +kernel
theorem dX4_begins_142 : decode cX4_begins 142 = .ok (.iaload, 1) := by decide +kernel
theorem dX4_begins_143 : decode cX4_begins 143 = .ok (.invokevirtual 221, 3) := by decide +kernel
theorem dX4_begins_146 : decode cX4_begins 146 = .ok (.return_, 1) := by decide +kernel
theorem dX4_goesOn_0 : decode cX4_goesOn 0 = .ok (.aload_n 0, 1) := by decide +kernel
theorem dX4_goesOn_1 : decode cX4_goesOn 1 = .ok (.getfield 179, 3) := by decide +kernel
theorem dX4_goesOn_4 : decode cX4_goesOn 4 = .ok (.iconst 1, 1) := by decide +kernel
theorem dX4_goesOn_5 : decode cX4_goesOn 5 = .ok (.isub, 1) := by decide +kernel
theorem dX4_goesOn_6 : decode cX4_goesOn 6 = .ok (.istore_n 1, 1) := by decide +kernel
theorem dX4_goesOn_7 : decode cX4_goesOn 7 = .ok (.aload_n 0, 1) := by decide +kernel
theorem dX4_goesOn_8 : decode cX4_goesOn 8 = .ok (.getfield 64, 3) := by decide +kernel
theorem dX4_goesOn_11 : decode cX4_goesOn 11 = .ok (.iload_n 1, 1) := by decide +kernel
theorem dX4_goesOn_12 : decode cX4_goesOn 12 = .ok (.iaload, 1) := by decide +kernel
theorem dX4_goesOn_13 : decode cX4_goesOn 13 = .ok (.istore_n 2, 1) := by decide +kernel
theorem dX4_goesOn_14 : decode cX4_goesOn 14 = .ok (.aload_n 0, 1) := by decide +kernel
theorem dX4_goesOn_15 : decode cX4_goesOn 15 = .ok (.getfield 175, 3) := by decide +kernel
theorem dX4_goesOn_18 : decode cX4_goesOn 18 = .ok (.ifCond .eq 11, 3) := by decide +kernel
theorem dX4_goesOn_21 : decode cX4_goesOn 21 = .ok (.aload_n 0, 1) := by decide +kernel
theorem dX4_goesOn_22 : decode cX4_goesOn 22 = .ok (.iconst 0, 1) := by decide +kernel
theorem dX4_goesOn_23 : decode cX4_goesOn 23 = .ok (.invokevirtual 191, 3) := by decide +kernel
theorem dX4_goesOn_26 : decode cX4_goesOn 26 = .ok (.goto 74, 3) := by decide +kernel
theorem dX4_goesOn_29 : decode cX4_goesOn 29 = .ok (.aload_n 0, 1) := by decide +kernel
theorem dX4_goesOn_30 : decode cX4_goesOn 30 = .ok (.getfield 185, 3) := by decide +kernel
theorem dX4_goesOn_33 : decode cX4_goesOn 33 = .ok (.ifCond .eq 30, 3) := by decide +kernel
theorem dX4_goesOn_36 : decode cX4_goesOn 36 = .ok (.aload_n 0, 1) := by decide +kernel
theorem dX4_goesOn_37 : decode cX4_goesOn 37 = .ok (.getfield 70, 3) := by decide +kernel
theorem dX4_goesOn_40 : decode cX4_goesOn 40 = .ok (.iload_n 1, 1) := by decide +kernel
theorem dX4_goesOn_41 : decode cX4_goesOn 41 = .ok (.iaload, 1) := by decide +kernel
theorem dX4_goesOn_42 : decode cX4_goesOn 42 = .ok (.aload_n 0, 1) := by decide +kernel
theorem dX4_goesOn_43 : decode cX4_goesOn 43 = .ok (.iload_n 2, 1) := by decide +kernel
theorem dX4_goesOn_44 : decode cX4_goesOn 44 = .ok (.invokevirtual 117, 3) := by decide +kernel
theorem dX4_goesOn_47 : decode cX4_goesOn 47 = .ok (.if_icmp .ge 16, 3) := by decide +kernel
theorem dX4_goesOn_50 : decode cX4_goesOn 50 = .ok (.aload_n 0, 1) := by decide +kernel
theorem dX4_goesOn_51 : decode cX4_goesOn 51 = .ok (.aload_n 0, 1) := by decide +kernel
theorem dX4_goesOn_52 : decode cX4_goesOn 52 = .ok (.getfield 70, 3) := by decide +kernel
theorem dX4_goesOn_55 : decode cX4_goesOn 55 = .ok (.iload_n 1, 1) := by decide +kernel
theorem dX4_goesOn_56 : decode cX4_goesOn 56 = .ok (.iaload, 1) := by decide +kernel
theorem dX4_goesOn_57 : decode cX4_goesOn 57 = .ok (.invokevirtual 218, 3) := by decide +kernel
theorem dX4_goesOn_60 : decode cX4_goesOn 60 = .ok (.goto 40, 3) := by decide +kernel
theorem dX4_goesOn_63 : decode cX4_goesOn 63 = .ok (.aload_n 0, 1) := by decide +kernel
theorem dX4_goesOn_64 : decode cX4_goesOn 64 = .ok (.getfield 185, 3) := by decide +kernel
theorem dX4_goesOn_67 : decode cX4_goesOn 67 = .ok (.ifCond .ne 16, 3) := by decide +kernel
theorem dX4_goesOn_70 : decode cX4_goesOn 70 = .ok (.aload_n 0, 1) := by decide +kernel
theorem dX4_goesOn_71 : decode cX4_goesOn 71 = .ok (.aload_n 0, 1) := by decide +kernel
theorem dX4_goesOn_72 : decode cX4_goesOn 72 = .ok (.getfield 20, 3) := by decide +kernel
theorem dX4_goesOn_75 : decode cX4_goesOn 75 = .ok (.iload_n 2, 1) := by decide +kernel
theorem dX4_goesOn_76 : decode cX4_goesOn 76 = .ok (.iaload, 1) := by decide +kernel
theorem dX4_goesOn_77 : decode cX4_goesOn 77 = .ok (.invokevirtual 139, 3) := by decide +kernel
theorem dX4_goesOn_80 : decode cX4_goesOn 80 = .ok (.ifCond .ne 14, 3) := by decide +kernel
theorem dX4_goesOn_83 : decode cX4_goesOn 83 = .ok (.aload_n 0, 1) := by decide +kernel
theorem dX4_goesOn_84 : decode cX4_goesOn 84 = .ok (.aload_n 0, 1) := by decide +kernel
theorem dX4_goesOn_85 : decode cX4_goesOn 85 = .ok (.getfield 185, 3) := by decide +kernel
theorem dX4_goesOn_88 : decode cX4_goesOn 88 = .ok (.invokevirtual 208, 3) := by decide +kernel
theorem dX4_goesOn_91 : decode cX4_goesOn 91 = .ok (.goto 9, 3) := by decide +kernel
theorem dX4_goesOn_94 : decode cX4_goesOn 94 = .ok (.aload_n 0, 1) := by decide +kernel
theorem dX4_goesOn_95 : decode cX4_goesOn 95 = .ok (.iconst 1, 1) := by decide +kernel
theorem dX4_goesOn_96 : decode cX4_goesOn 96 = .ok (.iconst 1, 1) := by decide +kernel
theorem dX4_goesOn_97 : decode cX4_goesOn 97 = .ok (.invokevirtual 211, 3) := by decide +kernel
theorem dX4_goesOn_100 : decode cX4_goesOn 100 = .ok (.return_, 1) := by decide +kernel
theorem dX4_judges_0 : decode cX4_judges 0 = .ok (.aload_n 0, 1) := by decide +kernel
theorem dX4_judges_1 : decode cX4_judges 1 = .ok (.iconst 0, 1) := by decide +kernel
theorem dX4_judges_2 : decode cX4_judges 2 = .ok (.putfield 179, 3) := by decide +kernel
theorem dX4_judges_5 : decode cX4_judges 5 = .ok (.aload_n 0, 1) := by decide +kernel
theorem dX4_judges_6 : decode cX4_judges 6 = .ok (.iload_n 1, 1) := by decide +kernel
theorem dX4_judges_7 : decode cX4_judges 7 = .ok (.iload_n 2, 1) := by decide +kernel
theorem dX4_judges_8 : decode cX4_judges 8 = .ok (.invokevirtual 198, 3) := by decide +kernel
theorem dX4_judges_11 : decode cX4_judges 11 = .ok (.aload_n 0, 1) := by decide +kernel
theorem dX4_judges_12 : decode cX4_judges 12 = .ok (.getfield 179, 3) := by decide +kernel
theorem dX4_judges_15 : decode cX4_judges 15 = .ok (.ifCond .le 50, 3) := by decide +kernel
theorem dX4_judges_18 : decode cX4_judges 18 = .ok (.aload_n 0, 1) := by decide +kernel
theorem dX4_judges_19 : decode cX4_judges 19 = .ok (.getfield 70, 3) := by decide +kernel
theorem dX4_judges_22 : decode cX4_judges 22 = .ok (.aload_n 0, 1) := by decide +kernel
theorem dX4_judges_23 : decode cX4_judges 23 = .ok (.getfield 179, 3) := by decide +kernel
theorem dX4_judges_26 : decode cX4_judges 26 = .ok (.iconst 1, 1) := by decide +kernel
theorem dX4_judges_27 : decode cX4_judges 27 = .ok (.isub, 1) := by decide +kernel
theorem dX4_judges_28 : decode cX4_judges 28 = .ok (.iaload, 1) := by decide +kernel
theorem dX4_judges_29 : decode cX4_judges 29 = .ok (.istore_n 3, 1) := by decide +kernel
theorem dX4_judges_30 : decode cX4_judges 30 = .ok (.iload_n 3, 1) := by decide +kernel
theorem dX4_judges_31 : decode cX4_judges 31 = .ok (.ifCond .ne 10, 3) := by decide +kernel
theorem dX4_judges_34 : decode cX4_judges 34 = .ok (.aload_n 0, 1) := by decide +kernel
theorem dX4_judges_35 : decode cX4_judges 35 = .ok (.invokevirtual 224, 3) := by decide +kernel
theorem dX4_judges_38 : decode cX4_judges 38 = .ok (.goto 24, 3) := by decide +kernel
theorem dX4_judges_41 : decode cX4_judges 41 = .ok (.iload_n 3, 1) := by decide +kernel
theorem dX4_judges_42 : decode cX4_judges 42 = .ok (.bipush 9, 2) := by decide +kernel
theorem dX4_judges_44 : decode cX4_judges 44 = .ok (.if_icmp .ge 10, 3) := by decide +kernel
theorem dX4_judges_47 : decode cX4_judges 47 = .ok (.aload_n 0, 1) := by decide +kernel
theorem dX4_judges_48 : decode cX4_judges 48 = .ok (.invokevirtual 227, 3) := by decide +kernel
theorem dX4_judges_51 : decode cX4_judges 51 = .ok (.goto 11, 3) := by decide +kernel
theorem dX4_judges_54 : decode cX4_judges 54 = .ok (.aload_n 0, 1) := by decide +kernel
theorem dX4_judges_55 : decode cX4_judges 55 = .ok (.aload_n 0, 1) := by decide +kernel
theorem dX4_judges_56 : decode cX4_judges 56 = .ok (.getfield 185, 3) := by decide +kernel
theorem dX4_judges_59 : decode cX4_judges 59 = .ok (.invokevirtual 208, 3) := by decide +kernel
theorem dX4_judges_62 : decode cX4_judges 62 = .ok (.goto (-51), 3) := by decide +kernel
theorem dX4_judges_65 : decode cX4_judges 65 = .ok (.aload_n 0, 1) := by decide +kernel
theorem dX4_judges_66 : decode cX4_judges 66 = .ok (.getfield 185, 3) := by decide +kernel
theorem dX4_judges_69 : decode cX4_judges 69 = .ok (.ireturn, 1) := by decide +kernel
theorem dX4_check_0 : decode cX4_check 0 = .ok (.aload_n 0, 1) := by decide +kernel
theorem dX4_check_1 : decode cX4_check 1 = .ok (.iload_n 1, 1) := by decide +kernel
theorem dX4_check_2 : decode cX4_check 2 = .ok (.invokevirtual 111, 3) := by decide +kernel
theorem dX4_check_5 : decode cX4_check 5 = .ok (.ifCond .eq 11, 3) := by decide +kernel
theorem dX4_check_8 : decode cX4_check 8 = .ok (.aload_n 0, 1) := by decide +kernel
theorem dX4_check_9 : decode cX4_check 9 = .ok (.iload_n 2, 1) := by decide +kernel
theorem dX4_check_10 : decode cX4_check 10 = .ok (.invokevirtual 111, 3) := by decide +kernel
theorem dX4_check_13 : decode cX4_check 13 = .ok (.ifCond .ne 5, 3) := by decide +kernel
theorem dX4_check_16 : decode cX4_check 16 = .ok (.iconst (-1), 1) := by decide +kernel
theorem dX4_check_17 : decode cX4_check 17 = .ok (.ireturn, 1) := by decide +kernel
theorem dX4_check_18 : decode cX4_check 18 = .ok (.aload_n 0, 1) := by decide +kernel
theorem dX4_check_19 : decode cX4_check 19 = .ok (.iload_n 1, 1) := by decide +kernel
theorem dX4_check_20 : decode cX4_check 20 = .ok (.invokevirtual 154, 3) := by decide +kernel
theorem dX4_check_23 : decode cX4_check 23 = .ok (.ifCond .eq 11, 3) := by decide +kernel
theorem dX4_check_26 : decode cX4_check 26 = .ok (.aload_n 0, 1) := by decide +kernel
theorem dX4_check_27 : decode cX4_check 27 = .ok (.iload_n 2, 1) := by decide +kernel
theorem dX4_check_28 : decode cX4_check 28 = .ok (.invokevirtual 154, 3) := by decide +kernel
theorem dX4_check_31 : decode cX4_check 31 = .ok (.ifCond .ne 6, 3) := by decide +kernel
theorem dX4_check_34 : decode cX4_check 34 = .ok (.bipush (-3), 2) := by decide +kernel
theorem dX4_check_36 : decode cX4_check 36 = .ok (.ireturn, 1) := by decide +kernel
theorem dX4_check_37 : decode cX4_check 37 = .ok (.aload_n 0, 1) := by decide +kernel
theorem dX4_check_38 : decode cX4_check 38 = .ok (.invokevirtual 151, 3) := by decide +kernel
theorem dX4_check_41 : decode cX4_check 41 = .ok (.aload_n 0, 1) := by decide +kernel
theorem dX4_check_42 : decode cX4_check 42 = .ok (.iconst 0, 1) := by decide +kernel
theorem dX4_check_43 : decode cX4_check 43 = .ok (.putfield 169, 3) := by decide +kernel
theorem dX4_check_46 : decode cX4_check 46 = .ok (.aload_n 0, 1) := by decide +kernel
theorem dX4_check_47 : decode cX4_check 47 = .ok (.iconst 0, 1) := by decide +kernel
theorem dX4_check_48 : decode cX4_check 48 = .ok (.putfield 215, 3) := by decide +kernel
theorem dX4_check_51 : decode cX4_check 51 = .ok (.aload_n 0, 1) := by decide +kernel
theorem dX4_check_52 : decode cX4_check 52 = .ok (.bipush (-9), 2) := by decide +kernel
theorem dX4_check_54 : decode cX4_check 54 = .ok (.putfield 202, 3) := by decide +kernel
theorem dX4_check_57 : decode cX4_check 57 = .ok (.aload_n 0, 1) := by decide +kernel
theorem dX4_check_58 : decode cX4_check 58 = .ok (.bipush (-9), 2) := by decide +kernel
theorem dX4_check_60 : decode cX4_check 60 = .ok (.putfield 205, 3) := by decide +kernel
theorem dX4_check_63 : decode cX4_check 63 = .ok (.aload_n 0, 1) := by decide +kernel
theorem dX4_check_64 : decode cX4_check 64 = .ok (.iconst 0, 1) := by decide +kernel
theorem dX4_check_65 : decode cX4_check 65 = .ok (.putfield 175, 3) := by decide +kernel
theorem dX4_check_68 : decode cX4_check 68 = .ok (.aload_n 0, 1) := by decide +kernel
theorem dX4_check_69 : decode cX4_check 69 = .ok (.dup, 1) := by decide +kernel
theorem dX4_check_70 : decode cX4_check 70 = .ok (.getfield 182, 3) := by decide +kernel
theorem dX4_check_73 : decode cX4_check 73 = .ok (.iconst 1, 1) := by decide +kernel
theorem dX4_check_74 : decode cX4_check 74 = .ok (.iadd, 1) := by decide +kernel
theorem dX4_check_75 : decode cX4_check 75 = .ok (.putfield 182, 3) := by decide +kernel
theorem dX4_check_78 : decode cX4_check 78 = .ok (.aload_n 0, 1) := by decide +kernel
theorem dX4_check_79 : decode cX4_check 79 = .ok (.iload_n 1, 1) := by decide +kernel
theorem dX4_check_80 : decode cX4_check 80 = .ok (.iload_n 2, 1) := by decide +kernel
theorem dX4_check_81 : decode cX4_check 81 = .ok (.invokevirtual 230, 3) := by decide +kernel
theorem dX4_check_84 : decode cX4_check 84 = .ok (.istore_n 3, 1) := by decide +kernel
theorem dX4_check_85 : decode cX4_check 85 = .ok (.aload_n 0, 1) := by decide +kernel
theorem dX4_check_86 : decode cX4_check 86 = .ok (.aload_n 0, 1) := by decide +kernel
theorem dX4_check_87 : decode cX4_check 87 = .ok (.getfield 84, 3) := by decide +kernel
theorem dX4_check_90 : decode cX4_check 90 = .ok (.putfield 87, 3) := by decide +kernel
theorem dX4_check_93 : decode cX4_check 93 = .ok (.aload_n 0, 1) := by decide +kernel
theorem dX4_check_94 : decode cX4_check 94 = .ok (.getfield 175, 3) := by decide +kernel
theorem dX4_check_97 : decode cX4_check 97 = .ok (.ifCond .eq 6, 3) := by decide +kernel
theorem dX4_check_100 : decode cX4_check 100 = .ok (.bipush (-6), 2) := by decide +kernel
theorem dX4_check_102 : decode cX4_check 102 = .ok (.ireturn, 1) := by decide +kernel
theorem dX4_check_103 : decode cX4_check 103 = .ok (.aload_n 0, 1) := by decide +kernel
theorem dX4_check_104 : decode cX4_check 104 = .ok (.getfield 73, 3) := by decide +kernel
theorem dX4_check_107 : decode cX4_check 107 = .ok (.iconst 0, 1) := by decide +kernel
theorem dX4_check_108 : decode cX4_check 108 = .ok (.aload_n 0, 1) := by decide +kernel
theorem dX4_check_109 : decode cX4_check 109 = .ok (.getfield 169, 3) := by decide +kernel
theorem dX4_check_112 : decode cX4_check 112 = .ok (.iastore, 1) := by decide +kernel
theorem dX4_check_113 : decode cX4_check 113 = .ok (.aload_n 0, 1) := by decide +kernel
theorem dX4_check_114 : decode cX4_check 114 = .ok (.getfield 73, 3) := by decide +kernel
theorem dX4_check_117 : decode cX4_check 117 = .ok (.iconst 1, 1) := by decide +kernel
theorem dX4_check_118 : decode cX4_check 118 = .ok (.aload_n 0, 1) := by decide +kernel
theorem dX4_check_119 : decode cX4_check 119 = .ok (.getfield 215, 3) := by decide +kernel
theorem dX4_check_122 : decode cX4_check 122 = .ok (.iastore, 1) := by decide +kernel
theorem dX4_check_123 : decode cX4_check 123 = .ok (.aload_n 0, 1) := by decide +kernel
theorem dX4_check_124 : decode cX4_check 124 = .ok (.getfield 73, 3) := by decide +kernel
theorem dX4_check_127 : decode cX4_check 127 = .ok (.iconst 2, 1) := by decide +kernel
theorem dX4_check_128 : decode cX4_check 128 = .ok (.iload_n 3, 1) := by decide +kernel
theorem dX4_check_129 : decode cX4_check 129 = .ok (.ifCond .eq 8, 3) := by decide +kernel
theorem dX4_check_132 : decode cX4_check 132 = .ok (.bipush (-9), 2) := by decide +kernel
theorem dX4_check_134 : decode cX4_check 134 = .ok (.goto 7, 3) := by decide +kernel
theorem dX4_check_137 : decode cX4_check 137 = .ok (.aload_n 0, 1) := by decide +kernel
theorem dX4_check_138 : decode cX4_check 138 = .ok (.getfield 202, 3) := by decide +kernel
theorem dX4_check_141 : decode cX4_check 141 = .ok (.iastore, 1) := by decide +kernel
theorem dX4_check_142 : decode cX4_check 142 = .ok (.aload_n 0, 1) := by decide +kernel
theorem dX4_check_143 : decode cX4_check 143 = .ok (.getfield 73, 3) := by decide +kernel
theorem dX4_check_146 : decode cX4_check 146 = .ok (.iconst 3, 1) := by decide +kernel
theorem dX4_check_147 : decode cX4_check 147 = .ok (.iload_n 3, 1) := by decide +kernel
theorem dX4_check_148 : decode cX4_check 148 = .ok (.ifCond .eq 8, 3) := by decide +kernel
theorem dX4_check_151 : decode cX4_check 151 = .ok (.bipush (-9), 2) := by decide +kernel
theorem dX4_check_153 : decode cX4_check 153 = .ok (.goto 7, 3) := by decide +kernel
theorem dX4_check_156 : decode cX4_check 156 = .ok (.aload_n 0, 1) := by decide +kernel
theorem dX4_check_157 : decode cX4_check 157 = .ok (.getfield 205, 3) := by decide +kernel
theorem dX4_check_160 : decode cX4_check 160 = .ok (.iastore, 1) := by decide +kernel
theorem dX4_check_161 : decode cX4_check 161 = .ok (.aload_n 0, 1) := by decide +kernel
theorem dX4_check_162 : decode cX4_check 162 = .ok (.getfield 73, 3) := by decide +kernel
theorem dX4_check_165 : decode cX4_check 165 = .ok (.iconst 4, 1) := by decide +kernel
theorem dX4_check_166 : decode cX4_check 166 = .ok (.iload_n 3, 1) := by decide +kernel
theorem dX4_check_167 : decode cX4_check 167 = .ok (.ifCond .eq 7, 3) := by decide +kernel
theorem dX4_check_170 : decode cX4_check 170 = .ok (.iconst 1, 1) := by decide +kernel
theorem dX4_check_171 : decode cX4_check 171 = .ok (.goto 4, 3) := by decide +kernel
theorem dX4_check_174 : decode cX4_check 174 = .ok (.iconst 0, 1) := by decide +kernel
theorem dX4_check_175 : decode cX4_check 175 = .ok (.iastore, 1) := by decide +kernel
theorem dX4_check_176 : decode cX4_check 176 = .ok (.aload_n 0, 1) := by decide +kernel
theorem dX4_check_177 : decode cX4_check 177 = .ok (.iconst 1, 1) := by decide +kernel
theorem dX4_check_178 : decode cX4_check 178 = .ok (.putfield 233, 3) := by decide +kernel
theorem dX4_check_181 : decode cX4_check 181 = .ok (.aload_n 0, 1) := by decide +kernel
theorem dX4_check_182 : decode cX4_check 182 = .ok (.getfield 73, 3) := by decide +kernel
theorem dX4_check_185 : decode cX4_check 185 = .ok (.iconst 4, 1) := by decide +kernel
theorem dX4_check_186 : decode cX4_check 186 = .ok (.iaload, 1) := by decide +kernel
theorem dX4_check_187 : decode cX4_check 187 = .ok (.ireturn, 1) := by decide +kernel
theorem dX4_checked_0 : decode cX4_checked 0 = .ok (.iload_n 1, 1) := by decide +kernel
theorem dX4_checked_1 : decode cX4_checked 1 = .ok (.iconst 0, 1) := by decide +kernel
theorem dX4_checked_2 : decode cX4_checked 2 = .ok (.iconst 4, 1) := by decide +kernel
theorem dX4_checked_3 : decode cX4_checked 3 = .ok (.invokestatic 80, 3) := by decide +kernel
theorem dX4_checked_6 : decode cX4_checked 6 = .ok (.ifCond .ne 6, 3) := by decide +kernel
theorem dX4_checked_9 : decode cX4_checked 9 = .ok (.bipush (-2), 2) := by decide +kernel
theorem dX4_checked_11 : decode cX4_checked 11 = .ok (.ireturn, 1) := by decide +kernel
theorem dX4_checked_12 : decode cX4_checked 12 = .ok (.aload_n 0, 1) := by decide +kernel
theorem dX4_checked_13 : decode cX4_checked 13 = .ok (.getfield 233, 3) := by decide +kernel
theorem dX4_checked_16 : decode cX4_checked 16 = .ok (.ifCond .eq 12, 3) := by decide +kernel
theorem dX4_checked_19 : decode cX4_checked 19 = .ok (.aload_n 0, 1) := by decide +kernel
theorem dX4_checked_20 : decode cX4_checked 20 = .ok (.getfield 73, 3) := by decide +kernel
theorem dX4_checked_23 : decode cX4_checked 23 = .ok (.iload_n 1, 1) := by decide +kernel
theorem dX4_checked_24 : decode cX4_checked 24 = .ok (.iaload, 1) := by decide +kernel
theorem dX4_checked_25 : decode cX4_checked 25 = .ok (.goto 5, 3) := by decide +kernel
theorem dX4_checked_28 : decode cX4_checked 28 = .ok (.bipush (-3), 2) := by decide +kernel
theorem dX4_checked_30 : decode cX4_checked 30 = .ok (.ireturn, 1) := by decide +kernel
theorem dX4_manyNames_0 : decode cX4_manyNames 0 = .ok (.iconst 0, 1) := by decide +kernel
theorem dX4_manyNames_1 : decode cX4_manyNames 1 = .ok (.istore_n 2, 1) := by decide +kernel
theorem dX4_manyNames_2 : decode cX4_manyNames 2 = .ok (.iconst 0, 1) := by decide +kernel
theorem dX4_manyNames_3 : decode cX4_manyNames 3 = .ok (.istore_n 3, 1) := by decide +kernel
theorem dX4_manyNames_4 : decode cX4_manyNames 4 = .ok (.iload_n 3, 1) := by decide +kernel
theorem dX4_manyNames_5 : decode cX4_manyNames 5 = .ok (.aload_n 0, 1) := by decide +kernel
theorem dX4_manyNames_6 : decode cX4_manyNames 6 = .ok (.getfield 76, 3) := by decide +kernel
theorem dX4_manyNames_9 : decode cX4_manyNames 9 = .ok (.if_icmp .ge 48, 3) := by decide +kernel
theorem dX4_manyNames_12 : decode cX4_manyNames 12 = .ok (.iload_n 2, 1) := by decide +kernel
theorem dX4_manyNames_13 : decode cX4_manyNames 13 = .ok (.iload_n 1, 1) := by decide +kernel
theorem dX4_manyNames_14 : decode cX4_manyNames 14 = .ok (.ifCond .eq 19, 3) := by decide +kernel
theorem dX4_manyNames_17 : decode cX4_manyNames 17 = .ok (.aload_n 0, 1) := by decide +kernel
theorem dX4_manyNames_18 : decode cX4_manyNames 18 = .ok (.iload_n 3, 1) := by decide +kernel
theorem dX4_manyNames_19 : decode cX4_manyNames 19 = .ok (.invokevirtual 139, 3) := by decide +kernel
theorem dX4_manyNames_22 : decode cX4_manyNames 22 = .ok (.ifCond .eq 7, 3) := by decide +kernel
theorem dX4_manyNames_25 : decode cX4_manyNames 25 = .ok (.iconst 1, 1) := by decide +kernel
theorem dX4_manyNames_26 : decode cX4_manyNames 26 = .ok (.goto 23, 3) := by decide +kernel
theorem dX4_manyNames_29 : decode cX4_manyNames 29 = .ok (.iconst 0, 1) := by decide +kernel
theorem dX4_manyNames_30 : decode cX4_manyNames 30 = .ok (.goto 19, 3) := by decide +kernel
theorem dX4_manyNames_33 : decode cX4_manyNames 33 = .ok (.aload_n 0, 1) := by decide +kernel
theorem dX4_manyNames_34 : decode cX4_manyNames 34 = .ok (.getfield 13, 3) := by decide +kernel
theorem dX4_manyNames_37 : decode cX4_manyNames 37 = .ok (.iload_n 3, 1) := by decide +kernel
theorem dX4_manyNames_38 : decode cX4_manyNames 38 = .ok (.iaload, 1) := by decide +kernel
theorem dX4_manyNames_39 : decode cX4_manyNames 39 = .ok (.bipush (-9), 2) := by decide +kernel
theorem dX4_manyNames_41 : decode cX4_manyNames 41 = .ok (.if_icmp .eq 7, 3) := by decide +kernel
theorem dX4_manyNames_44 : decode cX4_manyNames 44 = .ok (.iconst 1, 1) := by decide +kernel
theorem dX4_manyNames_45 : decode cX4_manyNames 45 = .ok (.goto 4, 3) := by decide +kernel
theorem dX4_manyNames_48 : decode cX4_manyNames 48 = .ok (.iconst 0, 1) := by decide +kernel
theorem dX4_manyNames_49 : decode cX4_manyNames 49 = .ok (.iadd, 1) := by decide +kernel
theorem dX4_manyNames_50 : decode cX4_manyNames 50 = .ok (.istore_n 2, 1) := by decide +kernel
theorem dX4_manyNames_51 : decode cX4_manyNames 51 = .ok (.iinc 3 1, 3) := by decide +kernel
theorem dX4_manyNames_54 : decode cX4_manyNames 54 = .ok (.goto (-50), 3) := by decide +kernel
theorem dX4_manyNames_57 : decode cX4_manyNames 57 = .ok (.iload_n 2, 1) := by decide +kernel
theorem dX4_manyNames_58 : decode cX4_manyNames 58 = .ok (.ireturn, 1) := by decide +kernel
theorem dX4_manyClosed_0 : decode cX4_manyClosed 0 = .ok (.iconst 0, 1) := by decide +kernel
theorem dX4_manyClosed_1 : decode cX4_manyClosed 1 = .ok (.istore_n 1, 1) := by decide +kernel
theorem dX4_manyClosed_2 : decode cX4_manyClosed 2 = .ok (.iconst 0, 1) := by decide +kernel
theorem dX4_manyClosed_3 : decode cX4_manyClosed 3 = .ok (.istore_n 2, 1) := by decide +kernel
theorem dX4_manyClosed_4 : decode cX4_manyClosed 4 = .ok (.iload_n 2, 1) := by decide +kernel
theorem dX4_manyClosed_5 : decode cX4_manyClosed 5 = .ok (.aload_n 0, 1) := by decide +kernel
theorem dX4_manyClosed_6 : decode cX4_manyClosed 6 = .ok (.getfield 84, 3) := by decide +kernel
theorem dX4_manyClosed_9 : decode cX4_manyClosed 9 = .ok (.if_icmp .ge 25, 3) := by decide +kernel
theorem dX4_manyClosed_12 : decode cX4_manyClosed 12 = .ok (.iload_n 1, 1) := by decide +kernel
theorem dX4_manyClosed_13 : decode cX4_manyClosed 13 = .ok (.aload_n 0, 1) := by decide +kernel
theorem dX4_manyClosed_14 : decode cX4_manyClosed 14 = .ok (.iload_n 2, 1) := by decide +kernel
theorem dX4_manyClosed_15 : decode cX4_manyClosed 15 = .ok (.invokevirtual 154, 3) := by decide +kernel
theorem dX4_manyClosed_18 : decode cX4_manyClosed 18 = .ok (.ifCond .eq 7, 3) := by decide +kernel
theorem dX4_manyClosed_21 : decode cX4_manyClosed 21 = .ok (.iconst 1, 1) := by decide +kernel
theorem dX4_manyClosed_22 : decode cX4_manyClosed 22 = .ok (.goto 4, 3) := by decide +kernel
theorem dX4_manyClosed_25 : decode cX4_manyClosed 25 = .ok (.iconst 0, 1) := by decide +kernel
theorem dX4_manyClosed_26 : decode cX4_manyClosed 26 = .ok (.iadd, 1) := by decide +kernel
theorem dX4_manyClosed_27 : decode cX4_manyClosed 27 = .ok (.istore_n 1, 1) := by decide +kernel
theorem dX4_manyClosed_28 : decode cX4_manyClosed 28 = .ok (.iinc 2 1, 3) := by decide +kernel
theorem dX4_manyClosed_31 : decode cX4_manyClosed 31 = .ok (.goto (-27), 3) := by decide +kernel
theorem dX4_manyClosed_34 : decode cX4_manyClosed 34 = .ok (.iload_n 1, 1) := by decide +kernel
theorem dX4_manyClosed_35 : decode cX4_manyClosed 35 = .ok (.ireturn, 1) := by decide +kernel
theorem dX4_many_0 : decode cX4_many 0 = .ok (.iload_n 1, 1) := by decide +kernel
theorem dX4_many_1 : decode cX4_many 1 = .ok (.tableswitch 62 0 4 #[35, 40, 45, 51, 57], 35) := by decide +kernel
theorem dX4_many_36 : decode cX4_many 36 = .ok (.aload_n 0, 1) := by decide +kernel
theorem dX4_many_37 : decode cX4_many 37 = .ok (.getfield 76, 3) := by decide +kernel
theorem dX4_many_40 : decode cX4_many 40 = .ok (.ireturn, 1) := by decide +kernel
theorem dX4_many_41 : decode cX4_many 41 = .ok (.aload_n 0, 1) := by decide +kernel
theorem dX4_many_42 : decode cX4_many 42 = .ok (.getfield 84, 3) := by decide +kernel
theorem dX4_many_45 : decode cX4_many 45 = .ok (.ireturn, 1) := by decide +kernel
theorem dX4_many_46 : decode cX4_many 46 = .ok (.aload_n 0, 1) := by decide +kernel
theorem dX4_many_47 : decode cX4_many 47 = .ok (.iconst 0, 1) := by decide +kernel
theorem dX4_many_48 : decode cX4_many 48 = .ok (.invokevirtual 236, 3) := by decide +kernel
theorem dX4_many_51 : decode cX4_many 51 = .ok (.ireturn, 1) := by decide +kernel
theorem dX4_many_52 : decode cX4_many 52 = .ok (.aload_n 0, 1) := by decide +kernel
theorem dX4_many_53 : decode cX4_many 53 = .ok (.iconst 1, 1) := by decide +kernel
theorem dX4_many_54 : decode cX4_many 54 = .ok (.invokevirtual 236, 3) := by decide +kernel
theorem dX4_many_57 : decode cX4_many 57 = .ok (.ireturn, 1) := by decide +kernel
theorem dX4_many_58 : decode cX4_many 58 = .ok (.aload_n 0, 1) := by decide +kernel
theorem dX4_many_59 : decode cX4_many 59 = .ok (.invokevirtual 240, 3) := by decide +kernel
theorem dX4_many_62 : decode cX4_many 62 = .ok (.ireturn, 1) := by decide +kernel
theorem dX4_many_63 : decode cX4_many 63 = .ok (.bipush (-2), 2) := by decide +kernel
theorem dX4_many_65 : decode cX4_many 65 = .ok (.ireturn, 1) := by decide +kernel
