theorem dX8_init_0 : decode cX8_init 0 = .ok (.aload_n 0, 1) := by decide +kernel
theorem dX8_init_1 : decode cX8_init 1 = .ok (.invokespecial 1, 3) := by decide +kernel
theorem dX8_init_4 : decode cX8_init 4 = .ok (.aload_n 0, 1) := by decide +kernel
theorem dX8_init_5 : decode cX8_init 5 = .ok (.iconst 4, 1) := by decide +kernel
theorem dX8_init_6 : decode cX8_init 6 = .ok (.newarray .int, 2) := by decide +kernel
theorem dX8_init_8 : decode cX8_init 8 = .ok (.putfield 7, 3) := by decide +kernel
theorem dX8_init_11 : decode cX8_init 11 = .ok (.aload_n 0, 1) := by decide +kernel
theorem dX8_init_12 : decode cX8_init 12 = .ok (.iconst 4, 1) := by decide +kernel
theorem dX8_init_13 : decode cX8_init 13 = .ok (.newarray .int, 2) := by decide +kernel
theorem dX8_init_15 : decode cX8_init 15 = .ok (.putfield 13, 3) := by decide +kernel
theorem dX8_init_18 : decode cX8_init 18 = .ok (.aload_n 0, 1) := by decide +kernel
theorem dX8_init_19 : decode cX8_init 19 = .ok (.sipush 240, 3) := by decide +kernel
theorem dX8_init_22 : decode cX8_init 22 = .ok (.newarray .int, 2) := by decide +kernel
theorem dX8_init_24 : decode cX8_init 24 = .ok (.putfield 16, 3) := by decide +kernel
theorem dX8_init_27 : decode cX8_init 27 = .ok (.aload_n 0, 1) := by decide +kernel
theorem dX8_init_28 : decode cX8_init 28 = .ok (.bipush 60, 2) := by decide +kernel
theorem dX8_init_30 : decode cX8_init 30 = .ok (.newarray .int, 2) := by decide +kernel
theorem dX8_init_32 : decode cX8_init 32 = .ok (.putfield 19, 3) := by decide +kernel
theorem dX8_init_35 : decode cX8_init 35 = .ok (.aload_n 0, 1) := by decide +kernel
theorem dX8_init_36 : decode cX8_init 36 = .ok (.bipush 80, 2) := by decide +kernel
theorem dX8_init_38 : decode cX8_init 38 = .ok (.newarray .int, 2) := by decide +kernel
theorem dX8_init_40 : decode cX8_init 40 = .ok (.putfield 22, 3) := by decide +kernel
theorem dX8_init_43 : decode cX8_init 43 = .ok (.aload_n 0, 1) := by decide +kernel
theorem dX8_init_44 : decode cX8_init 44 = .ok (.iconst 2, 1) := by decide +kernel
theorem dX8_init_45 : decode cX8_init 45 = .ok (.newarray .int, 2) := by decide +kernel
theorem dX8_init_47 : decode cX8_init 47 = .ok (.putfield 25, 3) := by decide +kernel
theorem dX8_init_50 : decode cX8_init 50 = .ok (.aload_n 0, 1) := by decide +kernel
theorem dX8_init_51 : decode cX8_init 51 = .ok (.bipush 32, 2) := by decide +kernel
theorem dX8_init_53 : decode cX8_init 53 = .ok (.newarray .int, 2) := by decide +kernel
theorem dX8_init_55 : decode cX8_init 55 = .ok (.putfield 28, 3) := by decide +kernel
theorem dX8_init_58 : decode cX8_init 58 = .ok (.aload_n 0, 1) := by decide +kernel
theorem dX8_init_59 : decode cX8_init 59 = .ok (.bipush 16, 2) := by decide +kernel
theorem dX8_init_61 : decode cX8_init 61 = .ok (.newarray .int, 2) := by decide +kernel
theorem dX8_init_63 : decode cX8_init 63 = .ok (.putfield 31, 3) := by decide +kernel
theorem dX8_init_66 : decode cX8_init 66 = .ok (.aload_n 0, 1) := by decide +kernel
theorem dX8_init_67 : decode cX8_init 67 = .ok (.bipush 8, 2) := by decide +kernel
theorem dX8_init_69 : decode cX8_init 69 = .ok (.newarray .int, 2) := by decide +kernel
theorem dX8_init_71 : decode cX8_init 71 = .ok (.putfield 34, 3) := by decide +kernel
theorem dX8_init_74 : decode cX8_init 74 = .ok (.aload_n 0, 1) := by decide +kernel
theorem dX8_init_75 : decode cX8_init 75 = .ok (.iconst 3, 1) := by decide +kernel
theorem dX8_init_76 : decode cX8_init 76 = .ok (.newarray .int, 2) := by decide +kernel
theorem dX8_init_78 : decode cX8_init 78 = .ok (.putfield 37, 3) := by decide +kernel
theorem dX8_init_81 : decode cX8_init 81 = .ok (.aload_n 0, 1) := by decide +kernel
theorem dX8_init_82 : decode cX8_init 82 = .ok (.bipush 8, 2) := by decide +kernel
theorem dX8_init_84 : decode cX8_init 84 = .ok (.newarray .int, 2) := by decide +kernel
theorem dX8_init_86 : decode cX8_init 86 = .ok (.putfield 40, 3) := by decide +kernel
theorem dX8_init_89 : decode cX8_init 89 = .ok (.aload_n 0, 1) := by decide +kernel
theorem dX8_init_90 : decode cX8_init 90 = .ok (.bipush 8, 2) := by decide +kernel
theorem dX8_init_92 : decode cX8_init 92 = .ok (.newarray .int, 2) := by decide +kernel
theorem dX8_init_94 : decode cX8_init 94 = .ok (.putfield 43, 3) := by decide +kernel
theorem dX8_init_97 : decode cX8_init 97 = .ok (.aload_n 0, 1) := by decide +kernel
theorem dX8_init_98 : decode cX8_init 98 = .ok (.bipush 29, 2) := by decide +kernel
theorem dX8_init_100 : decode cX8_init 100 = .ok (.newarray .int, 2) := by decide +kernel
theorem dX8_init_102 : decode cX8_init 102 = .ok (.putfield 46, 3) := by decide +kernel
theorem dX8_init_105 : decode cX8_init 105 = .ok (.aload_n 0, 1) := by decide +kernel
theorem dX8_init_106 : decode cX8_init 106 = .ok (.bipush 80, 2) := by decide +kernel
theorem dX8_init_108 : decode cX8_init 108 = .ok (.newarray .int, 2) := by decide +kernel
theorem dX8_init_110 : decode cX8_init 110 = .ok (.putfield 49, 3) := by decide +kernel
theorem dX8_init_113 : decode cX8_init 113 = .ok (.aload_n 0, 1) := by decide +kernel
theorem dX8_init_114 : decode cX8_init 114 = .ok (.bipush 80, 2) := by decide +kernel
theorem dX8_init_116 : decode cX8_init 116 = .ok (.newarray .int, 2) := by decide +kernel
theorem dX8_init_118 : decode cX8_init 118 = .ok (.putfield 52, 3) := by decide +kernel
theorem dX8_init_121 : decode cX8_init 121 = .ok (.aload_n 0, 1) := by decide +kernel
theorem dX8_init_122 : decode cX8_init 122 = .ok (.bipush 10, 2) := by decide +kernel
theorem dX8_init_124 : decode cX8_init 124 = .ok (.newarray .int, 2) := by decide +kernel
theorem dX8_init_126 : decode cX8_init 126 = .ok (.putfield 55, 3) := by decide +kernel
theorem dX8_init_129 : decode cX8_init 129 = .ok (.aload_n 0, 1) := by decide +kernel
theorem dX8_init_130 : decode cX8_init 130 = .ok (.sipush 290, 3) := by decide +kernel
theorem dX8_init_133 : decode cX8_init 133 = .ok (.newarray .int, 2) := by decide +kernel
theorem dX8_init_135 : decode cX8_init 135 = .ok (.putfield 58, 3) := by decide +kernel
theorem dX8_init_138 : decode cX8_init 138 = .ok (.aload_n 0, 1) := by decide +kernel
theorem dX8_init_139 : decode cX8_init 139 = .ok (.iconst 3, 1) := by decide +kernel
theorem dX8_init_140 : decode cX8_init 140 = .ok (.newarray .int, 2) := by decide +kernel
theorem dX8_init_142 : decode cX8_init 142 = .ok (.putfield 61, 3) := by decide +kernel
theorem dX8_init_145 : decode cX8_init 145 = .ok (.aload_n 0, 1) := by decide +kernel
theorem dX8_init_146 : decode cX8_init 146 = .ok (.bipush 24, 2) := by decide +kernel
theorem dX8_init_148 : decode cX8_init 148 = .ok (.newarray .int, 2) := by decide +kernel
theorem dX8_init_150 : decode cX8_init 150 = .ok (.putfield 64, 3) := by decide +kernel
theorem dX8_init_153 : decode cX8_init 153 = .ok (.aload_n 0, 1) := by decide +kernel
theorem dX8_init_154 : decode cX8_init 154 = .ok (.bipush 72, 2) := by decide +kernel
theorem dX8_init_156 : decode cX8_init 156 = .ok (.newarray .int, 2) := by decide +kernel
theorem dX8_init_158 : decode cX8_init 158 = .ok (.putfield 67, 3) := by decide +kernel
theorem dX8_init_161 : decode cX8_init 161 = .ok (.iconst 0, 1) := by decide +kernel
theorem dX8_init_162 : decode cX8_init 162 = .ok (.istore_n 1, 1) := by decide +kernel
theorem dX8_init_163 : decode cX8_init 163 = .ok (.iload_n 1, 1) := by decide +kernel
theorem dX8_init_164 : decode cX8_init 164 = .ok (.iconst 4, 1) := by decide +kernel
theorem dX8_init_165 : decode cX8_init 165 = .ok (.if_icmp .ge 16, 3) := by decide +kernel
theorem dX8_init_168 : decode cX8_init 168 = .ok (.aload_n 0, 1) := by decide +kernel
theorem dX8_init_169 : decode cX8_init 169 = .ok (.getfield 7, 3) := by decide +kernel
theorem dX8_init_172 : decode cX8_init 172 = .ok (.iload_n 1, 1) := by decide +kernel
theorem dX8_init_173 : decode cX8_init 173 = .ok (.iconst (-1), 1) := by decide +kernel
theorem dX8_init_174 : decode cX8_init 174 = .ok (.iastore, 1) := by decide +kernel
theorem dX8_init_175 : decode cX8_init 175 = .ok (.iinc 1 1, 3) := by decide +kernel
theorem dX8_init_178 : decode cX8_init 178 = .ok (.goto (-15), 3) := by decide +kernel
theorem dX8_init_181 : decode cX8_init 181 = .ok (.iconst 0, 1) := by decide +kernel
theorem dX8_init_182 : decode cX8_init 182 = .ok (.istore_n 1, 1) := by decide +kernel
theorem dX8_init_183 : decode cX8_init 183 = .ok (.iload_n 1, 1) := by decide +kernel
theorem dX8_init_184 : decode cX8_init 184 = .ok (.bipush 8, 2) := by decide +kernel
theorem dX8_init_186 : decode cX8_init 186 = .ok (.if_icmp .ge 18, 3) := by decide +kernel
theorem dX8_init_189 : decode cX8_init 189 = .ok (.aload_n 0, 1) := by decide +kernel
theorem dX8_init_190 : decode cX8_init 190 = .ok (.getfield 34, 3) := by decide +kernel
theorem dX8_init_193 : decode cX8_init 193 = .ok (.iload_n 1, 1) := by decide +kernel
theorem dX8_init_194 : decode cX8_init 194 = .ok (.iload_n 1, 1) := by decide +kernel
theorem dX8_init_195 : decode cX8_init 195 = .ok (.iconst 1, 1) := by decide +kernel
theorem dX8_init_196 : decode cX8_init 196 = .ok (.iadd, 1) := by decide +kernel
theorem dX8_init_197 : decode cX8_init 197 = .ok (.iastore, 1) := by decide +kernel
theorem dX8_init_198 : decode cX8_init 198 = .ok (.iinc 1 1, 3) := by decide +kernel
theorem dX8_init_201 : decode cX8_init 201 = .ok (.goto (-18), 3) := by decide +kernel
theorem dX8_init_204 : decode cX8_init 204 = .ok (.aload_n 0, 1) := by decide +kernel
theorem dX8_init_205 : decode cX8_init 205 = .ok (.getfield 37, 3) := by decide +kernel
theorem dX8_init_208 : decode cX8_init 208 = .ok (.iconst 0, 1) := by decide +kernel
theorem dX8_init_209 : decode cX8_init 209 = .ok (.iconst 2, 1) := by decide +kernel
theorem dX8_init_210 : decode cX8_init 210 = .ok (.iastore, 1) := by decide +kernel
theorem dX8_init_211 : decode cX8_init 211 = .ok (.aload_n 0, 1) := by decide +kernel
theorem dX8_init_212 : decode cX8_init 212 = .ok (.getfield 37, 3) := by decide +kernel
theorem dX8_init_215 : decode cX8_init 215 = .ok (.iconst 1, 1) := by decide +kernel
theorem dX8_init_216 : decode cX8_init 216 = .ok (.bipush 32, 2) := by decide +kernel
theorem dX8_init_218 : decode cX8_init 218 = .ok (.iastore, 1) := by decide +kernel
theorem dX8_init_219 : decode cX8_init 219 = .ok (.aload_n 0, 1) := by decide +kernel
theorem dX8_init_220 : decode cX8_init 220 = .ok (.iconst (-1), 1) := by decide +kernel
theorem dX8_init_221 : decode cX8_init 221 = .ok (.putfield 70, 3) := by decide +kernel
theorem dX8_init_224 : decode cX8_init 224 = .ok (.return_, 1) := by decide +kernel
theorem dX8_in_0 : decode cX8_in 0 = .ok (.lload_n 0, 1) := by decide +kernel
theorem dX8_in_1 : decode cX8_in 1 = .ok (.lload_n 2, 1) := by decide +kernel
theorem dX8_in_2 : decode cX8_in 2 = .ok (.lcmp, 1) := by decide +kernel
theorem dX8_in_3 : decode cX8_in 3 = .ok (.ifCond .lt 14, 3) := by decide +kernel
theorem dX8_in_6 : decode cX8_in 6 = .ok (.lload_n 0, 1) := by decide +kernel
theorem dX8_in_7 : decode cX8_in 7 = .ok (.lload 4, 2) := by decide +kernel
theorem dX8_in_9 : decode cX8_in 9 = .ok (.lcmp, 1) := by decide +kernel
theorem dX8_in_10 : decode cX8_in 10 = .ok (.ifCond .gt 7, 3) := by decide +kernel
theorem dX8_in_13 : decode cX8_in 13 = .ok (.iconst 1, 1) := by decide +kernel
theorem dX8_in_14 : decode cX8_in 14 = .ok (.goto 4, 3) := by decide +kernel
theorem dX8_in_17 : decode cX8_in 17 = .ok (.iconst 0, 1) := by decide +kernel
theorem dX8_in_18 : decode cX8_in 18 = .ok (.ireturn, 1) := by decide +kernel
theorem dX8_no_0 : decode cX8_no 0 = .ok (.ldc2_w 74, 3) := by decide +kernel
theorem dX8_no_3 : decode cX8_no 3 = .ok (.iload_n 0, 1) := by decide +kernel
theorem dX8_no_4 : decode cX8_no 4 = .ok (.i2l, 1) := by decide +kernel
theorem dX8_no_5 : decode cX8_no 5 = .ok (.lsub, 1) := by decide +kernel
theorem dX8_no_6 : decode cX8_no 6 = .ok (.lreturn, 1) := by decide +kernel
theorem dX8_isTwo_0 : decode cX8_isTwo 0 = .ok (.iload_n 0, 1) := by decide +kernel
theorem dX8_isTwo_1 : decode cX8_isTwo 1 = .ok (.i2l, 1) := by decide +kernel
theorem dX8_isTwo_2 : decode cX8_isTwo 2 = .ok (.lconst 0, 1) := by decide +kernel
theorem dX8_isTwo_3 : decode cX8_isTwo 3 = .ok (.lconst 1, 1) := by decide +kernel
theorem dX8_isTwo_4 : decode cX8_isTwo 4 = .ok (.invokestatic 76, 3) := by decide +kernel
theorem dX8_isTwo_7 : decode cX8_isTwo 7 = .ok (.ireturn, 1) := by decide +kernel
theorem dX8_isIn_0 : decode cX8_isIn 0 = .ok (.iload_n 0, 1) := by decide +kernel
theorem dX8_isIn_1 : decode cX8_isIn 1 = .ok (.iload_n 1, 1) := by decide +kernel
theorem dX8_isIn_2 : decode cX8_isIn 2 = .ok (.ishr, 1) := by decide +kernel
theorem dX8_isIn_3 : decode cX8_isIn 3 = .ok (.iconst 1, 1) := by decide +kernel
theorem dX8_isIn_4 : decode cX8_isIn 4 = .ok (.iand, 1) := by decide +kernel
theorem dX8_isIn_5 : decode cX8_isIn 5 = .ok (.iconst 1, 1) := by decide +kernel
theorem dX8_isIn_6 : decode cX8_isIn 6 = .ok (.if_icmp .ne 7, 3) := by decide +kernel
theorem dX8_isIn_9 : decode cX8_isIn 9 = .ok (.iconst 1, 1) := by decide +kernel
theorem dX8_isIn_10 : decode cX8_isIn 10 = .ok (.goto 4, 3) := by decide +kernel
theorem dX8_isIn_13 : decode cX8_isIn 13 = .ok (.iconst 0, 1) := by decide +kernel
theorem dX8_isIn_14 : decode cX8_isIn 14 = .ok (.ireturn, 1) := by decide +kernel
theorem dX8_ones_0 : decode cX8_ones 0 = .ok (.iconst 0, 1) := by decide +kernel
theorem dX8_ones_1 : decode cX8_ones 1 = .ok (.istore_n 1, 1) := by decide +kernel
theorem dX8_ones_2 : decode cX8_ones 2 = .ok (.iload_n 0, 1) := by decide +kernel
theorem dX8_ones_3 : decode cX8_ones 3 = .ok (.istore_n 2, 1) := by decide +kernel
theorem dX8_ones_4 : decode cX8_ones 4 = .ok (.iload_n 2, 1) := by decide +kernel
theorem dX8_ones_5 : decode cX8_ones 5 = .ok (.ifCond .eq 15, 3) := by decide +kernel
theorem dX8_ones_8 : decode cX8_ones 8 = .ok (.iinc 1 1, 3) := by decide +kernel
theorem dX8_ones_11 : decode cX8_ones 11 = .ok (.iload_n 2, 1) := by decide +kernel
theorem dX8_ones_12 : decode cX8_ones 12 = .ok (.iload_n 2, 1) := by decide +kernel
theorem dX8_ones_13 : decode cX8_ones 13 = .ok (.iconst 1, 1) := by decide +kernel
theorem dX8_ones_14 : decode cX8_ones 14 = .ok (.isub, 1) := by decide +kernel
theorem dX8_ones_15 : decode cX8_ones 15 = .ok (.iand, 1) := by decide +kernel
theorem dX8_ones_16 : decode cX8_ones 16 = .ok (.istore_n 2, 1) := by decide +kernel
theorem dX8_ones_17 : decode cX8_ones 17 = .ok (.goto (-13), 3) := by decide +kernel
theorem dX8_ones_20 : decode cX8_ones 20 = .ok (.iload_n 1, 1) := by decide +kernel
theorem dX8_ones_21 : decode cX8_ones 21 = .ok (.ireturn, 1) := by decide +kernel
theorem dX8_lesser_0 : decode cX8_lesser 0 = .ok (.iload_n 0, 1) := by decide +kernel
theorem dX8_lesser_1 : decode cX8_lesser 1 = .ok (.iload_n 1, 1) := by decide +kernel
theorem dX8_lesser_2 : decode cX8_lesser 2 = .ok (.if_icmp .ge 7, 3) := by decide +kernel
theorem dX8_lesser_5 : decode cX8_lesser 5 = .ok (.iload_n 0, 1) := by decide +kernel
theorem dX8_lesser_6 : decode cX8_lesser 6 = .ok (.goto 4, 3) := by decide +kernel
theorem dX8_lesser_9 : decode cX8_lesser 9 = .ok (.iload_n 1, 1) := by decide +kernel
theorem dX8_lesser_10 : decode cX8_lesser 10 = .ok (.ireturn, 1) := by decide +kernel
theorem dX8_greater_0 : decode cX8_greater 0 = .ok (.iload_n 0, 1) := by decide +kernel
theorem dX8_greater_1 : decode cX8_greater 1 = .ok (.iload_n 1, 1) := by decide +kernel
theorem dX8_greater_2 : decode cX8_greater 2 = .ok (.if_icmp .le 7, 3) := by decide +kernel
theorem dX8_greater_5 : decode cX8_greater 5 = .ok (.iload_n 0, 1) := by decide +kernel
theorem dX8_greater_6 : decode cX8_greater 6 = .ok (.goto 4, 3) := by decide +kernel
theorem dX8_greater_9 : decode cX8_greater 9 = .ok (.iload_n 1, 1) := by decide +kernel
theorem dX8_greater_10 : decode cX8_greater 10 = .ok (.ireturn, 1) := by decide +kernel
theorem dX8_part_0 : decode cX8_part 0 = .ok (.lload_n 0, 1) := by decide +kernel
theorem dX8_part_1 : decode cX8_part 1 = .ok (.lstore 5, 2) := by decide +kernel
theorem dX8_part_3 : decode cX8_part 3 = .ok (.lload_n 2, 1) := by decide +kernel
theorem dX8_part_4 : decode cX8_part 4 = .ok (.lstore 7, 2) := by decide +kernel
theorem dX8_part_6 : decode cX8_part 6 = .ok (.lload 7, 2) := by decide +kernel
theorem dX8_part_8 : decode cX8_part 8 = .ok (.lconst 0, 1) := by decide +kernel
theorem dX8_part_9 : decode cX8_part 9 = .ok (.lcmp, 1) := by decide +kernel
theorem dX8_part_10 : decode cX8_part 10 = .ok (.ifCond .eq 21, 3) := by decide +kernel
theorem dX8_part_13 : decode cX8_part 13 = .ok (.lload 5, 2) := by decide +kernel
theorem dX8_part_15 : decode cX8_part 15 = .ok (.lload 7, 2) := by decide +kernel
theorem dX8_part_17 : decode cX8_part 17 = .ok (.lrem, 1) := by decide +kernel
theorem dX8_part_18 : decode cX8_part 18 = .ok (.lstore 9, 2) := by decide +kernel
theorem dX8_part_20 : decode cX8_part 20 = .ok (.lload 7, 2) := by decide +kernel
theorem dX8_part_22 : decode cX8_part 22 = .ok (.lstore 5, 2) := by decide +kernel
theorem dX8_part_24 : decode cX8_part 24 = .ok (.lload 9, 2) := by decide +kernel
theorem dX8_part_26 : decode cX8_part 26 = .ok (.lstore 7, 2) := by decide +kernel
theorem dX8_part_28 : decode cX8_part 28 = .ok (.goto (-22), 3) := by decide +kernel
theorem dX8_part_31 : decode cX8_part 31 = .ok (.iload 4, 2) := by decide +kernel
theorem dX8_part_33 : decode cX8_part 33 = .ok (.ifCond .ne 7, 3) := by decide +kernel
theorem dX8_part_36 : decode cX8_part 36 = .ok (.lload_n 0, 1) := by decide +kernel
theorem dX8_part_37 : decode cX8_part 37 = .ok (.goto 4, 3) := by decide +kernel
theorem dX8_part_40 : decode cX8_part 40 = .ok (.lload_n 2, 1) := by decide +kernel
theorem dX8_part_41 : decode cX8_part 41 = .ok (.lload 5, 2) := by decide +kernel
theorem dX8_part_43 : decode cX8_part 43 = .ok (.ldiv, 1) := by decide +kernel
theorem dX8_part_44 : decode cX8_part 44 = .ok (.lreturn, 1) := by decide +kernel
theorem dX8_finds_0 : decode cX8_finds 0 = .ok (.aload_n 0, 1) := by decide +kernel
theorem dX8_finds_1 : decode cX8_finds 1 = .ok (.iload_n 1, 1) := by decide +kernel
theorem dX8_finds_2 : decode cX8_finds 2 = .ok (.putfield 80, 3) := by decide +kernel
theorem dX8_finds_5 : decode cX8_finds 5 = .ok (.bipush (-10), 2) := by decide +kernel
theorem dX8_finds_7 : decode cX8_finds 7 = .ok (.iload_n 1, 1) := by decide +kernel
theorem dX8_finds_8 : decode cX8_finds 8 = .ok (.isub, 1) := by decide +kernel
theorem dX8_finds_9 : decode cX8_finds 9 = .ok (.ireturn, 1) := by decide +kernel
theorem dX8_isSheet_0 : decode cX8_isSheet 0 = .ok (.iload_n 0, 1) := by decide +kernel
theorem dX8_isSheet_1 : decode cX8_isSheet 1 = .ok (.i2l, 1) := by decide +kernel
theorem dX8_isSheet_2 : decode cX8_isSheet 2 = .ok (.lconst 0, 1) := by decide +kernel
theorem dX8_isSheet_3 : decode cX8_isSheet 3 = .ok (.ldc2_w 83, 3) := by decide +kernel
theorem dX8_isSheet_6 : decode cX8_isSheet 6 = .ok (.invokestatic 76, 3) := by decide +kernel
theorem dX8_isSheet_9 : decode cX8_isSheet 9 = .ok (.ireturn, 1) := by decide +kernel
theorem dX8_sheet_0 : decode cX8_sheet 0 = .ok (.iload_n 1, 1) := by decide +kernel
theorem dX8_sheet_1 : decode cX8_sheet 1 = .ok (.invokestatic 85, 3) := by decide +kernel
theorem dX8_sheet_4 : decode cX8_sheet 4 = .ok (.ifCond .eq 21, 3) := by decide +kernel
theorem dX8_sheet_7 : decode cX8_sheet 7 = .ok (.iload_n 2, 1) := by decide +kernel
theorem dX8_sheet_8 : decode cX8_sheet 8 = .ok (.i2l, 1) := by decide +kernel
theorem dX8_sheet_9 : decode cX8_sheet 9 = .ok (.lconst 0, 1) := by decide +kernel
theorem dX8_sheet_10 : decode cX8_sheet 10 = .ok (.ldc2_w 89, 3) := by decide +kernel
theorem dX8_sheet_13 : decode cX8_sheet 13 = .ok (.invokestatic 76, 3) := by decide +kernel
theorem dX8_sheet_16 : decode cX8_sheet 16 = .ok (.ifCond .eq 9, 3) := by decide +kernel
theorem dX8_sheet_19 : decode cX8_sheet 19 = .ok (.iload_n 3, 1) := by decide +kernel
theorem dX8_sheet_20 : decode cX8_sheet 20 = .ok (.bipush 60, 2) := by decide +kernel
theorem dX8_sheet_22 : decode cX8_sheet 22 = .ok (.if_icmp .le 6, 3) := by decide +kernel
theorem dX8_sheet_25 : decode cX8_sheet 25 = .ok (.bipush (-2), 2) := by decide +kernel
theorem dX8_sheet_27 : decode cX8_sheet 27 = .ok (.ireturn, 1) := by decide +kernel
theorem dX8_sheet_28 : decode cX8_sheet 28 = .ok (.iload_n 3, 1) := by decide +kernel
theorem dX8_sheet_29 : decode cX8_sheet 29 = .ok (.ifCond .ge 9, 3) := by decide +kernel
theorem dX8_sheet_32 : decode cX8_sheet 32 = .ok (.aload_n 0, 1) := by decide +kernel
theorem dX8_sheet_33 : decode cX8_sheet 33 = .ok (.iconst 5, 1) := by decide +kernel
theorem dX8_sheet_34 : decode cX8_sheet 34 = .ok (.invokevirtual 91, 3) := by decide +kernel
theorem dX8_sheet_37 : decode cX8_sheet 37 = .ok (.ireturn, 1) := by decide +kernel
theorem dX8_sheet_38 : decode cX8_sheet 38 = .ok (.aload_n 0, 1) := by decide +kernel
theorem dX8_sheet_39 : decode cX8_sheet 39 = .ok (.getfield 7, 3) := by decide +kernel
theorem dX8_sheet_42 : decode cX8_sheet 42 = .ok (.iload_n 1, 1) := by decide +kernel
theorem dX8_sheet_43 : decode cX8_sheet 43 = .ok (.iload_n 2, 1) := by decide +kernel
theorem dX8_sheet_44 : decode cX8_sheet 44 = .ok (.iastore, 1) := by decide +kernel
theorem dX8_sheet_45 : decode cX8_sheet 45 = .ok (.aload_n 0, 1) := by decide +kernel
theorem dX8_sheet_46 : decode cX8_sheet 46 = .ok (.getfield 13, 3) := by decide +kernel
theorem dX8_sheet_49 : decode cX8_sheet 49 = .ok (.iload_n 1, 1) := by decide +kernel
theorem dX8_sheet_50 : decode cX8_sheet 50 = .ok (.iload_n 3, 1) := by decide +kernel
theorem dX8_sheet_51 : decode cX8_sheet 51 = .ok (.iastore, 1) := by decide +kernel
theorem dX8_sheet_52 : decode cX8_sheet 52 = .ok (.iconst 0, 1) := by decide +kernel
theorem dX8_sheet_53 : decode cX8_sheet 53 = .ok (.istore 4, 2) := by decide +kernel
theorem dX8_sheet_55 : decode cX8_sheet 55 = .ok (.iload 4, 2) := by decide +kernel
theorem dX8_sheet_57 : decode cX8_sheet 57 = .ok (.iload_n 3, 1) := by decide +kernel
theorem dX8_sheet_58 : decode cX8_sheet 58 = .ok (.if_icmp .ge 22, 3) := by decide +kernel
theorem dX8_sheet_61 : decode cX8_sheet 61 = .ok (.aload_n 0, 1) := by decide +kernel
theorem dX8_sheet_62 : decode cX8_sheet 62 = .ok (.getfield 16, 3) := by decide +kernel
theorem dX8_sheet_65 : decode cX8_sheet 65 = .ok (.bipush 60, 2) := by decide +kernel
theorem dX8_sheet_67 : decode cX8_sheet 67 = .ok (.iload_n 1, 1) := by decide +kernel
theorem dX8_sheet_68 : decode cX8_sheet 68 = .ok (.imul, 1) := by decide +kernel
theorem dX8_sheet_69 : decode cX8_sheet 69 = .ok (.iload 4, 2) := by decide +kernel
theorem dX8_sheet_71 : decode cX8_sheet 71 = .ok (.iadd, 1) := by decide +kernel
theorem dX8_sheet_72 : decode cX8_sheet 72 = .ok (.iconst 0, 1) := by decide +kernel
theorem dX8_sheet_73 : decode cX8_sheet 73 = .ok (.iastore, 1) := by decide +kernel
theorem dX8_sheet_74 : decode cX8_sheet 74 = .ok (.iinc 4 1, 3) := by decide +kernel
theorem dX8_sheet_77 : decode cX8_sheet 77 = .ok (.goto (-22), 3) := by decide +kernel
theorem dX8_sheet_80 : decode cX8_sheet 80 = .ok (.iload_n 3, 1) := by decide +kernel
theorem dX8_sheet_81 : decode cX8_sheet 81 = .ok (.ireturn, 1) := by decide +kernel
theorem dX8_lose_0 : decode cX8_lose 0 = .ok (.iload_n 1, 1) := by decide +kernel
theorem dX8_lose_1 : decode cX8_lose 1 = .ok (.invokestatic 85, 3) := by decide +kernel
theorem dX8_lose_4 : decode cX8_lose 4 = .ok (.ifCond .ne 6, 3) := by decide +kernel
theorem dX8_lose_7 : decode cX8_lose 7 = .ok (.bipush (-2), 2) := by decide +kernel
theorem dX8_lose_9 : decode cX8_lose 9 = .ok (.ireturn, 1) := by decide +kernel
theorem dX8_lose_10 : decode cX8_lose 10 = .ok (.aload_n 0, 1) := by decide +kernel
theorem dX8_lose_11 : decode cX8_lose 11 = .ok (.getfield 7, 3) := by decide +kernel
theorem dX8_lose_14 : decode cX8_lose 14 = .ok (.iload_n 1, 1) := by decide +kernel
theorem dX8_lose_15 : decode cX8_lose 15 = .ok (.iaload, 1) := by decide +kernel
theorem dX8_lose_16 : decode cX8_lose 16 = .ok (.ifCond .ge 9, 3) := by decide +kernel
theorem dX8_lose_19 : decode cX8_lose 19 = .ok (.aload_n 0, 1) := by decide +kernel
theorem dX8_lose_20 : decode cX8_lose 20 = .ok (.iconst 1, 1) := by decide +kernel
theorem dX8_lose_21 : decode cX8_lose 21 = .ok (.invokevirtual 91, 3) := by decide +kernel
theorem dX8_lose_24 : decode cX8_lose 24 = .ok (.ireturn, 1) := by decide +kernel
theorem dX8_lose_25 : decode cX8_lose 25 = .ok (.aload_n 0, 1) := by decide +kernel
theorem dX8_lose_26 : decode cX8_lose 26 = .ok (.getfield 7, 3) := by decide +kernel
theorem dX8_lose_29 : decode cX8_lose 29 = .ok (.iload_n 1, 1) := by decide +kernel
theorem dX8_lose_30 : decode cX8_lose 30 = .ok (.iconst (-1), 1) := by decide +kernel
theorem dX8_lose_31 : decode cX8_lose 31 = .ok (.iastore, 1) := by decide +kernel
theorem dX8_lose_32 : decode cX8_lose 32 = .ok (.aload_n 0, 1) := by decide +kernel
theorem dX8_lose_33 : decode cX8_lose 33 = .ok (.getfield 13, 3) := by decide +kernel
theorem dX8_lose_36 : decode cX8_lose 36 = .ok (.iload_n 1, 1) := by decide +kernel
theorem dX8_lose_37 : decode cX8_lose 37 = .ok (.iaload, 1) := by decide +kernel
theorem dX8_lose_38 : decode cX8_lose 38 = .ok (.ireturn, 1) := by decide +kernel
theorem dX8_lacks_0 : decode cX8_lacks 0 = .ok (.aload_n 0, 1) := by decide +kernel
theorem dX8_lacks_1 : decode cX8_lacks 1 = .ok (.getfield 7, 3) := by decide +kernel
theorem dX8_lacks_4 : decode cX8_lacks 4 = .ok (.iload_n 1, 1) := by decide +kernel
theorem dX8_lacks_5 : decode cX8_lacks 5 = .ok (.iaload, 1) := by decide +kernel
theorem dX8_lacks_6 : decode cX8_lacks 6 = .ok (.ifCond .ge 9, 3) := by decide +kernel
theorem dX8_lacks_9 : decode cX8_lacks 9 = .ok (.aload_n 0, 1) := by decide +kernel
theorem dX8_lacks_10 : decode cX8_lacks 10 = .ok (.iconst 1, 1) := by decide +kernel
theorem dX8_lacks_11 : decode cX8_lacks 11 = .ok (.invokevirtual 91, 3) := by decide +kernel
theorem dX8_lacks_14 : decode cX8_lacks 14 = .ok (.ireturn, 1) := by decide +kernel
theorem dX8_lacks_15 : decode cX8_lacks 15 = .ok (.aload_n 0, 1) := by decide +kernel
theorem dX8_lacks_16 : decode cX8_lacks 16 = .ok (.getfield 7, 3) := by decide +kernel
theorem dX8_lacks_19 : decode cX8_lacks 19 = .ok (.iload_n 1, 1) := by decide +kernel
theorem dX8_lacks_20 : decode cX8_lacks 20 = .ok (.iaload, 1) := by decide +kernel
theorem dX8_lacks_21 : decode cX8_lacks 21 = .ok (.iload_n 2, 1) := by decide +kernel
theorem dX8_lacks_22 : decode cX8_lacks 22 = .ok (.if_icmp .eq 9, 3) := by decide +kernel
theorem dX8_lacks_25 : decode cX8_lacks 25 = .ok (.aload_n 0, 1) := by decide +kernel
theorem dX8_lacks_26 : decode cX8_lacks 26 = .ok (.iconst 3, 1) := by decide +kernel
theorem dX8_lacks_27 : decode cX8_lacks 27 = .ok (.invokevirtual 91, 3) := by decide +kernel
theorem dX8_lacks_30 : decode cX8_lacks 30 = .ok (.ireturn, 1) := by decide +kernel
theorem dX8_lacks_31 : decode cX8_lacks 31 = .ok (.iload_n 3, 1) := by decide +kernel
theorem dX8_lacks_32 : decode cX8_lacks 32 = .ok (.i2l, 1) := by decide +kernel
theorem dX8_lacks_33 : decode cX8_lacks 33 = .ok (.lconst 0, 1) := by decide +kernel
theorem dX8_lacks_34 : decode cX8_lacks 34 = .ok (.aload_n 0, 1) := by decide +kernel
theorem dX8_lacks_35 : decode cX8_lacks 35 = .ok (.getfield 13, 3) := by decide +kernel
theorem dX8_lacks_38 : decode cX8_lacks 38 = .ok (.iload_n 1, 1) := by decide +kernel
theorem dX8_lacks_39 : decode cX8_lacks 39 = .ok (.iaload, 1) := by decide +kernel
theorem dX8_lacks_40 : decode cX8_lacks 40 = .ok (.iconst 1, 1) := by decide +kernel
theorem dX8_lacks_41 : decode cX8_lacks 41 = .ok (.isub, 1) := by decide +kernel
theorem dX8_lacks_42 : decode cX8_lacks 42 = .ok (.i2l, 1) := by decide +kernel
theorem dX8_lacks_43 : decode cX8_lacks 43 = .ok (.invokestatic 76, 3) := by decide +kernel
theorem dX8_lacks_46 : decode cX8_lacks 46 = .ok (.ifCond .eq 7, 3) := by decide +kernel
theorem dX8_lacks_49 : decode cX8_lacks 49 = .ok (.iconst 0, 1) := by decide +kernel
theorem dX8_lacks_50 : decode cX8_lacks 50 = .ok (.goto 8, 3) := by decide +kernel
theorem dX8_lacks_53 : decode cX8_lacks 53 = .ok (.aload_n 0, 1) := by decide +kernel
theorem dX8_lacks_54 : decode cX8_lacks 54 = .ok (.iconst 2, 1) := by decide +kernel
theorem dX8_lacks_55 : decode cX8_lacks 55 = .ok (.invokevirtual 91, 3) := by decide +kernel
theorem dX8_lacks_58 : decode cX8_lacks 58 = .ok (.ireturn, 1) := by decide +kernel
theorem dX8_cut_0 : decode cX8_cut 0 = .ok (.iload_n 0, 1) := by decide +kernel
theorem dX8_cut_1 : decode cX8_cut 1 = .ok (.ifCond .ne 8, 3) := by decide +kernel
theorem dX8_cut_4 : decode cX8_cut 4 = .ok (.iload_n 1, 1) := by decide +kernel
theorem dX8_cut_5 : decode cX8_cut 5 = .ok (.i2b, 1) := by decide +kernel
theorem dX8_cut_6 : decode cX8_cut 6 = .ok (.goto 14, 3) := by decide +kernel
theorem dX8_cut_9 : decode cX8_cut 9 = .ok (.iload_n 0, 1) := by decide +kernel
theorem dX8_cut_10 : decode cX8_cut 10 = .ok (.iconst 1, 1) := by decide +kernel
theorem dX8_cut_11 : decode cX8_cut 11 = .ok (.if_icmp .ne 8, 3) := by decide +kernel
theorem dX8_cut_14 : decode cX8_cut 14 = .ok (.iload_n 1, 1) := by decide +kernel
theorem dX8_cut_15 : decode cX8_cut 15 = .ok (.i2s, 1) := by decide +kernel
theorem dX8_cut_16 : decode cX8_cut 16 = .ok (.goto 4, 3) := by decide +kernel
theorem dX8_cut_19 : decode cX8_cut 19 = .ok (.iload_n 1, 1) := by decide +kernel
theorem dX8_cut_20 : decode cX8_cut 20 = .ok (.ireturn, 1) := by decide +kernel
theorem dX8_lay_0 : decode cX8_lay 0 = .ok (.iload_n 1, 1) := by decide +kernel
theorem dX8_lay_1 : decode cX8_lay 1 = .ok (.invokestatic 85, 3) := by decide +kernel
theorem dX8_lay_4 : decode cX8_lay 4 = .ok (.ifCond .eq 15, 3) := by decide +kernel
theorem dX8_lay_7 : decode cX8_lay 7 = .ok (.iload_n 2, 1) := by decide +kernel
theorem dX8_lay_8 : decode cX8_lay 8 = .ok (.i2l, 1) := by decide +kernel
theorem dX8_lay_9 : decode cX8_lay 9 = .ok (.lconst 0, 1) := by decide +kernel
theorem dX8_lay_10 : decode cX8_lay 10 = .ok (.ldc2_w 89, 3) := by decide +kernel
theorem dX8_lay_13 : decode cX8_lay 13 = .ok (.invokestatic 76, 3) := by decide +kernel
theorem dX8_lay_16 : decode cX8_lay 16 = .ok (.ifCond .ne 6, 3) := by decide +kernel
theorem dX8_lay_19 : decode cX8_lay 19 = .ok (.bipush (-2), 2) := by decide +kernel
theorem dX8_lay_21 : decode cX8_lay 21 = .ok (.ireturn, 1) := by decide +kernel
theorem dX8_lay_22 : decode cX8_lay 22 = .ok (.aload_n 0, 1) := by decide +kernel
theorem dX8_lay_23 : decode cX8_lay 23 = .ok (.iload_n 1, 1) := by decide +kernel
theorem dX8_lay_24 : decode cX8_lay 24 = .ok (.iload_n 2, 1) := by decide +kernel
theorem dX8_lay_25 : decode cX8_lay 25 = .ok (.iload_n 3, 1) := by decide +kernel
theorem dX8_lay_26 : decode cX8_lay 26 = .ok (.invokevirtual 95, 3) := by decide +kernel
theorem dX8_lay_29 : decode cX8_lay 29 = .ok (.istore 5, 2) := by decide +kernel
theorem dX8_lay_31 : decode cX8_lay 31 = .ok (.iload 5, 2) := by decide +kernel
theorem dX8_lay_33 : decode cX8_lay 33 = .ok (.ifCond .eq 6, 3) := by decide +kernel
theorem dX8_lay_36 : decode cX8_lay 36 = .ok (.iload 5, 2) := by decide +kernel
theorem dX8_lay_38 : decode cX8_lay 38 = .ok (.ireturn, 1) := by decide +kernel
theorem dX8_lay_39 : decode cX8_lay 39 = .ok (.aload_n 0, 1) := by decide +kernel
theorem dX8_lay_40 : decode cX8_lay 40 = .ok (.getfield 16, 3) := by decide +kernel
theorem dX8_lay_43 : decode cX8_lay 43 = .ok (.bipush 60, 2) := by decide +kernel
theorem dX8_lay_45 : decode cX8_lay 45 = .ok (.iload_n 1, 1) := by decide +kernel
theorem dX8_lay_46 : decode cX8_lay 46 = .ok (.imul, 1) := by decide +kernel
theorem dX8_lay_47 : decode cX8_lay 47 = .ok (.iload_n 3, 1) := by decide +kernel
theorem dX8_lay_48 : decode cX8_lay 48 = .ok (.iadd, 1) := by decide +kernel
theorem dX8_lay_49 : decode cX8_lay 49 = .ok (.iload_n 2, 1) := by decide +kernel
theorem dX8_lay_50 : decode cX8_lay 50 = .ok (.iload 4, 2) := by decide +kernel
theorem dX8_lay_52 : decode cX8_lay 52 = .ok (.invokestatic 99, 3) := by decide +kernel
theorem dX8_lay_55 : decode cX8_lay 55 = .ok (.iastore, 1) := by decide +kernel
theorem dX8_lay_56 : decode cX8_lay 56 = .ok (.iconst 1, 1) := by decide +kernel
theorem dX8_lay_57 : decode cX8_lay 57 = .ok (.ireturn, 1) := by decide +kernel
theorem dX8_get_0 : decode cX8_get 0 = .ok (.iload_n 1, 1) := by decide +kernel
theorem dX8_get_1 : decode cX8_get 1 = .ok (.invokestatic 85, 3) := by decide +kernel
theorem dX8_get_4 : decode cX8_get 4 = .ok (.ifCond .eq 25, 3) := by decide +kernel
theorem dX8_get_7 : decode cX8_get 7 = .ok (.iload_n 2, 1) := by decide +kernel
theorem dX8_get_8 : decode cX8_get 8 = .ok (.i2l, 1) := by decide +kernel
theorem dX8_get_9 : decode cX8_get 9 = .ok (.lconst 0, 1) := by decide +kernel
theorem dX8_get_10 : decode cX8_get 10 = .ok (.ldc2_w 89, 3) := by decide +kernel
theorem dX8_get_13 : decode cX8_get 13 = .ok (.invokestatic 76, 3) := by decide +kernel
theorem dX8_get_16 : decode cX8_get 16 = .ok (.ifCond .eq 13, 3) := by decide +kernel
theorem dX8_get_19 : decode cX8_get 19 = .ok (.aload_n 0, 1) := by decide +kernel
theorem dX8_get_20 : decode cX8_get 20 = .ok (.iload_n 1, 1) := by decide +kernel
theorem dX8_get_21 : decode cX8_get 21 = .ok (.iload_n 2, 1) := by decide +kernel
theorem dX8_get_22 : decode cX8_get 22 = .ok (.iload_n 3, 1) := by decide +kernel
theorem dX8_get_23 : decode cX8_get 23 = .ok (.invokevirtual 95, 3) := by decide +kernel
theorem dX8_get_26 : decode cX8_get 26 = .ok (.ifCond .eq 6, 3) := by decide +kernel
theorem dX8_get_29 : decode cX8_get 29 = .ok (.ldc 103, 2) := by decide +kernel
theorem dX8_get_31 : decode cX8_get 31 = .ok (.ireturn, 1) := by decide +kernel
theorem dX8_get_32 : decode cX8_get 32 = .ok (.aload_n 0, 1) := by decide +kernel
theorem dX8_get_33 : decode cX8_get 33 = .ok (.getfield 16, 3) := by decide +kernel
theorem dX8_get_36 : decode cX8_get 36 = .ok (.bipush 60, 2) := by decide +kernel
theorem dX8_get_38 : decode cX8_get 38 = .ok (.iload_n 1, 1) := by decide +kernel
theorem dX8_get_39 : decode cX8_get 39 = .ok (.imul, 1) := by decide +kernel
theorem dX8_get_40 : decode cX8_get 40 = .ok (.iload_n 3, 1) := by decide +kernel
theorem dX8_get_41 : decode cX8_get 41 = .ok (.iadd, 1) := by decide +kernel
theorem dX8_get_42 : decode cX8_get 42 = .ok (.iaload, 1) := by decide +kernel
theorem dX8_get_43 : decode cX8_get 43 = .ok (.ireturn, 1) := by decide +kernel
theorem dX8_copy_0 : decode cX8_copy 0 = .ok (.iload_n 1, 1) := by decide +kernel
theorem dX8_copy_1 : decode cX8_copy 1 = .ok (.invokestatic 85, 3) := by decide +kernel
theorem dX8_copy_4 : decode cX8_copy 4 = .ok (.ifCond .eq 10, 3) := by decide +kernel
theorem dX8_copy_7 : decode cX8_copy 7 = .ok (.iload_n 3, 1) := by decide +kernel
theorem dX8_copy_8 : decode cX8_copy 8 = .ok (.invokestatic 85, 3) := by decide +kernel
theorem dX8_copy_11 : decode cX8_copy 11 = .ok (.ifCond .ne 6, 3) := by decide +kernel
theorem dX8_copy_14 : decode cX8_copy 14 = .ok (.bipush (-2), 2) := by decide +kernel
theorem dX8_copy_16 : decode cX8_copy 16 = .ok (.ireturn, 1) := by decide +kernel
theorem dX8_copy_17 : decode cX8_copy 17 = .ok (.aload_n 0, 1) := by decide +kernel
theorem dX8_copy_18 : decode cX8_copy 18 = .ok (.getfield 7, 3) := by decide +kernel
theorem dX8_copy_21 : decode cX8_copy 21 = .ok (.iload_n 1, 1) := by decide +kernel
theorem dX8_copy_22 : decode cX8_copy 22 = .ok (.iaload, 1) := by decide +kernel
theorem dX8_copy_23 : decode cX8_copy 23 = .ok (.ifCond .lt 12, 3) := by decide +kernel
theorem dX8_copy_26 : decode cX8_copy 26 = .ok (.aload_n 0, 1) := by decide +kernel
theorem dX8_copy_27 : decode cX8_copy 27 = .ok (.getfield 7, 3) := by decide +kernel
theorem dX8_copy_30 : decode cX8_copy 30 = .ok (.iload_n 3, 1) := by decide +kernel
theorem dX8_copy_31 : decode cX8_copy 31 = .ok (.iaload, 1) := by decide +kernel
theorem dX8_copy_32 : decode cX8_copy 32 = .ok (.ifCond .ge 9, 3) := by decide +kernel
theorem dX8_copy_35 : decode cX8_copy 35 = .ok (.aload_n 0, 1) := by decide +kernel
theorem dX8_copy_36 : decode cX8_copy 36 = .ok (.iconst 1, 1) := by decide +kernel
theorem dX8_copy_37 : decode cX8_copy 37 = .ok (.invokevirtual 91, 3) := by decide +kernel
theorem dX8_copy_40 : decode cX8_copy 40 = .ok (.ireturn, 1) := by decide +kernel
theorem dX8_copy_41 : decode cX8_copy 41 = .ok (.aload_n 0, 1) := by decide +kernel
theorem dX8_copy_42 : decode cX8_copy 42 = .ok (.getfield 7, 3) := by decide +kernel
theorem dX8_copy_45 : decode cX8_copy 45 = .ok (.iload_n 1, 1) := by decide +kernel
theorem dX8_copy_46 : decode cX8_copy 46 = .ok (.iaload, 1) := by decide +kernel
theorem dX8_copy_47 : decode cX8_copy 47 = .ok (.aload_n 0, 1) := by decide +kernel
theorem dX8_copy_48 : decode cX8_copy 48 = .ok (.getfield 7, 3) := by decide +kernel
theorem dX8_copy_51 : decode cX8_copy 51 = .ok (.iload_n 3, 1) := by decide +kernel
theorem dX8_copy_52 : decode cX8_copy 52 = .ok (.iaload, 1) := by decide +kernel
theorem dX8_copy_53 : decode cX8_copy 53 = .ok (.if_icmp .eq 9, 3) := by decide +kernel
theorem dX8_copy_56 : decode cX8_copy 56 = .ok (.aload_n 0, 1) := by decide +kernel
theorem dX8_copy_57 : decode cX8_copy 57 = .ok (.iconst 4, 1) := by decide +kernel
theorem dX8_copy_58 : decode cX8_copy 58 = .ok (.invokevirtual 91, 3) := by decide +kernel
theorem dX8_copy_61 : decode cX8_copy 61 = .ok (.ireturn, 1) := by decide +kernel
theorem dX8_copy_62 : decode cX8_copy 62 = .ok (.iload_n 2, 1) := by decide +kernel
theorem dX8_copy_63 : decode cX8_copy 63 = .ok (.ifCond .lt 48, 3) := by decide +kernel
theorem dX8_copy_66 : decode cX8_copy 66 = .ok (.iload 4, 2) := by decide +kernel
theorem dX8_copy_68 : decode cX8_copy 68 = .ok (.ifCond .lt 43, 3) := by decide +kernel
theorem dX8_copy_71 : decode cX8_copy 71 = .ok (.iload 5, 2) := by decide +kernel
theorem dX8_copy_73 : decode cX8_copy 73 = .ok (.ifCond .lt 38, 3) := by decide +kernel
theorem dX8_copy_76 : decode cX8_copy 76 = .ok (.iload_n 2, 1) := by decide +kernel
theorem dX8_copy_77 : decode cX8_copy 77 = .ok (.i2l, 1) := by decide +kernel
theorem dX8_copy_78 : decode cX8_copy 78 = .ok (.iload 5, 2) := by decide +kernel
theorem dX8_copy_80 : decode cX8_copy 80 = .ok (.i2l, 1) := by decide +kernel
theorem dX8_copy_81 : decode cX8_copy 81 = .ok (.ladd, 1) := by decide +kernel
theorem dX8_copy_82 : decode cX8_copy 82 = .ok (.aload_n 0, 1) := by decide +kernel
theorem dX8_copy_83 : decode cX8_copy 83 = .ok (.getfield 13, 3) := by decide +kernel
theorem dX8_copy_86 : decode cX8_copy 86 = .ok (.iload_n 1, 1) := by decide +kernel
theorem dX8_copy_87 : decode cX8_copy 87 = .ok (.iaload, 1) := by decide +kernel
theorem dX8_copy_88 : decode cX8_copy 88 = .ok (.i2l, 1) := by decide +kernel
theorem dX8_copy_89 : decode cX8_copy 89 = .ok (.lcmp, 1) := by decide +kernel
theorem dX8_copy_90 : decode cX8_copy 90 = .ok (.ifCond .gt 21, 3) := by decide +kernel
theorem dX8_copy_93 : decode cX8_copy 93 = .ok (.iload 4, 2) := by decide +kernel
theorem dX8_copy_95 : decode cX8_copy 95 = .ok (.i2l, 1) := by decide +kernel
theorem dX8_copy_96 : decode cX8_copy 96 = .ok (.iload 5, 2) := by decide +kernel
theorem dX8_copy_98 : decode cX8_copy 98 = .ok (.i2l, 1) := by decide +kernel
theorem dX8_copy_99 : decode cX8_copy 99 = .ok (.ladd, 1) := by decide +kernel
theorem dX8_copy_100 : decode cX8_copy 100 = .ok (.aload_n 0, 1) := by decide +kernel
theorem dX8_copy_101 : decode cX8_copy 101 = .ok (.getfield 13, 3) := by decide +kernel
theorem dX8_copy_104 : decode cX8_copy 104 = .ok (.iload_n 3, 1) := by decide +kernel
theorem dX8_copy_105 : decode cX8_copy 105 = .ok (.iaload, 1) := by decide +kernel
theorem dX8_copy_106 : decode cX8_copy 106 = .ok (.i2l, 1) := by decide +kernel
theorem dX8_copy_107 : decode cX8_copy 107 = .ok (.lcmp, 1) := by decide +kernel
theorem dX8_copy_108 : decode cX8_copy 108 = .ok (.ifCond .le 9, 3) := by decide +kernel
theorem dX8_copy_111 : decode cX8_copy 111 = .ok (.aload_n 0, 1) := by decide +kernel
theorem dX8_copy_112 : decode cX8_copy 112 = .ok (.iconst 2, 1) := by decide +kernel
theorem dX8_copy_113 : decode cX8_copy 113 = .ok (.invokevirtual 91, 3) := by decide +kernel
theorem dX8_copy_116 : decode cX8_copy 116 = .ok (.ireturn, 1) := by decide +kernel
theorem dX8_copy_117 : decode cX8_copy 117 = .ok (.iconst 0, 1) := by decide +kernel
theorem dX8_copy_118 : decode cX8_copy 118 = .ok (.istore 6, 2) := by decide +kernel
theorem dX8_copy_120 : decode cX8_copy 120 = .ok (.iload 6, 2) := by decide +kernel
theorem dX8_copy_122 : decode cX8_copy 122 = .ok (.iload 5, 2) := by decide +kernel
theorem dX8_copy_124 : decode cX8_copy 124 = .ok (.if_icmp .ge 30, 3) := by decide +kernel
theorem dX8_copy_127 : decode cX8_copy 127 = .ok (.aload_n 0, 1) := by decide +kernel
theorem dX8_copy_128 : decode cX8_copy 128 = .ok (.getfield 19, 3) := by decide +kernel
theorem dX8_copy_131 : decode cX8_copy 131 = .ok (.iload 6, 2) := by decide +kernel
theorem dX8_copy_133 : decode cX8_copy 133 = .ok (.aload_n 0, 1) := by decide +kernel
theorem dX8_copy_134 : decode cX8_copy 134 = .ok (.getfield 16, 3) := by decide +kernel
theorem dX8_copy_137 : decode cX8_copy 137 = .ok (.bipush 60, 2) := by decide +kernel
theorem dX8_copy_139 : decode cX8_copy 139 = .ok (.iload_n 1, 1) := by decide +kernel
theorem dX8_copy_140 : decode cX8_copy 140 = .ok (.imul, 1) := by decide +kernel
theorem dX8_copy_141 : decode cX8_copy 141 = .ok (.iload_n 2, 1) := by decide +kernel
theorem dX8_copy_142 : decode cX8_copy 142 = .ok (.iadd, 1) := by decide +kernel
theorem dX8_copy_143 : decode cX8_copy 143 = .ok (.iload 6, 2) := by decide +kernel
theorem dX8_copy_145 : decode cX8_copy 145 = .ok (.iadd, 1) := by decide +kernel
theorem dX8_copy_146 : decode cX8_copy 146 = .ok (.iaload, 1) := by decide +kernel
theorem dX8_copy_147 : decode cX8_copy 147 = .ok (.iastore, 1) := by decide +kernel
theorem dX8_copy_148 : decode cX8_copy 148 = .ok (.iinc 6 1, 3) := by decide +kernel
theorem dX8_copy_151 : decode cX8_copy 151 = .ok (.goto (-31), 3) := by decide +kernel
theorem dX8_copy_154 : decode cX8_copy 154 = .ok (.iconst 0, 1) := by decide +kernel
theorem dX8_copy_155 : decode cX8_copy 155 = .ok (.istore 6, 2) := by decide +kernel
theorem dX8_copy_157 : decode cX8_copy 157 = .ok (.iload 6, 2) := by decide +kernel
theorem dX8_copy_159 : decode cX8_copy 159 = .ok (.iload 5, 2) := by decide +kernel
theorem dX8_copy_161 : decode cX8_copy 161 = .ok (.if_icmp .ge 31, 3) := by decide +kernel
theorem dX8_copy_164 : decode cX8_copy 164 = .ok (.aload_n 0, 1) := by decide +kernel
theorem dX8_copy_165 : decode cX8_copy 165 = .ok (.getfield 16, 3) := by decide +kernel
theorem dX8_copy_168 : decode cX8_copy 168 = .ok (.bipush 60, 2) := by decide +kernel
theorem dX8_copy_170 : decode cX8_copy 170 = .ok (.iload_n 3, 1) := by decide +kernel
theorem dX8_copy_171 : decode cX8_copy 171 = .ok (.imul, 1) := by decide +kernel
theorem dX8_copy_172 : decode cX8_copy 172 = .ok (.iload 4, 2) := by decide +kernel
theorem dX8_copy_174 : decode cX8_copy 174 = .ok (.iadd, 1) := by decide +kernel
theorem dX8_copy_175 : decode cX8_copy 175 = .ok (.iload 6, 2) := by decide +kernel
theorem dX8_copy_177 : decode cX8_copy 177 = .ok (.iadd, 1) := by decide +kernel
theorem dX8_copy_178 : decode cX8_copy 178 = .ok (.aload_n 0, 1) := by decide +kernel
theorem dX8_copy_179 : decode cX8_copy 179 = .ok (.getfield 19, 3) := by decide +kernel
theorem dX8_copy_182 : decode cX8_copy 182 = .ok (.iload 6, 2) := by decide +kernel
theorem dX8_copy_184 : decode cX8_copy 184 = .ok (.iaload, 1) := by decide +kernel
theorem dX8_copy_185 : decode cX8_copy 185 = .ok (.iastore, 1) := by decide +kernel
theorem dX8_copy_186 : decode cX8_copy 186 = .ok (.iinc 6 1, 3) := by decide +kernel
theorem dX8_copy_189 : decode cX8_copy 189 = .ok (.goto (-32), 3) := by decide +kernel
theorem dX8_copy_192 : decode cX8_copy 192 = .ok (.iconst 1, 1) := by decide +kernel
theorem dX8_copy_193 : decode cX8_copy 193 = .ok (.ireturn, 1) := by decide +kernel
theorem dX8_type_0 : decode cX8_type 0 = .ok (.iload_n 1, 1) := by decide +kernel
theorem dX8_type_1 : decode cX8_type 1 = .ok (.invokestatic 104, 3) := by decide +kernel
theorem dX8_type_4 : decode cX8_type 4 = .ok (.ifCond .eq 15, 3) := by decide +kernel
theorem dX8_type_7 : decode cX8_type 7 = .ok (.iload_n 2, 1) := by decide +kernel
theorem dX8_type_8 : decode cX8_type 8 = .ok (.i2l, 1) := by decide +kernel
theorem dX8_type_9 : decode cX8_type 9 = .ok (.lconst 0, 1) := by decide +kernel
theorem dX8_type_10 : decode cX8_type 10 = .ok (.ldc2_w 107, 3) := by decide +kernel
theorem dX8_type_13 : decode cX8_type 13 = .ok (.invokestatic 76, 3) := by decide +kernel
theorem dX8_type_16 : decode cX8_type 16 = .ok (.ifCond .ne 6, 3) := by decide +kernel
theorem dX8_type_19 : decode cX8_type 19 = .ok (.bipush (-2), 2) := by decide +kernel
theorem dX8_type_21 : decode cX8_type 21 = .ok (.ireturn, 1) := by decide +kernel
theorem dX8_type_22 : decode cX8_type 22 = .ok (.aload_n 0, 1) := by decide +kernel
theorem dX8_type_23 : decode cX8_type 23 = .ok (.getfield 25, 3) := by decide +kernel
theorem dX8_type_26 : decode cX8_type 26 = .ok (.iload_n 1, 1) := by decide +kernel
theorem dX8_type_27 : decode cX8_type 27 = .ok (.iaload, 1) := by decide +kernel
theorem dX8_type_28 : decode cX8_type 28 = .ok (.iload_n 1, 1) := by decide +kernel
theorem dX8_type_29 : decode cX8_type 29 = .ok (.ifCond .ne 8, 3) := by decide +kernel
theorem dX8_type_32 : decode cX8_type 32 = .ok (.bipush 39, 2) := by decide +kernel
theorem dX8_type_34 : decode cX8_type 34 = .ok (.goto 5, 3) := by decide +kernel
theorem dX8_type_37 : decode cX8_type 37 = .ok (.bipush 16, 2) := by decide +kernel
theorem dX8_type_39 : decode cX8_type 39 = .ok (.if_icmp .ne 6, 3) := by decide +kernel
theorem dX8_type_42 : decode cX8_type 42 = .ok (.bipush (-4), 2) := by decide +kernel
theorem dX8_type_44 : decode cX8_type 44 = .ok (.ireturn, 1) := by decide +kernel
theorem dX8_type_45 : decode cX8_type 45 = .ok (.aload_n 0, 1) := by decide +kernel
theorem dX8_type_46 : decode cX8_type 46 = .ok (.getfield 22, 3) := by decide +kernel
theorem dX8_type_49 : decode cX8_type 49 = .ok (.bipush 40, 2) := by decide +kernel
theorem dX8_type_51 : decode cX8_type 51 = .ok (.iload_n 1, 1) := by decide +kernel
theorem dX8_type_52 : decode cX8_type 52 = .ok (.imul, 1) := by decide +kernel
theorem dX8_type_53 : decode cX8_type 53 = .ok (.aload_n 0, 1) := by decide +kernel
theorem dX8_type_54 : decode cX8_type 54 = .ok (.getfield 25, 3) := by decide +kernel
theorem dX8_type_57 : decode cX8_type 57 = .ok (.iload_n 1, 1) := by decide +kernel
theorem dX8_type_58 : decode cX8_type 58 = .ok (.iaload, 1) := by decide +kernel
theorem dX8_type_59 : decode cX8_type 59 = .ok (.iadd, 1) := by decide +kernel
theorem dX8_type_60 : decode cX8_type 60 = .ok (.iload_n 2, 1) := by decide +kernel
theorem dX8_type_61 : decode cX8_type 61 = .ok (.iastore, 1) := by decide +kernel
theorem dX8_type_62 : decode cX8_type 62 = .ok (.aload_n 0, 1) := by decide +kernel
theorem dX8_type_63 : decode cX8_type 63 = .ok (.getfield 25, 3) := by decide +kernel
theorem dX8_type_66 : decode cX8_type 66 = .ok (.iload_n 1, 1) := by decide +kernel
theorem dX8_type_67 : decode cX8_type 67 = .ok (.dup2, 1) := by decide +kernel
theorem dX8_type_68 : decode cX8_type 68 = .ok (.iaload, 1) := by decide +kernel
theorem dX8_type_69 : decode cX8_type 69 = .ok (.iconst 1, 1) := by decide +kernel
theorem dX8_type_70 : decode cX8_type 70 = .ok (.iadd, 1) := by decide +kernel
theorem dX8_type_71 : decode cX8_type 71 = .ok (.iastore, 1) := by decide +kernel
theorem dX8_type_72 : decode cX8_type 72 = .ok (.aload_n 0, 1) := by decide +kernel
theorem dX8_type_73 : decode cX8_type 73 = .ok (.getfield 25, 3) := by decide +kernel
theorem dX8_type_76 : decode cX8_type 76 = .ok (.iload_n 1, 1) := by decide +kernel
theorem dX8_type_77 : decode cX8_type 77 = .ok (.iaload, 1) := by decide +kernel
theorem dX8_type_78 : decode cX8_type 78 = .ok (.ireturn, 1) := by decide +kernel
theorem dX8_wipe_0 : decode cX8_wipe 0 = .ok (.iload_n 1, 1) := by decide +kernel
theorem dX8_wipe_1 : decode cX8_wipe 1 = .ok (.invokestatic 104, 3) := by decide +kernel
theorem dX8_wipe_4 : decode cX8_wipe 4 = .ok (.ifCond .ne 6, 3) := by decide +kernel
theorem dX8_wipe_7 : decode cX8_wipe 7 = .ok (.bipush (-2), 2) := by decide +kernel
theorem dX8_wipe_9 : decode cX8_wipe 9 = .ok (.ireturn, 1) := by decide +kernel
theorem dX8_wipe_10 : decode cX8_wipe 10 = .ok (.aload_n 0, 1) := by decide +kernel
theorem dX8_wipe_11 : decode cX8_wipe 11 = .ok (.getfield 25, 3) := by decide +kernel
theorem dX8_wipe_14 : decode cX8_wipe 14 = .ok (.iload_n 1, 1) := by decide +kernel
theorem dX8_wipe_15 : decode cX8_wipe 15 = .ok (.iaload, 1) := by decide +kernel
theorem dX8_wipe_16 : decode cX8_wipe 16 = .ok (.istore_n 2, 1) := by decide +kernel
theorem dX8_wipe_17 : decode cX8_wipe 17 = .ok (.aload_n 0, 1) := by decide +kernel
theorem dX8_wipe_18 : decode cX8_wipe 18 = .ok (.getfield 25, 3) := by decide +kernel
theorem dX8_wipe_21 : decode cX8_wipe 21 = .ok (.iload_n 1, 1) := by decide +kernel
theorem dX8_wipe_22 : decode cX8_wipe 22 = .ok (.iconst 0, 1) := by decide +kernel
theorem dX8_wipe_23 : decode cX8_wipe 23 = .ok (.iastore, 1) := by decide +kernel
theorem dX8_wipe_24 : decode cX8_wipe 24 = .ok (.iload_n 2, 1) := by decide +kernel
theorem dX8_wipe_25 : decode cX8_wipe 25 = .ok (.ireturn, 1) := by decide +kernel
theorem dX8_undo_0 : decode cX8_undo 0 = .ok (.iload_n 1, 1) := by decide +kernel
theorem dX8_undo_1 : decode cX8_undo 1 = .ok (.invokestatic 104, 3) := by decide +kernel
theorem dX8_undo_4 : decode cX8_undo 4 = .ok (.ifCond .ne 6, 3) := by decide +kernel
theorem dX8_undo_7 : decode cX8_undo 7 = .ok (.bipush (-2), 2) := by decide +kernel
theorem dX8_undo_9 : decode cX8_undo 9 = .ok (.ireturn, 1) := by decide +kernel
theorem dX8_undo_10 : decode cX8_undo 10 = .ok (.aload_n 0, 1) := by decide +kernel
theorem dX8_undo_11 : decode cX8_undo 11 = .ok (.getfield 25, 3) := by decide +kernel
theorem dX8_undo_14 : decode cX8_undo 14 = .ok (.iload_n 1, 1) := by decide +kernel
theorem dX8_undo_15 : decode cX8_undo 15 = .ok (.iaload, 1) := by decide +kernel
theorem dX8_undo_16 : decode cX8_undo 16 = .ok (.ifCond .ne 6, 3) := by decide +kernel
theorem dX8_undo_19 : decode cX8_undo 19 = .ok (.bipush (-3), 2) := by decide +kernel
theorem dX8_undo_21 : decode cX8_undo 21 = .ok (.ireturn, 1) := by decide +kernel
theorem dX8_undo_22 : decode cX8_undo 22 = .ok (.aload_n 0, 1) := by decide +kernel
theorem dX8_undo_23 : decode cX8_undo 23 = .ok (.getfield 25, 3) := by decide +kernel
theorem dX8_undo_26 : decode cX8_undo 26 = .ok (.iload_n 1, 1) := by decide +kernel
theorem dX8_undo_27 : decode cX8_undo 27 = .ok (.dup2, 1) := by decide +kernel
theorem dX8_undo_28 : decode cX8_undo 28 = .ok (.iaload, 1) := by decide +kernel
theorem dX8_undo_29 : decode cX8_undo 29 = .ok (.iconst 1, 1) := by decide +kernel
theorem dX8_undo_30 : decode cX8_undo 30 = .ok (.isub, 1) := by decide +kernel
theorem dX8_undo_31 : decode cX8_undo 31 = .ok (.iastore, 1) := by decide +kernel
theorem dX8_undo_32 : decode cX8_undo 32 = .ok (.aload_n 0, 1) := by decide +kernel
theorem dX8_undo_33 : decode cX8_undo 33 = .ok (.getfield 25, 3) := by decide +kernel
theorem dX8_undo_36 : decode cX8_undo 36 = .ok (.iload_n 1, 1) := by decide +kernel
theorem dX8_undo_37 : decode cX8_undo 37 = .ok (.iaload, 1) := by decide +kernel
theorem dX8_undo_38 : decode cX8_undo 38 = .ok (.ireturn, 1) := by decide +kernel
theorem dX8_letterOf_0 : decode cX8_letterOf 0 = .ok (.iload_n 0, 1) := by decide +kernel
theorem dX8_letterOf_1 : decode cX8_letterOf 1 = .ok (.i2l, 1) := by decide +kernel
theorem dX8_letterOf_2 : decode cX8_letterOf 2 = .ok (.ldc2_w 109, 3) := by decide +kernel
theorem dX8_letterOf_5 : decode cX8_letterOf 5 = .ok (.ldc2_w 111, 3) := by decide +kernel
theorem dX8_letterOf_8 : decode cX8_letterOf 8 = .ok (.invokestatic 76, 3) := by decide +kernel
theorem dX8_letterOf_11 : decode cX8_letterOf 11 = .ok (.ifCond .eq 10, 3) := by decide +kernel
theorem dX8_letterOf_14 : decode cX8_letterOf 14 = .ok (.iload_n 0, 1) := by decide +kernel
theorem dX8_letterOf_15 : decode cX8_letterOf 15 = .ok (.bipush 97, 2) := by decide +kernel
theorem dX8_letterOf_17 : decode cX8_letterOf 17 = .ok (.isub, 1) := by decide +kernel
theorem dX8_letterOf_18 : decode cX8_letterOf 18 = .ok (.goto 5, 3) := by decide +kernel
theorem dX8_letterOf_21 : decode cX8_letterOf 21 = .ok (.bipush (-9), 2) := by decide +kernel
theorem dX8_letterOf_23 : decode cX8_letterOf 23 = .ok (.ireturn, 1) := by decide +kernel
theorem dX8_riderOf_0 : decode cX8_riderOf 0 = .ok (.iload_n 0, 1) := by decide +kernel
theorem dX8_riderOf_1 : decode cX8_riderOf 1 = .ok (.iconst 4, 1) := by decide +kernel
theorem dX8_riderOf_2 : decode cX8_riderOf 2 = .ok (.if_icmp .ne 16, 3) := by decide +kernel
theorem dX8_riderOf_5 : decode cX8_riderOf 5 = .ok (.iload_n 1, 1) := by decide +kernel
theorem dX8_riderOf_6 : decode cX8_riderOf 6 = .ok (.bipush 59, 2) := by decide +kernel
theorem dX8_riderOf_8 : decode cX8_riderOf 8 = .ok (.if_icmp .ne 7, 3) := by decide +kernel
theorem dX8_riderOf_11 : decode cX8_riderOf 11 = .ok (.iconst 0, 1) := by decide +kernel
theorem dX8_riderOf_12 : decode cX8_riderOf 12 = .ok (.goto 5, 3) := by decide +kernel
theorem dX8_riderOf_15 : decode cX8_riderOf 15 = .ok (.bipush (-9), 2) := by decide +kernel
theorem dX8_riderOf_17 : decode cX8_riderOf 17 = .ok (.ireturn, 1) := by decide +kernel
theorem dX8_riderOf_18 : decode cX8_riderOf 18 = .ok (.iload_n 0, 1) := by decide +kernel
theorem dX8_riderOf_19 : decode cX8_riderOf 19 = .ok (.ifCond .eq 8, 3) := by decide +kernel
theorem dX8_riderOf_22 : decode cX8_riderOf 22 = .ok (.iload_n 0, 1) := by decide +kernel
theorem dX8_riderOf_23 : decode cX8_riderOf 23 = .ok (.iconst 3, 1) := by decide +kernel
theorem dX8_riderOf_24 : decode cX8_riderOf 24 = .ok (.if_icmp .ne 10, 3) := by decide +kernel
theorem dX8_riderOf_27 : decode cX8_riderOf 27 = .ok (.iload_n 1, 1) := by decide +kernel
theorem dX8_riderOf_28 : decode cX8_riderOf 28 = .ok (.invokestatic 113, 3) := by decide +kernel
theorem dX8_riderOf_31 : decode cX8_riderOf 31 = .ok (.goto 26, 3) := by decide +kernel
theorem dX8_riderOf_34 : decode cX8_riderOf 34 = .ok (.iload_n 1, 1) := by decide +kernel
theorem dX8_riderOf_35 : decode cX8_riderOf 35 = .ok (.i2l, 1) := by decide +kernel
theorem dX8_riderOf_36 : decode cX8_riderOf 36 = .ok (.ldc2_w 116, 3) := by decide +kernel
theorem dX8_riderOf_39 : decode cX8_riderOf 39 = .ok (.ldc2_w 118, 3) := by decide +kernel
theorem dX8_riderOf_42 : decode cX8_riderOf 42 = .ok (.invokestatic 76, 3) := by decide +kernel
theorem dX8_riderOf_45 : decode cX8_riderOf 45 = .ok (.ifCond .eq 10, 3) := by decide +kernel
theorem dX8_riderOf_48 : decode cX8_riderOf 48 = .ok (.iload_n 1, 1) := by decide +kernel
theorem dX8_riderOf_49 : decode cX8_riderOf 49 = .ok (.bipush 48, 2) := by decide +kernel
theorem dX8_riderOf_51 : decode cX8_riderOf 51 = .ok (.isub, 1) := by decide +kernel
theorem dX8_riderOf_52 : decode cX8_riderOf 52 = .ok (.goto 5, 3) := by decide +kernel
theorem dX8_riderOf_55 : decode cX8_riderOf 55 = .ok (.bipush (-9), 2) := by decide +kernel
theorem dX8_riderOf_57 : decode cX8_riderOf 57 = .ok (.ireturn, 1) := by decide +kernel
theorem dX8_readsRiders_0 : decode cX8_readsRiders 0 = .ok (.aload_n 0, 1) := by decide +kernel
theorem dX8_readsRiders_1 : decode cX8_readsRiders 1 = .ok (.iconst 0, 1) := by decide +kernel
theorem dX8_readsRiders_2 : decode cX8_readsRiders 2 = .ok (.putfield 120, 3) := by decide +kernel
theorem dX8_readsRiders_5 : decode cX8_readsRiders 5 = .ok (.aload_n 0, 1) := by decide +kernel
theorem dX8_readsRiders_6 : decode cX8_readsRiders 6 = .ok (.getfield 25, 3) := by decide +kernel
theorem dX8_readsRiders_9 : decode cX8_readsRiders 9 = .ok (.iconst 0, 1) := by decide +kernel
theorem dX8_readsRiders_10 : decode cX8_readsRiders 10 = .ok (.iaload, 1) := by decide +kernel
theorem dX8_readsRiders_11 : decode cX8_readsRiders 11 = .ok (.istore_n 1, 1) := by decide +kernel
theorem dX8_readsRiders_12 : decode cX8_readsRiders 12 = .ok (.iconst 0, 1) := by decide +kernel
theorem dX8_readsRiders_13 : decode cX8_readsRiders 13 = .ok (.istore_n 2, 1) := by decide +kernel
theorem dX8_readsRiders_14 : decode cX8_readsRiders 14 = .ok (.iload_n 2, 1) := by decide +kernel
theorem dX8_readsRiders_15 : decode cX8_readsRiders 15 = .ok (.iload_n 1, 1) := by decide +kernel
theorem dX8_readsRiders_16 : decode cX8_readsRiders 16 = .ok (.if_icmp .ge 77, 3) := by decide +kernel
theorem dX8_readsRiders_19 : decode cX8_readsRiders 19 = .ok (.iload_n 2, 1) := by decide +kernel
theorem dX8_readsRiders_20 : decode cX8_readsRiders 20 = .ok (.iconst 5, 1) := by decide +kernel
theorem dX8_readsRiders_21 : decode cX8_readsRiders 21 = .ok (.irem, 1) := by decide +kernel
theorem dX8_readsRiders_22 : decode cX8_readsRiders 22 = .ok (.istore_n 3, 1) := by decide +kernel
theorem dX8_readsRiders_23 : decode cX8_readsRiders 23 = .ok (.iload_n 3, 1) := by decide +kernel
theorem dX8_readsRiders_24 : decode cX8_readsRiders 24 = .ok (.aload_n 0, 1) := by decide +kernel
theorem dX8_readsRiders_25 : decode cX8_readsRiders 25 = .ok (.getfield 22, 3) := by decide +kernel
theorem dX8_readsRiders_28 : decode cX8_readsRiders 28 = .ok (.iload_n 2, 1) := by decide +kernel
theorem dX8_readsRiders_29 : decode cX8_readsRiders 29 = .ok (.iaload, 1) := by decide +kernel
theorem dX8_readsRiders_30 : decode cX8_readsRiders 30 = .ok (.invokestatic 123, 3) := by decide +kernel
theorem dX8_readsRiders_33 : decode cX8_readsRiders 33 = .ok (.istore 4, 2) := by decide +kernel
theorem dX8_readsRiders_35 : decode cX8_readsRiders 35 = .ok (.iload 4, 2) := by decide +kernel
theorem dX8_readsRiders_37 : decode cX8_readsRiders 37 = .ok (.bipush (-9), 2) := by decide +kernel
theorem dX8_readsRiders_39 : decode cX8_readsRiders 39 = .ok (.if_icmp .ne 10, 3) := by decide +kernel
theorem dX8_readsRiders_42 : decode cX8_readsRiders 42 = .ok (.aload_n 0, 1) := by decide +kernel
theorem dX8_readsRiders_43 : decode cX8_readsRiders 43 = .ok (.iconst 0, 1) := by decide +kernel
theorem dX8_readsRiders_44 : decode cX8_readsRiders 44 = .ok (.putfield 120, 3) := by decide +kernel
theorem dX8_readsRiders_47 : decode cX8_readsRiders 47 = .ok (.iload_n 2, 1) := by decide +kernel
theorem dX8_readsRiders_48 : decode cX8_readsRiders 48 = .ok (.ireturn, 1) := by decide +kernel
theorem dX8_readsRiders_49 : decode cX8_readsRiders 49 = .ok (.iload_n 3, 1) := by decide +kernel
theorem dX8_readsRiders_50 : decode cX8_readsRiders 50 = .ok (.iconst 4, 1) := by decide +kernel
theorem dX8_readsRiders_51 : decode cX8_readsRiders 51 = .ok (.if_icmp .ge 17, 3) := by decide +kernel
theorem dX8_readsRiders_54 : decode cX8_readsRiders 54 = .ok (.aload_n 0, 1) := by decide +kernel
theorem dX8_readsRiders_55 : decode cX8_readsRiders 55 = .ok (.getfield 28, 3) := by decide +kernel
theorem dX8_readsRiders_58 : decode cX8_readsRiders 58 = .ok (.iconst 4, 1) := by decide +kernel
theorem dX8_readsRiders_59 : decode cX8_readsRiders 59 = .ok (.iload_n 2, 1) := by decide +kernel
theorem dX8_readsRiders_60 : decode cX8_readsRiders 60 = .ok (.iconst 5, 1) := by decide +kernel
theorem dX8_readsRiders_61 : decode cX8_readsRiders 61 = .ok (.idiv, 1) := by decide +kernel
theorem dX8_readsRiders_62 : decode cX8_readsRiders 62 = .ok (.imul, 1) := by decide +kernel
theorem dX8_readsRiders_63 : decode cX8_readsRiders 63 = .ok (.iload_n 3, 1) := by decide +kernel
theorem dX8_readsRiders_64 : decode cX8_readsRiders 64 = .ok (.iadd, 1) := by decide +kernel
theorem dX8_readsRiders_65 : decode cX8_readsRiders 65 = .ok (.iload 4, 2) := by decide +kernel
theorem dX8_readsRiders_67 : decode cX8_readsRiders 67 = .ok (.iastore, 1) := by decide +kernel
theorem dX8_readsRiders_68 : decode cX8_readsRiders 68 = .ok (.aload_n 0, 1) := by decide +kernel
theorem dX8_readsRiders_69 : decode cX8_readsRiders 69 = .ok (.dup, 1) := by decide +kernel
theorem dX8_readsRiders_70 : decode cX8_readsRiders 70 = .ok (.getfield 120, 3) := by decide +kernel
theorem dX8_readsRiders_73 : decode cX8_readsRiders 73 = .ok (.iload_n 3, 1) := by decide +kernel
theorem dX8_readsRiders_74 : decode cX8_readsRiders 74 = .ok (.iconst 3, 1) := by decide +kernel
theorem dX8_readsRiders_75 : decode cX8_readsRiders 75 = .ok (.if_icmp .ne 7, 3) := by decide +kernel
theorem dX8_readsRiders_78 : decode cX8_readsRiders 78 = .ok (.iconst 1, 1) := by decide +kernel
theorem dX8_readsRiders_79 : decode cX8_readsRiders 79 = .ok (.goto 4, 3) := by decide +kernel
theorem dX8_readsRiders_82 : decode cX8_readsRiders 82 = .ok (.iconst 0, 1) := by decide +kernel
theorem dX8_readsRiders_83 : decode cX8_readsRiders 83 = .ok (.iadd, 1) := by decide +kernel
theorem dX8_readsRiders_84 : decode cX8_readsRiders 84 = .ok (.putfield 120, 3) := by decide +kernel
theorem dX8_readsRiders_87 : decode cX8_readsRiders 87 = .ok (.iinc 2 1, 3) := by decide +kernel
theorem dX8_readsRiders_90 : decode cX8_readsRiders 90 = .ok (.goto (-76), 3) := by decide +kernel
theorem dX8_readsRiders_93 : decode cX8_readsRiders 93 = .ok (.iload_n 1, 1) := by decide +kernel
theorem dX8_readsRiders_94 : decode cX8_readsRiders 94 = .ok (.ifCond .le 17, 3) := by decide +kernel
theorem dX8_readsRiders_97 : decode cX8_readsRiders 97 = .ok (.iload_n 1, 1) := by decide +kernel
theorem dX8_readsRiders_98 : decode cX8_readsRiders 98 = .ok (.iconst 5, 1) := by decide +kernel
theorem dX8_readsRiders_99 : decode cX8_readsRiders 99 = .ok (.irem, 1) := by decide +kernel
theorem dX8_readsRiders_100 : decode cX8_readsRiders 100 = .ok (.iconst 4, 1) := by decide +kernel
theorem dX8_readsRiders_101 : decode cX8_readsRiders 101 = .ok (.if_icmp .eq 10, 3) := by decide +kernel
theorem dX8_readsRiders_104 : decode cX8_readsRiders 104 = .ok (.aload_n 0, 1) := by decide +kernel
theorem dX8_readsRiders_105 : decode cX8_readsRiders 105 = .ok (.iconst 0, 1) := by decide +kernel
theorem dX8_readsRiders_106 : decode cX8_readsRiders 106 = .ok (.putfield 120, 3) := by decide +kernel
theorem dX8_readsRiders_109 : decode cX8_readsRiders 109 = .ok (.iload_n 1, 1) := by decide +kernel
theorem dX8_readsRiders_110 : decode cX8_readsRiders 110 = .ok (.ireturn, 1) := by decide +kernel
theorem dX8_readsRiders_111 : decode cX8_readsRiders 111 = .ok (.iconst (-1), 1) := by decide +kernel
theorem dX8_readsRiders_112 : decode cX8_readsRiders 112 = .ok (.ireturn, 1) := by decide +kernel
theorem dX8_readsBag_0 : decode cX8_readsBag 0 = .ok (.aload_n 0, 1) := by decide +kernel
theorem dX8_readsBag_1 : decode cX8_readsBag 1 = .ok (.iconst 0, 1) := by decide +kernel
theorem dX8_readsBag_2 : decode cX8_readsBag 2 = .ok (.putfield 126, 3) := by decide +kernel
theorem dX8_readsBag_5 : decode cX8_readsBag 5 = .ok (.iconst 0, 1) := by decide +kernel
theorem dX8_readsBag_6 : decode cX8_readsBag 6 = .ok (.istore_n 1, 1) := by decide +kernel
theorem dX8_readsBag_7 : decode cX8_readsBag 7 = .ok (.iload_n 1, 1) := by decide +kernel
theorem dX8_readsBag_8 : decode cX8_readsBag 8 = .ok (.aload_n 0, 1) := by decide +kernel
theorem dX8_readsBag_9 : decode cX8_readsBag 9 = .ok (.getfield 25, 3) := by decide +kernel
theorem dX8_readsBag_12 : decode cX8_readsBag 12 = .ok (.iconst 1, 1) := by decide +kernel
theorem dX8_readsBag_13 : decode cX8_readsBag 13 = .ok (.iaload, 1) := by decide +kernel
theorem dX8_readsBag_14 : decode cX8_readsBag 14 = .ok (.if_icmp .ge 78, 3) := by decide +kernel
theorem dX8_readsBag_17 : decode cX8_readsBag 17 = .ok (.aload_n 0, 1) := by decide +kernel
theorem dX8_readsBag_18 : decode cX8_readsBag 18 = .ok (.getfield 22, 3) := by decide +kernel
theorem dX8_readsBag_21 : decode cX8_readsBag 21 = .ok (.bipush 40, 2) := by decide +kernel
theorem dX8_readsBag_23 : decode cX8_readsBag 23 = .ok (.iload_n 1, 1) := by decide +kernel
theorem dX8_readsBag_24 : decode cX8_readsBag 24 = .ok (.iadd, 1) := by decide +kernel
theorem dX8_readsBag_25 : decode cX8_readsBag 25 = .ok (.iaload, 1) := by decide +kernel
theorem dX8_readsBag_26 : decode cX8_readsBag 26 = .ok (.istore_n 2, 1) := by decide +kernel
theorem dX8_readsBag_27 : decode cX8_readsBag 27 = .ok (.iload_n 2, 1) := by decide +kernel
theorem dX8_readsBag_28 : decode cX8_readsBag 28 = .ok (.i2l, 1) := by decide +kernel
theorem dX8_readsBag_29 : decode cX8_readsBag 29 = .ok (.ldc2_w 129, 3) := by decide +kernel
theorem dX8_readsBag_32 : decode cX8_readsBag 32 = .ok (.ldc2_w 131, 3) := by decide +kernel
theorem dX8_readsBag_35 : decode cX8_readsBag 35 = .ok (.invokestatic 76, 3) := by decide +kernel
theorem dX8_readsBag_38 : decode cX8_readsBag 38 = .ok (.ifCond .eq 13, 3) := by decide +kernel
theorem dX8_readsBag_41 : decode cX8_readsBag 41 = .ok (.iload_n 2, 1) := by decide +kernel
theorem dX8_readsBag_42 : decode cX8_readsBag 42 = .ok (.bipush 65, 2) := by decide +kernel
theorem dX8_readsBag_44 : decode cX8_readsBag 44 = .ok (.isub, 1) := by decide +kernel
theorem dX8_readsBag_45 : decode cX8_readsBag 45 = .ok (.bipush 8, 2) := by decide +kernel
theorem dX8_readsBag_47 : decode cX8_readsBag 47 = .ok (.iadd, 1) := by decide +kernel
theorem dX8_readsBag_48 : decode cX8_readsBag 48 = .ok (.goto 7, 3) := by decide +kernel
theorem dX8_readsBag_51 : decode cX8_readsBag 51 = .ok (.iload_n 2, 1) := by decide +kernel
theorem dX8_readsBag_52 : decode cX8_readsBag 52 = .ok (.invokestatic 113, 3) := by decide +kernel
theorem dX8_readsBag_55 : decode cX8_readsBag 55 = .ok (.istore_n 3, 1) := by decide +kernel
theorem dX8_readsBag_56 : decode cX8_readsBag 56 = .ok (.iload_n 3, 1) := by decide +kernel
theorem dX8_readsBag_57 : decode cX8_readsBag 57 = .ok (.bipush (-9), 2) := by decide +kernel
theorem dX8_readsBag_59 : decode cX8_readsBag 59 = .ok (.if_icmp .ne 10, 3) := by decide +kernel
theorem dX8_readsBag_62 : decode cX8_readsBag 62 = .ok (.aload_n 0, 1) := by decide +kernel
theorem dX8_readsBag_63 : decode cX8_readsBag 63 = .ok (.iconst 0, 1) := by decide +kernel
theorem dX8_readsBag_64 : decode cX8_readsBag 64 = .ok (.putfield 126, 3) := by decide +kernel
theorem dX8_readsBag_67 : decode cX8_readsBag 67 = .ok (.iload_n 1, 1) := by decide +kernel
theorem dX8_readsBag_68 : decode cX8_readsBag 68 = .ok (.ireturn, 1) := by decide +kernel
theorem dX8_readsBag_69 : decode cX8_readsBag 69 = .ok (.aload_n 0, 1) := by decide +kernel
theorem dX8_readsBag_70 : decode cX8_readsBag 70 = .ok (.getfield 31, 3) := by decide +kernel
theorem dX8_readsBag_73 : decode cX8_readsBag 73 = .ok (.iload_n 1, 1) := by decide +kernel
theorem dX8_readsBag_74 : decode cX8_readsBag 74 = .ok (.iload_n 3, 1) := by decide +kernel
theorem dX8_readsBag_75 : decode cX8_readsBag 75 = .ok (.iastore, 1) := by decide +kernel
theorem dX8_readsBag_76 : decode cX8_readsBag 76 = .ok (.aload_n 0, 1) := by decide +kernel
theorem dX8_readsBag_77 : decode cX8_readsBag 77 = .ok (.dup, 1) := by decide +kernel
theorem dX8_readsBag_78 : decode cX8_readsBag 78 = .ok (.getfield 126, 3) := by decide +kernel
theorem dX8_readsBag_81 : decode cX8_readsBag 81 = .ok (.iconst 1, 1) := by decide +kernel
theorem dX8_readsBag_82 : decode cX8_readsBag 82 = .ok (.iadd, 1) := by decide +kernel
theorem dX8_readsBag_83 : decode cX8_readsBag 83 = .ok (.putfield 126, 3) := by decide +kernel
theorem dX8_readsBag_86 : decode cX8_readsBag 86 = .ok (.iinc 1 1, 3) := by decide +kernel
theorem dX8_readsBag_89 : decode cX8_readsBag 89 = .ok (.goto (-82), 3) := by decide +kernel
theorem dX8_readsBag_92 : decode cX8_readsBag 92 = .ok (.iconst (-1), 1) := by decide +kernel
theorem dX8_readsBag_93 : decode cX8_readsBag 93 = .ok (.ireturn, 1) := by decide +kernel
theorem dX8_fault_0 : decode cX8_fault 0 = .ok (.iload_n 1, 1) := by decide +kernel
theorem dX8_fault_1 : decode cX8_fault 1 = .ok (.invokestatic 104, 3) := by decide +kernel
theorem dX8_fault_4 : decode cX8_fault 4 = .ok (.ifCond .ne 8, 3) := by decide +kernel
theorem dX8_fault_7 : decode cX8_fault 7 = .ok (.bipush (-2), 2) := by decide +kernel
theorem dX8_fault_9 : decode cX8_fault 9 = .ok (.goto 18, 3) := by decide +kernel
theorem dX8_fault_12 : decode cX8_fault 12 = .ok (.iload_n 1, 1) := by decide +kernel
theorem dX8_fault_13 : decode cX8_fault 13 = .ok (.ifCond .ne 10, 3) := by decide +kernel
theorem dX8_fault_16 : decode cX8_fault 16 = .ok (.aload_n 0, 1) := by decide +kernel
theorem dX8_fault_17 : decode cX8_fault 17 = .ok (.invokevirtual 133, 3) := by decide +kernel
theorem dX8_fault_20 : decode cX8_fault 20 = .ok (.goto 7, 3) := by decide +kernel
theorem dX8_fault_23 : decode cX8_fault 23 = .ok (.aload_n 0, 1) := by decide +kernel
theorem dX8_fault_24 : decode cX8_fault 24 = .ok (.invokevirtual 137, 3) := by decide +kernel
theorem dX8_fault_27 : decode cX8_fault 27 = .ok (.ireturn, 1) := by decide +kernel
theorem dX8_isRider_0 : decode cX8_isRider 0 = .ok (.iload_n 1, 1) := by decide +kernel
theorem dX8_isRider_1 : decode cX8_isRider 1 = .ok (.i2l, 1) := by decide +kernel
theorem dX8_isRider_2 : decode cX8_isRider 2 = .ok (.lconst 0, 1) := by decide +kernel
theorem dX8_isRider_3 : decode cX8_isRider 3 = .ok (.aload_n 0, 1) := by decide +kernel
theorem dX8_isRider_4 : decode cX8_isRider 4 = .ok (.getfield 120, 3) := by decide +kernel
theorem dX8_isRider_7 : decode cX8_isRider 7 = .ok (.iconst 1, 1) := by decide +kernel
theorem dX8_isRider_8 : decode cX8_isRider 8 = .ok (.isub, 1) := by decide +kernel
theorem dX8_isRider_9 : decode cX8_isRider 9 = .ok (.i2l, 1) := by decide +kernel
theorem dX8_isRider_10 : decode cX8_isRider 10 = .ok (.invokestatic 76, 3) := by decide +kernel
theorem dX8_isRider_13 : decode cX8_isRider 13 = .ok (.ireturn, 1) := by decide +kernel
theorem dX8_isDay_0 : decode cX8_isDay 0 = .ok (.iload_n 0, 1) := by decide +kernel
theorem dX8_isDay_1 : decode cX8_isDay 1 = .ok (.i2l, 1) := by decide +kernel
theorem dX8_isDay_2 : decode cX8_isDay 2 = .ok (.lconst 0, 1) := by decide +kernel
theorem dX8_isDay_3 : decode cX8_isDay 3 = .ok (.ldc2_w 140, 3) := by decide +kernel
theorem dX8_isDay_6 : decode cX8_isDay 6 = .ok (.invokestatic 76, 3) := by decide +kernel
theorem dX8_isDay_9 : decode cX8_isDay 9 = .ok (.ireturn, 1) := by decide +kernel
theorem dX8_rider_0 : decode cX8_rider 0 = .ok (.aload_n 0, 1) := by decide +kernel
theorem dX8_rider_1 : decode cX8_rider 1 = .ok (.invokevirtual 133, 3) := by decide +kernel
theorem dX8_rider_4 : decode cX8_rider 4 = .ok (.pop, 1) := by decide +kernel
theorem dX8_rider_5 : decode cX8_rider 5 = .ok (.aload_n 0, 1) := by decide +kernel
theorem dX8_rider_6 : decode cX8_rider 6 = .ok (.iload_n 1, 1) := by decide +kernel
theorem dX8_rider_7 : decode cX8_rider 7 = .ok (.invokevirtual 142, 3) := by decide +kernel
theorem dX8_rider_10 : decode cX8_rider 10 = .ok (.ifCond .eq 28, 3) := by decide +kernel
theorem dX8_rider_13 : decode cX8_rider 13 = .ok (.iload_n 2, 1) := by decide +kernel
theorem dX8_rider_14 : decode cX8_rider 14 = .ok (.i2l, 1) := by decide +kernel
theorem dX8_rider_15 : decode cX8_rider 15 = .ok (.lconst 0, 1) := by decide +kernel
theorem dX8_rider_16 : decode cX8_rider 16 = .ok (.ldc2_w 83, 3) := by decide +kernel
theorem dX8_rider_19 : decode cX8_rider 19 = .ok (.invokestatic 76, 3) := by decide +kernel
theorem dX8_rider_22 : decode cX8_rider 22 = .ok (.ifCond .eq 16, 3) := by decide +kernel
theorem dX8_rider_25 : decode cX8_rider 25 = .ok (.aload_n 0, 1) := by decide +kernel
theorem dX8_rider_26 : decode cX8_rider 26 = .ok (.getfield 28, 3) := by decide +kernel
theorem dX8_rider_29 : decode cX8_rider 29 = .ok (.iconst 4, 1) := by decide +kernel
theorem dX8_rider_30 : decode cX8_rider 30 = .ok (.iload_n 1, 1) := by decide +kernel
theorem dX8_rider_31 : decode cX8_rider 31 = .ok (.imul, 1) := by decide +kernel
theorem dX8_rider_32 : decode cX8_rider 32 = .ok (.iload_n 2, 1) := by decide +kernel
theorem dX8_rider_33 : decode cX8_rider 33 = .ok (.iadd, 1) := by decide +kernel
theorem dX8_rider_34 : decode cX8_rider 34 = .ok (.iaload, 1) := by decide +kernel
theorem dX8_rider_35 : decode cX8_rider 35 = .ok (.goto 5, 3) := by decide +kernel
theorem dX8_rider_38 : decode cX8_rider 38 = .ok (.bipush (-2), 2) := by decide +kernel
theorem dX8_rider_40 : decode cX8_rider 40 = .ok (.ireturn, 1) := by decide +kernel
theorem dX8_worth_0 : decode cX8_worth 0 = .ok (.iload_n 1, 1) := by decide +kernel
theorem dX8_worth_1 : decode cX8_worth 1 = .ok (.i2l, 1) := by decide +kernel
theorem dX8_worth_2 : decode cX8_worth 2 = .ok (.lconst 0, 1) := by decide +kernel
theorem dX8_worth_3 : decode cX8_worth 3 = .ok (.ldc2_w 145, 3) := by decide +kernel
theorem dX8_worth_6 : decode cX8_worth 6 = .ok (.invokestatic 76, 3) := by decide +kernel
theorem dX8_worth_9 : decode cX8_worth 9 = .ok (.ifCond .eq 15, 3) := by decide +kernel
theorem dX8_worth_12 : decode cX8_worth 12 = .ok (.iload_n 2, 1) := by decide +kernel
theorem dX8_worth_13 : decode cX8_worth 13 = .ok (.i2l, 1) := by decide +kernel
theorem dX8_worth_14 : decode cX8_worth 14 = .ok (.lconst 0, 1) := by decide +kernel
theorem dX8_worth_15 : decode cX8_worth 15 = .ok (.ldc2_w 140, 3) := by decide +kernel
theorem dX8_worth_18 : decode cX8_worth 18 = .ok (.invokestatic 76, 3) := by decide +kernel
theorem dX8_worth_21 : decode cX8_worth 21 = .ok (.ifCond .ne 6, 3) := by decide +kernel
theorem dX8_worth_24 : decode cX8_worth 24 = .ok (.bipush (-2), 2) := by decide +kernel
theorem dX8_worth_26 : decode cX8_worth 26 = .ok (.ireturn, 1) := by decide +kernel
theorem dX8_worth_27 : decode cX8_worth 27 = .ok (.aload_n 0, 1) := by decide +kernel
theorem dX8_worth_28 : decode cX8_worth 28 = .ok (.getfield 34, 3) := by decide +kernel
theorem dX8_worth_31 : decode cX8_worth 31 = .ok (.iload_n 1, 1) := by decide +kernel
theorem dX8_worth_32 : decode cX8_worth 32 = .ok (.iaload, 1) := by decide +kernel
theorem dX8_worth_33 : decode cX8_worth 33 = .ok (.istore_n 3, 1) := by decide +kernel
theorem dX8_worth_34 : decode cX8_worth 34 = .ok (.aload_n 0, 1) := by decide +kernel
theorem dX8_worth_35 : decode cX8_worth 35 = .ok (.getfield 34, 3) := by decide +kernel
theorem dX8_worth_38 : decode cX8_worth 38 = .ok (.iload_n 1, 1) := by decide +kernel
theorem dX8_worth_39 : decode cX8_worth 39 = .ok (.iload_n 2, 1) := by decide +kernel
theorem dX8_worth_40 : decode cX8_worth 40 = .ok (.iastore, 1) := by decide +kernel
theorem dX8_worth_41 : decode cX8_worth 41 = .ok (.iload_n 3, 1) := by decide +kernel
theorem dX8_worth_42 : decode cX8_worth 42 = .ok (.ireturn, 1) := by decide +kernel
theorem dX8_set_0 : decode cX8_set 0 = .ok (.iload_n 1, 1) := by decide +kernel
theorem dX8_set_1 : decode cX8_set 1 = .ok (.ifCond .ne 8, 3) := by decide +kernel
theorem dX8_set_4 : decode cX8_set 4 = .ok (.bipush 9, 2) := by decide +kernel
theorem dX8_set_6 : decode cX8_set 6 = .ok (.goto 17, 3) := by decide +kernel
theorem dX8_set_9 : decode cX8_set 9 = .ok (.iload_n 1, 1) := by decide +kernel
theorem dX8_set_10 : decode cX8_set 10 = .ok (.iconst 1, 1) := by decide +kernel
theorem dX8_set_11 : decode cX8_set 11 = .ok (.if_icmp .ne 9, 3) := by decide +kernel
theorem dX8_set_14 : decode cX8_set 14 = .ok (.sipush 1023, 3) := by decide +kernel
theorem dX8_set_17 : decode cX8_set 17 = .ok (.goto 6, 3) := by decide +kernel
theorem dX8_set_20 : decode cX8_set 20 = .ok (.sipush 255, 3) := by decide +kernel
theorem dX8_set_23 : decode cX8_set 23 = .ok (.istore_n 3, 1) := by decide +kernel
theorem dX8_set_24 : decode cX8_set 24 = .ok (.iload_n 1, 1) := by decide +kernel
theorem dX8_set_25 : decode cX8_set 25 = .ok (.i2l, 1) := by decide +kernel
theorem dX8_set_26 : decode cX8_set 26 = .ok (.lconst 0, 1) := by decide +kernel
theorem dX8_set_27 : decode cX8_set 27 = .ok (.ldc2_w 89, 3) := by decide +kernel
theorem dX8_set_30 : decode cX8_set 30 = .ok (.invokestatic 76, 3) := by decide +kernel
theorem dX8_set_33 : decode cX8_set 33 = .ok (.ifCond .eq 14, 3) := by decide +kernel
theorem dX8_set_36 : decode cX8_set 36 = .ok (.iload_n 2, 1) := by decide +kernel
theorem dX8_set_37 : decode cX8_set 37 = .ok (.i2l, 1) := by decide +kernel
theorem dX8_set_38 : decode cX8_set 38 = .ok (.lconst 0, 1) := by decide +kernel
theorem dX8_set_39 : decode cX8_set 39 = .ok (.iload_n 3, 1) := by decide +kernel
theorem dX8_set_40 : decode cX8_set 40 = .ok (.i2l, 1) := by decide +kernel
theorem dX8_set_41 : decode cX8_set 41 = .ok (.invokestatic 76, 3) := by decide +kernel
theorem dX8_set_44 : decode cX8_set 44 = .ok (.ifCond .ne 6, 3) := by decide +kernel
theorem dX8_set_47 : decode cX8_set 47 = .ok (.bipush (-2), 2) := by decide +kernel
theorem dX8_set_49 : decode cX8_set 49 = .ok (.ireturn, 1) := by decide +kernel
theorem dX8_set_50 : decode cX8_set 50 = .ok (.aload_n 0, 1) := by decide +kernel
theorem dX8_set_51 : decode cX8_set 51 = .ok (.getfield 37, 3) := by decide +kernel
theorem dX8_set_54 : decode cX8_set 54 = .ok (.iload_n 1, 1) := by decide +kernel
theorem dX8_set_55 : decode cX8_set 55 = .ok (.iaload, 1) := by decide +kernel
theorem dX8_set_56 : decode cX8_set 56 = .ok (.istore 4, 2) := by decide +kernel
theorem dX8_set_58 : decode cX8_set 58 = .ok (.aload_n 0, 1) := by decide +kernel
theorem dX8_set_59 : decode cX8_set 59 = .ok (.getfield 37, 3) := by decide +kernel
theorem dX8_set_62 : decode cX8_set 62 = .ok (.iload_n 1, 1) := by decide +kernel
theorem dX8_set_63 : decode cX8_set 63 = .ok (.iload_n 2, 1) := by decide +kernel
theorem dX8_set_64 : decode cX8_set 64 = .ok (.iastore, 1) := by decide +kernel
theorem dX8_set_65 : decode cX8_set 65 = .ok (.iload 4, 2) := by decide +kernel
theorem dX8_set_67 : decode cX8_set 67 = .ok (.ireturn, 1) := by decide +kernel
theorem dX8_puts_0 : decode cX8_puts 0 = .ok (.aload_n 0, 1) := by decide +kernel
theorem dX8_puts_1 : decode cX8_puts 1 = .ok (.getfield 46, 3) := by decide +kernel
theorem dX8_puts_4 : decode cX8_puts 4 = .ok (.aload_n 0, 1) := by decide +kernel
theorem dX8_puts_5 : decode cX8_puts 5 = .ok (.getfield 147, 3) := by decide +kernel
theorem dX8_puts_8 : decode cX8_puts 8 = .ok (.iload_n 1, 1) := by decide +kernel
theorem dX8_puts_9 : decode cX8_puts 9 = .ok (.iastore, 1) := by decide +kernel
theorem dX8_puts_10 : decode cX8_puts 10 = .ok (.aload_n 0, 1) := by decide +kernel
theorem dX8_puts_11 : decode cX8_puts 11 = .ok (.dup, 1) := by decide +kernel
theorem dX8_puts_12 : decode cX8_puts 12 = .ok (.getfield 147, 3) := by decide +kernel
theorem dX8_puts_15 : decode cX8_puts 15 = .ok (.iconst 1, 1) := by decide +kernel
theorem dX8_puts_16 : decode cX8_puts 16 = .ok (.iadd, 1) := by decide +kernel
theorem dX8_puts_17 : decode cX8_puts 17 = .ok (.putfield 147, 3) := by decide +kernel
theorem dX8_puts_20 : decode cX8_puts 20 = .ok (.return_, 1) := by decide +kernel
theorem dX8_find_0 : decode cX8_find 0 = .ok (.iconst 0, 1) := by decide +kernel
theorem dX8_find_1 : decode cX8_find 1 = .ok (.istore_n 2, 1) := by decide +kernel
theorem dX8_find_2 : decode cX8_find 2 = .ok (.iload_n 2, 1) := by decide +kernel
theorem dX8_find_3 : decode cX8_find 3 = .ok (.aload_n 0, 1) := by decide +kernel
theorem dX8_find_4 : decode cX8_find 4 = .ok (.getfield 147, 3) := by decide +kernel
theorem dX8_find_7 : decode cX8_find 7 = .ok (.if_icmp .ge 21, 3) := by decide +kernel
theorem dX8_find_10 : decode cX8_find 10 = .ok (.aload_n 0, 1) := by decide +kernel
theorem dX8_find_11 : decode cX8_find 11 = .ok (.getfield 46, 3) := by decide +kernel
theorem dX8_find_14 : decode cX8_find 14 = .ok (.iload_n 2, 1) := by decide +kernel
theorem dX8_find_15 : decode cX8_find 15 = .ok (.iaload, 1) := by decide +kernel
theorem dX8_find_16 : decode cX8_find 16 = .ok (.iload_n 1, 1) := by decide +kernel
theorem dX8_find_17 : decode cX8_find 17 = .ok (.if_icmp .ne 5, 3) := by decide +kernel
theorem dX8_find_20 : decode cX8_find 20 = .ok (.iload_n 2, 1) := by decide +kernel
theorem dX8_find_21 : decode cX8_find 21 = .ok (.ireturn, 1) := by decide +kernel
theorem dX8_find_22 : decode cX8_find 22 = .ok (.iinc 2 1, 3) := by decide +kernel
theorem dX8_find_25 : decode cX8_find 25 = .ok (.goto (-23), 3) := by decide +kernel
theorem dX8_find_28 : decode cX8_find 28 = .ok (.iconst (-1), 1) := by decide +kernel
theorem dX8_find_29 : decode cX8_find 29 = .ok (.ireturn, 1) := by decide +kernel
theorem dX8_takes_0 : decode cX8_takes 0 = .ok (.aload_n 0, 1) := by decide +kernel
theorem dX8_takes_1 : decode cX8_takes 1 = .ok (.dup, 1) := by decide +kernel
theorem dX8_takes_2 : decode cX8_takes 2 = .ok (.getfield 147, 3) := by decide +kernel
theorem dX8_takes_5 : decode cX8_takes 5 = .ok (.iconst 1, 1) := by decide +kernel
theorem dX8_takes_6 : decode cX8_takes 6 = .ok (.isub, 1) := by decide +kernel
theorem dX8_takes_7 : decode cX8_takes 7 = .ok (.putfield 147, 3) := by decide +kernel
theorem dX8_takes_10 : decode cX8_takes 10 = .ok (.iload_n 1, 1) := by decide +kernel
theorem dX8_takes_11 : decode cX8_takes 11 = .ok (.istore_n 2, 1) := by decide +kernel
theorem dX8_takes_12 : decode cX8_takes 12 = .ok (.iload_n 2, 1) := by decide +kernel
theorem dX8_takes_13 : decode cX8_takes 13 = .ok (.aload_n 0, 1) := by decide +kernel
theorem dX8_takes_14 : decode cX8_takes 14 = .ok (.getfield 147, 3) := by decide +kernel
theorem dX8_takes_17 : decode cX8_takes 17 = .ok (.if_icmp .ge 23, 3) := by decide +kernel
theorem dX8_takes_20 : decode cX8_takes 20 = .ok (.aload_n 0, 1) := by decide +kernel
theorem dX8_takes_21 : decode cX8_takes 21 = .ok (.getfield 46, 3) := by decide +kernel
theorem dX8_takes_24 : decode cX8_takes 24 = .ok (.iload_n 2, 1) := by decide +kernel
theorem dX8_takes_25 : decode cX8_takes 25 = .ok (.aload_n 0, 1) := by decide +kernel
theorem dX8_takes_26 : decode cX8_takes 26 = .ok (.getfield 46, 3) := by decide +kernel
theorem dX8_takes_29 : decode cX8_takes 29 = .ok (.iload_n 2, 1) := by decide +kernel
theorem dX8_takes_30 : decode cX8_takes 30 = .ok (.iconst 1, 1) := by decide +kernel
theorem dX8_takes_31 : decode cX8_takes 31 = .ok (.iadd, 1) := by decide +kernel
theorem dX8_takes_32 : decode cX8_takes 32 = .ok (.iaload, 1) := by decide +kernel
theorem dX8_takes_33 : decode cX8_takes 33 = .ok (.iastore, 1) := by decide +kernel
theorem dX8_takes_34 : decode cX8_takes 34 = .ok (.iinc 2 1, 3) := by decide +kernel
theorem dX8_takes_37 : decode cX8_takes 37 = .ok (.goto (-25), 3) := by decide +kernel
theorem dX8_takes_40 : decode cX8_takes 40 = .ok (.return_, 1) := by decide +kernel
theorem dX8_may_0 : decode cX8_may 0 = .ok (.aload_n 0, 1) := by decide +kernel
theorem dX8_may_1 : decode cX8_may 1 = .ok (.getfield 150, 3) := by decide +kernel
theorem dX8_may_4 : decode cX8_may 4 = .ok (.iload_n 1, 1) := by decide +kernel
theorem dX8_may_5 : decode cX8_may 5 = .ok (.invokestatic 153, 3) := by decide +kernel
theorem dX8_may_8 : decode cX8_may 8 = .ok (.ifCond .eq 32, 3) := by decide +kernel
theorem dX8_may_11 : decode cX8_may 11 = .ok (.aload_n 0, 1) := by decide +kernel
theorem dX8_may_12 : decode cX8_may 12 = .ok (.getfield 40, 3) := by decide +kernel
theorem dX8_may_15 : decode cX8_may 15 = .ok (.iload_n 1, 1) := by decide +kernel
theorem dX8_may_16 : decode cX8_may 16 = .ok (.iaload, 1) := by decide +kernel
theorem dX8_may_17 : decode cX8_may 17 = .ok (.iconst 1, 1) := by decide +kernel
theorem dX8_may_18 : decode cX8_may 18 = .ok (.if_icmp .lt 22, 3) := by decide +kernel
theorem dX8_may_21 : decode cX8_may 21 = .ok (.aload_n 0, 1) := by decide +kernel
theorem dX8_may_22 : decode cX8_may 22 = .ok (.getfield 40, 3) := by decide +kernel
theorem dX8_may_25 : decode cX8_may 25 = .ok (.iload_n 1, 1) := by decide +kernel
theorem dX8_may_26 : decode cX8_may 26 = .ok (.iaload, 1) := by decide +kernel
theorem dX8_may_27 : decode cX8_may 27 = .ok (.aload_n 0, 1) := by decide +kernel
theorem dX8_may_28 : decode cX8_may 28 = .ok (.getfield 28, 3) := by decide +kernel
theorem dX8_may_31 : decode cX8_may 31 = .ok (.iconst 4, 1) := by decide +kernel
theorem dX8_may_32 : decode cX8_may 32 = .ok (.iload_n 1, 1) := by decide +kernel
theorem dX8_may_33 : decode cX8_may 33 = .ok (.imul, 1) := by decide +kernel
theorem dX8_may_34 : decode cX8_may 34 = .ok (.iconst 3, 1) := by decide +kernel
theorem dX8_may_35 : decode cX8_may 35 = .ok (.iadd, 1) := by decide +kernel
theorem dX8_may_36 : decode cX8_may 36 = .ok (.iaload, 1) := by decide +kernel
theorem dX8_may_37 : decode cX8_may 37 = .ok (.if_icmp .ne 5, 3) := by decide +kernel
theorem dX8_may_40 : decode cX8_may 40 = .ok (.iconst 0, 1) := by decide +kernel
theorem dX8_may_41 : decode cX8_may 41 = .ok (.ireturn, 1) := by decide +kernel
theorem dX8_may_42 : decode cX8_may 42 = .ok (.aload_n 0, 1) := by decide +kernel
theorem dX8_may_43 : decode cX8_may 43 = .ok (.getfield 34, 3) := by decide +kernel
theorem dX8_may_46 : decode cX8_may 46 = .ok (.aload_n 0, 1) := by decide +kernel
theorem dX8_may_47 : decode cX8_may 47 = .ok (.getfield 40, 3) := by decide +kernel
theorem dX8_may_50 : decode cX8_may 50 = .ok (.iload_n 1, 1) := by decide +kernel
theorem dX8_may_51 : decode cX8_may 51 = .ok (.iaload, 1) := by decide +kernel
theorem dX8_may_52 : decode cX8_may 52 = .ok (.iaload, 1) := by decide +kernel
theorem dX8_may_53 : decode cX8_may 53 = .ok (.aload_n 0, 1) := by decide +kernel
theorem dX8_may_54 : decode cX8_may 54 = .ok (.getfield 34, 3) := by decide +kernel
theorem dX8_may_57 : decode cX8_may 57 = .ok (.aload_n 0, 1) := by decide +kernel
theorem dX8_may_58 : decode cX8_may 58 = .ok (.getfield 28, 3) := by decide +kernel
theorem dX8_may_61 : decode cX8_may 61 = .ok (.iconst 4, 1) := by decide +kernel
theorem dX8_may_62 : decode cX8_may 62 = .ok (.iload_n 1, 1) := by decide +kernel
theorem dX8_may_63 : decode cX8_may 63 = .ok (.imul, 1) := by decide +kernel
theorem dX8_may_64 : decode cX8_may 64 = .ok (.iconst 3, 1) := by decide +kernel
theorem dX8_may_65 : decode cX8_may 65 = .ok (.iadd, 1) := by decide +kernel
theorem dX8_may_66 : decode cX8_may 66 = .ok (.iaload, 1) := by decide +kernel
theorem dX8_may_67 : decode cX8_may 67 = .ok (.iaload, 1) := by decide +kernel
theorem dX8_may_68 : decode cX8_may 68 = .ok (.isub, 1) := by decide +kernel
theorem dX8_may_69 : decode cX8_may 69 = .ok (.istore_n 2, 1) := by decide +kernel
theorem dX8_may_70 : decode cX8_may 70 = .ok (.iload_n 2, 1) := by decide +kernel
theorem dX8_may_71 : decode cX8_may 71 = .ok (.ifCond .ge 8, 3) := by decide +kernel
theorem dX8_may_74 : decode cX8_may 74 = .ok (.iload_n 2, 1) := by decide +kernel
theorem dX8_may_75 : decode cX8_may 75 = .ok (.ineg, 1) := by decide +kernel
theorem dX8_may_76 : decode cX8_may 76 = .ok (.goto 4, 3) := by decide +kernel
theorem dX8_may_79 : decode cX8_may 79 = .ok (.iload_n 2, 1) := by decide +kernel
theorem dX8_may_80 : decode cX8_may 80 = .ok (.aload_n 0, 1) := by decide +kernel
theorem dX8_may_81 : decode cX8_may 81 = .ok (.getfield 37, 3) := by decide +kernel
theorem dX8_may_84 : decode cX8_may 84 = .ok (.iconst 0, 1) := by decide +kernel
theorem dX8_may_85 : decode cX8_may 85 = .ok (.iaload, 1) := by decide +kernel
theorem dX8_may_86 : decode cX8_may 86 = .ok (.if_icmp .gt 7, 3) := by decide +kernel
theorem dX8_may_89 : decode cX8_may 89 = .ok (.iconst 1, 1) := by decide +kernel
theorem dX8_may_90 : decode cX8_may 90 = .ok (.goto 4, 3) := by decide +kernel
theorem dX8_may_93 : decode cX8_may 93 = .ok (.iconst 0, 1) := by decide +kernel
theorem dX8_may_94 : decode cX8_may 94 = .ok (.ireturn, 1) := by decide +kernel
theorem dX8_other_0 : decode cX8_other 0 = .ok (.iconst 0, 1) := by decide +kernel
theorem dX8_other_1 : decode cX8_other 1 = .ok (.istore_n 2, 1) := by decide +kernel
theorem dX8_other_2 : decode cX8_other 2 = .ok (.iload_n 2, 1) := by decide +kernel
theorem dX8_other_3 : decode cX8_other 3 = .ok (.aload_n 0, 1) := by decide +kernel
theorem dX8_other_4 : decode cX8_other 4 = .ok (.getfield 120, 3) := by decide +kernel
theorem dX8_other_7 : decode cX8_other 7 = .ok (.if_icmp .ge 47, 3) := by decide +kernel
theorem dX8_other_10 : decode cX8_other 10 = .ok (.iload_n 2, 1) := by decide +kernel
theorem dX8_other_11 : decode cX8_other 11 = .ok (.iload_n 1, 1) := by decide +kernel
theorem dX8_other_12 : decode cX8_other 12 = .ok (.if_icmp .eq 36, 3) := by decide +kernel
theorem dX8_other_15 : decode cX8_other 15 = .ok (.aload_n 0, 1) := by decide +kernel
theorem dX8_other_16 : decode cX8_other 16 = .ok (.iload_n 2, 1) := by decide +kernel
theorem dX8_other_17 : decode cX8_other 17 = .ok (.invokevirtual 157, 3) := by decide +kernel
theorem dX8_other_20 : decode cX8_other 20 = .ok (.ifCond .eq 28, 3) := by decide +kernel
theorem dX8_other_23 : decode cX8_other 23 = .ok (.aload_n 0, 1) := by decide +kernel
theorem dX8_other_24 : decode cX8_other 24 = .ok (.getfield 28, 3) := by decide +kernel
theorem dX8_other_27 : decode cX8_other 27 = .ok (.iconst 4, 1) := by decide +kernel
theorem dX8_other_28 : decode cX8_other 28 = .ok (.iload_n 2, 1) := by decide +kernel
theorem dX8_other_29 : decode cX8_other 29 = .ok (.imul, 1) := by decide +kernel
theorem dX8_other_30 : decode cX8_other 30 = .ok (.iconst 3, 1) := by decide +kernel
theorem dX8_other_31 : decode cX8_other 31 = .ok (.iadd, 1) := by decide +kernel
theorem dX8_other_32 : decode cX8_other 32 = .ok (.iaload, 1) := by decide +kernel
theorem dX8_other_33 : decode cX8_other 33 = .ok (.aload_n 0, 1) := by decide +kernel
theorem dX8_other_34 : decode cX8_other 34 = .ok (.getfield 28, 3) := by decide +kernel
theorem dX8_other_37 : decode cX8_other 37 = .ok (.iconst 4, 1) := by decide +kernel
theorem dX8_other_38 : decode cX8_other 38 = .ok (.iload_n 1, 1) := by decide +kernel
theorem dX8_other_39 : decode cX8_other 39 = .ok (.imul, 1) := by decide +kernel
theorem dX8_other_40 : decode cX8_other 40 = .ok (.iconst 3, 1) := by decide +kernel
theorem dX8_other_41 : decode cX8_other 41 = .ok (.iadd, 1) := by decide +kernel
theorem dX8_other_42 : decode cX8_other 42 = .ok (.iaload, 1) := by decide +kernel
theorem dX8_other_43 : decode cX8_other 43 = .ok (.if_icmp .ne 5, 3) := by decide +kernel
theorem dX8_other_46 : decode cX8_other 46 = .ok (.iload_n 2, 1) := by decide +kernel
theorem dX8_other_47 : decode cX8_other 47 = .ok (.ireturn, 1) := by decide +kernel
theorem dX8_other_48 : decode cX8_other 48 = .ok (.iinc 2 1, 3) := by decide +kernel
theorem dX8_other_51 : decode cX8_other 51 = .ok (.goto (-49), 3) := by decide +kernel
theorem dX8_other_54 : decode cX8_other 54 = .ok (.iconst (-1), 1) := by decide +kernel
theorem dX8_other_55 : decode cX8_other 55 = .ok (.ireturn, 1) := by decide +kernel
theorem dX8_gives_0 : decode cX8_gives 0 = .ok (.aload_n 0, 1) := by decide +kernel
theorem dX8_gives_1 : decode cX8_gives 1 = .ok (.aload_n 0, 1) := by decide +kernel
theorem dX8_gives_2 : decode cX8_gives 2 = .ok (.getfield 40, 3) := by decide +kernel
theorem dX8_gives_5 : decode cX8_gives 5 = .ok (.iload_n 1, 1) := by decide +kernel
theorem dX8_gives_6 : decode cX8_gives 6 = .ok (.iaload, 1) := by decide +kernel
theorem dX8_gives_7 : decode cX8_gives 7 = .ok (.invokevirtual 160, 3) := by decide +kernel
theorem dX8_gives_10 : decode cX8_gives 10 = .ok (.aload_n 0, 1) := by decide +kernel
theorem dX8_gives_11 : decode cX8_gives 11 = .ok (.getfield 40, 3) := by decide +kernel
theorem dX8_gives_14 : decode cX8_gives 14 = .ok (.iload_n 1, 1) := by decide +kernel
theorem dX8_gives_15 : decode cX8_gives 15 = .ok (.aload_n 0, 1) := by decide +kernel
theorem dX8_gives_16 : decode cX8_gives 16 = .ok (.getfield 28, 3) := by decide +kernel
theorem dX8_gives_19 : decode cX8_gives 19 = .ok (.iconst 4, 1) := by decide +kernel
theorem dX8_gives_20 : decode cX8_gives 20 = .ok (.iload_n 1, 1) := by decide +kernel
theorem dX8_gives_21 : decode cX8_gives 21 = .ok (.imul, 1) := by decide +kernel
theorem dX8_gives_22 : decode cX8_gives 22 = .ok (.iconst 3, 1) := by decide +kernel
theorem dX8_gives_23 : decode cX8_gives 23 = .ok (.iadd, 1) := by decide +kernel
theorem dX8_gives_24 : decode cX8_gives 24 = .ok (.iaload, 1) := by decide +kernel
theorem dX8_gives_25 : decode cX8_gives 25 = .ok (.iastore, 1) := by decide +kernel
theorem dX8_gives_26 : decode cX8_gives 26 = .ok (.aload_n 0, 1) := by decide +kernel
theorem dX8_gives_27 : decode cX8_gives 27 = .ok (.getfield 43, 3) := by decide +kernel
theorem dX8_gives_30 : decode cX8_gives 30 = .ok (.iload_n 1, 1) := by decide +kernel
theorem dX8_gives_31 : decode cX8_gives 31 = .ok (.iload_n 2, 1) := by decide +kernel
theorem dX8_gives_32 : decode cX8_gives 32 = .ok (.iastore, 1) := by decide +kernel
theorem dX8_gives_33 : decode cX8_gives 33 = .ok (.return_, 1) := by decide +kernel
theorem dX8_changesOne_0 : decode cX8_changesOne 0 = .ok (.aload_n 0, 1) := by decide +kernel
theorem dX8_changesOne_1 : decode cX8_changesOne 1 = .ok (.getfield 28, 3) := by decide +kernel
theorem dX8_changesOne_4 : decode cX8_changesOne 4 = .ok (.iconst 4, 1) := by decide +kernel
theorem dX8_changesOne_5 : decode cX8_changesOne 5 = .ok (.iload_n 1, 1) := by decide +kernel
theorem dX8_changesOne_6 : decode cX8_changesOne 6 = .ok (.imul, 1) := by decide +kernel
theorem dX8_changesOne_7 : decode cX8_changesOne 7 = .ok (.iconst 3, 1) := by decide +kernel
theorem dX8_changesOne_8 : decode cX8_changesOne 8 = .ok (.iadd, 1) := by decide +kernel
theorem dX8_changesOne_9 : decode cX8_changesOne 9 = .ok (.iaload, 1) := by decide +kernel
theorem dX8_changesOne_10 : decode cX8_changesOne 10 = .ok (.istore_n 2, 1) := by decide +kernel
theorem dX8_changesOne_11 : decode cX8_changesOne 11 = .ok (.aload_n 0, 1) := by decide +kernel
theorem dX8_changesOne_12 : decode cX8_changesOne 12 = .ok (.iload_n 2, 1) := by decide +kernel
theorem dX8_changesOne_13 : decode cX8_changesOne 13 = .ok (.invokevirtual 164, 3) := by decide +kernel
theorem dX8_changesOne_16 : decode cX8_changesOne 16 = .ok (.istore_n 3, 1) := by decide +kernel
theorem dX8_changesOne_17 : decode cX8_changesOne 17 = .ok (.iload_n 3, 1) := by decide +kernel
theorem dX8_changesOne_18 : decode cX8_changesOne 18 = .ok (.iconst (-1), 1) := by decide +kernel
theorem dX8_changesOne_19 : decode cX8_changesOne 19 = .ok (.if_icmp .eq 16, 3) := by decide +kernel
theorem dX8_changesOne_22 : decode cX8_changesOne 22 = .ok (.aload_n 0, 1) := by decide +kernel
theorem dX8_changesOne_23 : decode cX8_changesOne 23 = .ok (.iload_n 3, 1) := by decide +kernel
theorem dX8_changesOne_24 : decode cX8_changesOne 24 = .ok (.invokevirtual 167, 3) := by decide +kernel
theorem dX8_changesOne_27 : decode cX8_changesOne 27 = .ok (.aload_n 0, 1) := by decide +kernel
theorem dX8_changesOne_28 : decode cX8_changesOne 28 = .ok (.iload_n 1, 1) := by decide +kernel
theorem dX8_changesOne_29 : decode cX8_changesOne 29 = .ok (.iconst 0, 1) := by decide +kernel
theorem dX8_changesOne_30 : decode cX8_changesOne 30 = .ok (.invokevirtual 170, 3) := by decide +kernel
theorem dX8_changesOne_33 : decode cX8_changesOne 33 = .ok (.iconst 1, 1) := by decide +kernel
theorem dX8_changesOne_34 : decode cX8_changesOne 34 = .ok (.ireturn, 1) := by decide +kernel
theorem dX8_changesOne_35 : decode cX8_changesOne 35 = .ok (.aload_n 0, 1) := by decide +kernel
theorem dX8_changesOne_36 : decode cX8_changesOne 36 = .ok (.iload_n 2, 1) := by decide +kernel
theorem dX8_changesOne_37 : decode cX8_changesOne 37 = .ok (.bipush 8, 2) := by decide +kernel
theorem dX8_changesOne_39 : decode cX8_changesOne 39 = .ok (.iadd, 1) := by decide +kernel
theorem dX8_changesOne_40 : decode cX8_changesOne 40 = .ok (.invokevirtual 164, 3) := by decide +kernel
theorem dX8_changesOne_43 : decode cX8_changesOne 43 = .ok (.istore 4, 2) := by decide +kernel
theorem dX8_changesOne_45 : decode cX8_changesOne 45 = .ok (.iload 4, 2) := by decide +kernel
theorem dX8_changesOne_47 : decode cX8_changesOne 47 = .ok (.iconst (-1), 1) := by decide +kernel
theorem dX8_changesOne_48 : decode cX8_changesOne 48 = .ok (.if_icmp .ne 7, 3) := by decide +kernel
theorem dX8_changesOne_51 : decode cX8_changesOne 51 = .ok (.iconst (-1), 1) := by decide +kernel
theorem dX8_changesOne_52 : decode cX8_changesOne 52 = .ok (.goto 8, 3) := by decide +kernel
theorem dX8_changesOne_55 : decode cX8_changesOne 55 = .ok (.aload_n 0, 1) := by decide +kernel
theorem dX8_changesOne_56 : decode cX8_changesOne 56 = .ok (.iload_n 1, 1) := by decide +kernel
theorem dX8_changesOne_57 : decode cX8_changesOne 57 = .ok (.invokevirtual 174, 3) := by decide +kernel
theorem dX8_changesOne_60 : decode cX8_changesOne 60 = .ok (.istore 5, 2) := by decide +kernel
theorem dX8_changesOne_62 : decode cX8_changesOne 62 = .ok (.iload 5, 2) := by decide +kernel
theorem dX8_changesOne_64 : decode cX8_changesOne 64 = .ok (.iconst (-1), 1) := by decide +kernel
theorem dX8_changesOne_65 : decode cX8_changesOne 65 = .ok (.if_icmp .ne 5, 3) := by decide +kernel
theorem dX8_changesOne_68 : decode cX8_changesOne 68 = .ok (.iconst 0, 1) := by decide +kernel
theorem dX8_changesOne_69 : decode cX8_changesOne 69 = .ok (.ireturn, 1) := by decide +kernel
theorem dX8_changesOne_70 : decode cX8_changesOne 70 = .ok (.aload_n 0, 1) := by decide +kernel
theorem dX8_changesOne_71 : decode cX8_changesOne 71 = .ok (.iload 4, 2) := by decide +kernel
theorem dX8_changesOne_73 : decode cX8_changesOne 73 = .ok (.invokevirtual 167, 3) := by decide +kernel
theorem dX8_changesOne_76 : decode cX8_changesOne 76 = .ok (.aload_n 0, 1) := by decide +kernel
theorem dX8_changesOne_77 : decode cX8_changesOne 77 = .ok (.iload_n 1, 1) := by decide +kernel
theorem dX8_changesOne_78 : decode cX8_changesOne 78 = .ok (.iconst 1, 1) := by decide +kernel
theorem dX8_changesOne_79 : decode cX8_changesOne 79 = .ok (.invokevirtual 170, 3) := by decide +kernel
theorem dX8_changesOne_82 : decode cX8_changesOne 82 = .ok (.aload_n 0, 1) := by decide +kernel
theorem dX8_changesOne_83 : decode cX8_changesOne 83 = .ok (.iload 5, 2) := by decide +kernel
theorem dX8_changesOne_85 : decode cX8_changesOne 85 = .ok (.iconst 1, 1) := by decide +kernel
theorem dX8_changesOne_86 : decode cX8_changesOne 86 = .ok (.invokevirtual 170, 3) := by decide +kernel
theorem dX8_changesOne_89 : decode cX8_changesOne 89 = .ok (.iconst 1, 1) := by decide +kernel
theorem dX8_changesOne_90 : decode cX8_changesOne 90 = .ok (.ireturn, 1) := by decide +kernel
theorem dX8_stops_0 : decode cX8_stops 0 = .ok (.iconst 0, 1) := by decide +kernel
theorem dX8_stops_1 : decode cX8_stops 1 = .ok (.istore_n 3, 1) := by decide +kernel
theorem dX8_stops_2 : decode cX8_stops 2 = .ok (.iload_n 3, 1) := by decide +kernel
theorem dX8_stops_3 : decode cX8_stops 3 = .ok (.aload_n 0, 1) := by decide +kernel
theorem dX8_stops_4 : decode cX8_stops 4 = .ok (.getfield 120, 3) := by decide +kernel
theorem dX8_stops_7 : decode cX8_stops 7 = .ok (.if_icmp .ge 95, 3) := by decide +kernel
theorem dX8_stops_10 : decode cX8_stops 10 = .ok (.aload_n 0, 1) := by decide +kernel
theorem dX8_stops_11 : decode cX8_stops 11 = .ok (.getfield 150, 3) := by decide +kernel
theorem dX8_stops_14 : decode cX8_stops 14 = .ok (.iload_n 3, 1) := by decide +kernel
theorem dX8_stops_15 : decode cX8_stops 15 = .ok (.invokestatic 153, 3) := by decide +kernel
theorem dX8_stops_18 : decode cX8_stops 18 = .ok (.ifCond .eq 78, 3) := by decide +kernel
theorem dX8_stops_21 : decode cX8_stops 21 = .ok (.aload_n 0, 1) := by decide +kernel
theorem dX8_stops_22 : decode cX8_stops 22 = .ok (.getfield 28, 3) := by decide +kernel
theorem dX8_stops_25 : decode cX8_stops 25 = .ok (.iconst 4, 1) := by decide +kernel
theorem dX8_stops_26 : decode cX8_stops 26 = .ok (.iload_n 3, 1) := by decide +kernel
theorem dX8_stops_27 : decode cX8_stops 27 = .ok (.imul, 1) := by decide +kernel
theorem dX8_stops_28 : decode cX8_stops 28 = .ok (.iconst 2, 1) := by decide +kernel
theorem dX8_stops_29 : decode cX8_stops 29 = .ok (.iadd, 1) := by decide +kernel
theorem dX8_stops_30 : decode cX8_stops 30 = .ok (.iaload, 1) := by decide +kernel
theorem dX8_stops_31 : decode cX8_stops 31 = .ok (.iload_n 2, 1) := by decide +kernel
theorem dX8_stops_32 : decode cX8_stops 32 = .ok (.if_icmp .ne 64, 3) := by decide +kernel
theorem dX8_stops_35 : decode cX8_stops 35 = .ok (.aload_n 0, 1) := by decide +kernel
theorem dX8_stops_36 : decode cX8_stops 36 = .ok (.dup, 1) := by decide +kernel
theorem dX8_stops_37 : decode cX8_stops 37 = .ok (.getfield 150, 3) := by decide +kernel
theorem dX8_stops_40 : decode cX8_stops 40 = .ok (.iconst 1, 1) := by decide +kernel
theorem dX8_stops_41 : decode cX8_stops 41 = .ok (.iload_n 3, 1) := by decide +kernel
theorem dX8_stops_42 : decode cX8_stops 42 = .ok (.ishl, 1) := by decide +kernel
theorem dX8_stops_43 : decode cX8_stops 43 = .ok (.iconst (-1), 1) := by decide +kernel
theorem dX8_stops_44 : decode cX8_stops 44 = .ok (.ixor, 1) := by decide +kernel
theorem dX8_stops_45 : decode cX8_stops 45 = .ok (.iand, 1) := by decide +kernel
theorem dX8_stops_46 : decode cX8_stops 46 = .ok (.putfield 150, 3) := by decide +kernel
theorem dX8_stops_49 : decode cX8_stops 49 = .ok (.aload_n 0, 1) := by decide +kernel
theorem dX8_stops_50 : decode cX8_stops 50 = .ok (.getfield 37, 3) := by decide +kernel
theorem dX8_stops_53 : decode cX8_stops 53 = .ok (.iconst 2, 1) := by decide +kernel
theorem dX8_stops_54 : decode cX8_stops 54 = .ok (.iaload, 1) := by decide +kernel
theorem dX8_stops_55 : decode cX8_stops 55 = .ok (.iload_n 3, 1) := by decide +kernel
theorem dX8_stops_56 : decode cX8_stops 56 = .ok (.invokestatic 153, 3) := by decide +kernel
theorem dX8_stops_59 : decode cX8_stops 59 = .ok (.ifCond .eq 37, 3) := by decide +kernel
theorem dX8_stops_62 : decode cX8_stops 62 = .ok (.aload_n 0, 1) := by decide +kernel
theorem dX8_stops_63 : decode cX8_stops 63 = .ok (.getfield 40, 3) := by decide +kernel
theorem dX8_stops_66 : decode cX8_stops 66 = .ok (.iload_n 3, 1) := by decide +kernel
theorem dX8_stops_67 : decode cX8_stops 67 = .ok (.iaload, 1) := by decide +kernel
theorem dX8_stops_68 : decode cX8_stops 68 = .ok (.iconst (-1), 1) := by decide +kernel
theorem dX8_stops_69 : decode cX8_stops 69 = .ok (.if_icmp .eq 27, 3) := by decide +kernel
theorem dX8_stops_72 : decode cX8_stops 72 = .ok (.aload_n 0, 1) := by decide +kernel
theorem dX8_stops_73 : decode cX8_stops 73 = .ok (.aload_n 0, 1) := by decide +kernel
theorem dX8_stops_74 : decode cX8_stops 74 = .ok (.getfield 40, 3) := by decide +kernel
theorem dX8_stops_77 : decode cX8_stops 77 = .ok (.iload_n 3, 1) := by decide +kernel
theorem dX8_stops_78 : decode cX8_stops 78 = .ok (.iaload, 1) := by decide +kernel
theorem dX8_stops_79 : decode cX8_stops 79 = .ok (.invokevirtual 160, 3) := by decide +kernel
theorem dX8_stops_82 : decode cX8_stops 82 = .ok (.aload_n 0, 1) := by decide +kernel
theorem dX8_stops_83 : decode cX8_stops 83 = .ok (.getfield 40, 3) := by decide +kernel
theorem dX8_stops_86 : decode cX8_stops 86 = .ok (.iload_n 3, 1) := by decide +kernel
theorem dX8_stops_87 : decode cX8_stops 87 = .ok (.iconst (-1), 1) := by decide +kernel
theorem dX8_stops_88 : decode cX8_stops 88 = .ok (.iastore, 1) := by decide +kernel
theorem dX8_stops_89 : decode cX8_stops 89 = .ok (.aload_n 0, 1) := by decide +kernel
theorem dX8_stops_90 : decode cX8_stops 90 = .ok (.getfield 43, 3) := by decide +kernel
theorem dX8_stops_93 : decode cX8_stops 93 = .ok (.iload_n 3, 1) := by decide +kernel
theorem dX8_stops_94 : decode cX8_stops 94 = .ok (.iconst 0, 1) := by decide +kernel
theorem dX8_stops_95 : decode cX8_stops 95 = .ok (.iastore, 1) := by decide +kernel
theorem dX8_stops_96 : decode cX8_stops 96 = .ok (.iinc 3 1, 3) := by decide +kernel
theorem dX8_stops_99 : decode cX8_stops 99 = .ok (.goto (-97), 3) := by decide +kernel
theorem dX8_stops_102 : decode cX8_stops 102 = .ok (.iconst 0, 1) := by decide +kernel
theorem dX8_stops_103 : decode cX8_stops 103 = .ok (.istore_n 3, 1) := by decide +kernel
theorem dX8_stops_104 : decode cX8_stops 104 = .ok (.iload_n 3, 1) := by decide +kernel
theorem dX8_stops_105 : decode cX8_stops 105 = .ok (.aload_n 0, 1) := by decide +kernel
theorem dX8_stops_106 : decode cX8_stops 106 = .ok (.getfield 120, 3) := by decide +kernel
theorem dX8_stops_109 : decode cX8_stops 109 = .ok (.if_icmp .ge 53, 3) := by decide +kernel
theorem dX8_stops_112 : decode cX8_stops 112 = .ok (.aload_n 0, 1) := by decide +kernel
theorem dX8_stops_113 : decode cX8_stops 113 = .ok (.dup, 1) := by decide +kernel
theorem dX8_stops_114 : decode cX8_stops 114 = .ok (.getfield 150, 3) := by decide +kernel
theorem dX8_stops_117 : decode cX8_stops 117 = .ok (.aload_n 0, 1) := by decide +kernel
theorem dX8_stops_118 : decode cX8_stops 118 = .ok (.getfield 28, 3) := by decide +kernel
theorem dX8_stops_121 : decode cX8_stops 121 = .ok (.iconst 4, 1) := by decide +kernel
theorem dX8_stops_122 : decode cX8_stops 122 = .ok (.iload_n 3, 1) := by decide +kernel
theorem dX8_stops_123 : decode cX8_stops 123 = .ok (.imul, 1) := by decide +kernel
theorem dX8_stops_124 : decode cX8_stops 124 = .ok (.iconst 1, 1) := by decide +kernel
theorem dX8_stops_125 : decode cX8_stops 125 = .ok (.iadd, 1) := by decide +kernel
theorem dX8_stops_126 : decode cX8_stops 126 = .ok (.iaload, 1) := by decide +kernel
theorem dX8_stops_127 : decode cX8_stops 127 = .ok (.iload_n 2, 1) := by decide +kernel
theorem dX8_stops_128 : decode cX8_stops 128 = .ok (.if_icmp .ne 23, 3) := by decide +kernel
theorem dX8_stops_131 : decode cX8_stops 131 = .ok (.aload_n 0, 1) := by decide +kernel
theorem dX8_stops_132 : decode cX8_stops 132 = .ok (.getfield 28, 3) := by decide +kernel
theorem dX8_stops_135 : decode cX8_stops 135 = .ok (.iconst 4, 1) := by decide +kernel
theorem dX8_stops_136 : decode cX8_stops 136 = .ok (.iload_n 3, 1) := by decide +kernel
theorem dX8_stops_137 : decode cX8_stops 137 = .ok (.imul, 1) := by decide +kernel
theorem dX8_stops_138 : decode cX8_stops 138 = .ok (.iconst 2, 1) := by decide +kernel
theorem dX8_stops_139 : decode cX8_stops 139 = .ok (.iadd, 1) := by decide +kernel
theorem dX8_stops_140 : decode cX8_stops 140 = .ok (.iaload, 1) := by decide +kernel
theorem dX8_stops_141 : decode cX8_stops 141 = .ok (.iload_n 2, 1) := by decide +kernel
theorem dX8_stops_142 : decode cX8_stops 142 = .ok (.if_icmp .le 9, 3) := by decide +kernel
theorem dX8_stops_145 : decode cX8_stops 145 = .ok (.iconst 1, 1) := by decide +kernel
theorem dX8_stops_146 : decode cX8_stops 146 = .ok (.iload_n 3, 1) := by decide +kernel
theorem dX8_stops_147 : decode cX8_stops 147 = .ok (.ishl, 1) := by decide +kernel
theorem dX8_stops_148 : decode cX8_stops 148 = .ok (.goto 4, 3) := by decide +kernel
theorem dX8_stops_151 : decode cX8_stops 151 = .ok (.iconst 0, 1) := by decide +kernel
theorem dX8_stops_152 : decode cX8_stops 152 = .ok (.ior, 1) := by decide +kernel
theorem dX8_stops_153 : decode cX8_stops 153 = .ok (.putfield 150, 3) := by decide +kernel
theorem dX8_stops_156 : decode cX8_stops 156 = .ok (.iinc 3 1, 3) := by decide +kernel
theorem dX8_stops_159 : decode cX8_stops 159 = .ok (.goto (-55), 3) := by decide +kernel
theorem dX8_stops_162 : decode cX8_stops 162 = .ok (.iconst 0, 1) := by decide +kernel
theorem dX8_stops_163 : decode cX8_stops 163 = .ok (.istore_n 3, 1) := by decide +kernel
theorem dX8_stops_164 : decode cX8_stops 164 = .ok (.iload_n 3, 1) := by decide +kernel
theorem dX8_stops_165 : decode cX8_stops 165 = .ok (.aload_n 0, 1) := by decide +kernel
theorem dX8_stops_166 : decode cX8_stops 166 = .ok (.getfield 120, 3) := by decide +kernel
theorem dX8_stops_169 : decode cX8_stops 169 = .ok (.if_icmp .ge 76, 3) := by decide +kernel
theorem dX8_stops_172 : decode cX8_stops 172 = .ok (.aload_n 0, 1) := by decide +kernel
theorem dX8_stops_173 : decode cX8_stops 173 = .ok (.getfield 37, 3) := by decide +kernel
theorem dX8_stops_176 : decode cX8_stops 176 = .ok (.iconst 1, 1) := by decide +kernel
theorem dX8_stops_177 : decode cX8_stops 177 = .ok (.iaload, 1) := by decide +kernel
theorem dX8_stops_178 : decode cX8_stops 178 = .ok (.iload_n 2, 1) := by decide +kernel
theorem dX8_stops_179 : decode cX8_stops 179 = .ok (.invokestatic 153, 3) := by decide +kernel
theorem dX8_stops_182 : decode cX8_stops 182 = .ok (.ifCond .eq 63, 3) := by decide +kernel
theorem dX8_stops_185 : decode cX8_stops 185 = .ok (.aload_n 0, 1) := by decide +kernel
theorem dX8_stops_186 : decode cX8_stops 186 = .ok (.iload_n 3, 1) := by decide +kernel
theorem dX8_stops_187 : decode cX8_stops 187 = .ok (.invokevirtual 157, 3) := by decide +kernel
theorem dX8_stops_190 : decode cX8_stops 190 = .ok (.ifCond .eq 49, 3) := by decide +kernel
theorem dX8_stops_193 : decode cX8_stops 193 = .ok (.aload_n 0, 1) := by decide +kernel
theorem dX8_stops_194 : decode cX8_stops 194 = .ok (.iload_n 3, 1) := by decide +kernel
theorem dX8_stops_195 : decode cX8_stops 195 = .ok (.invokevirtual 177, 3) := by decide +kernel
theorem dX8_stops_198 : decode cX8_stops 198 = .ok (.ifCond .eq 41, 3) := by decide +kernel
theorem dX8_stops_201 : decode cX8_stops 201 = .ok (.aload_n 0, 1) := by decide +kernel
theorem dX8_stops_202 : decode cX8_stops 202 = .ok (.getfield 180, 3) := by decide +kernel
theorem dX8_stops_205 : decode cX8_stops 205 = .ok (.ifCond .ne 24, 3) := by decide +kernel
theorem dX8_stops_208 : decode cX8_stops 208 = .ok (.aload_n 0, 1) := by decide +kernel
theorem dX8_stops_209 : decode cX8_stops 209 = .ok (.getfield 61, 3) := by decide +kernel
theorem dX8_stops_212 : decode cX8_stops 212 = .ok (.iconst 0, 1) := by decide +kernel
theorem dX8_stops_213 : decode cX8_stops 213 = .ok (.iload_n 1, 1) := by decide +kernel
theorem dX8_stops_214 : decode cX8_stops 214 = .ok (.iastore, 1) := by decide +kernel
theorem dX8_stops_215 : decode cX8_stops 215 = .ok (.aload_n 0, 1) := by decide +kernel
theorem dX8_stops_216 : decode cX8_stops 216 = .ok (.getfield 61, 3) := by decide +kernel
theorem dX8_stops_219 : decode cX8_stops 219 = .ok (.iconst 1, 1) := by decide +kernel
theorem dX8_stops_220 : decode cX8_stops 220 = .ok (.iload_n 2, 1) := by decide +kernel
theorem dX8_stops_221 : decode cX8_stops 221 = .ok (.iastore, 1) := by decide +kernel
theorem dX8_stops_222 : decode cX8_stops 222 = .ok (.aload_n 0, 1) := by decide +kernel
theorem dX8_stops_223 : decode cX8_stops 223 = .ok (.getfield 61, 3) := by decide +kernel
theorem dX8_stops_226 : decode cX8_stops 226 = .ok (.iconst 2, 1) := by decide +kernel
theorem dX8_stops_227 : decode cX8_stops 227 = .ok (.iload_n 3, 1) := by decide +kernel
theorem dX8_stops_228 : decode cX8_stops 228 = .ok (.iastore, 1) := by decide +kernel
theorem dX8_stops_229 : decode cX8_stops 229 = .ok (.aload_n 0, 1) := by decide +kernel
theorem dX8_stops_230 : decode cX8_stops 230 = .ok (.dup, 1) := by decide +kernel
theorem dX8_stops_231 : decode cX8_stops 231 = .ok (.getfield 180, 3) := by decide +kernel
theorem dX8_stops_234 : decode cX8_stops 234 = .ok (.iconst 1, 1) := by decide +kernel
theorem dX8_stops_235 : decode cX8_stops 235 = .ok (.iadd, 1) := by decide +kernel
theorem dX8_stops_236 : decode cX8_stops 236 = .ok (.putfield 180, 3) := by decide +kernel
theorem dX8_stops_239 : decode cX8_stops 239 = .ok (.iinc 3 1, 3) := by decide +kernel
theorem dX8_stops_242 : decode cX8_stops 242 = .ok (.goto (-78), 3) := by decide +kernel
theorem dX8_stops_245 : decode cX8_stops 245 = .ok (.return_, 1) := by decide +kernel
theorem dX8_keeps_0 : decode cX8_keeps 0 = .ok (.iconst 0, 1) := by decide +kernel
theorem dX8_keeps_1 : decode cX8_keeps 1 = .ok (.istore_n 2, 1) := by decide +kernel
theorem dX8_keeps_2 : decode cX8_keeps 2 = .ok (.iload_n 2, 1) := by decide +kernel
theorem dX8_keeps_3 : decode cX8_keeps 3 = .ok (.aload_n 0, 1) := by decide +kernel
theorem dX8_keeps_4 : decode cX8_keeps 4 = .ok (.getfield 120, 3) := by decide +kernel
theorem dX8_keeps_7 : decode cX8_keeps 7 = .ok (.if_icmp .ge 43, 3) := by decide +kernel
theorem dX8_keeps_10 : decode cX8_keeps 10 = .ok (.aload_n 0, 1) := by decide +kernel
theorem dX8_keeps_11 : decode cX8_keeps 11 = .ok (.getfield 49, 3) := by decide +kernel
theorem dX8_keeps_14 : decode cX8_keeps 14 = .ok (.bipush 8, 2) := by decide +kernel
theorem dX8_keeps_16 : decode cX8_keeps 16 = .ok (.iload_n 1, 1) := by decide +kernel
theorem dX8_keeps_17 : decode cX8_keeps 17 = .ok (.imul, 1) := by decide +kernel
theorem dX8_keeps_18 : decode cX8_keeps 18 = .ok (.iload_n 2, 1) := by decide +kernel
theorem dX8_keeps_19 : decode cX8_keeps 19 = .ok (.iadd, 1) := by decide +kernel
theorem dX8_keeps_20 : decode cX8_keeps 20 = .ok (.aload_n 0, 1) := by decide +kernel
theorem dX8_keeps_21 : decode cX8_keeps 21 = .ok (.getfield 40, 3) := by decide +kernel
theorem dX8_keeps_24 : decode cX8_keeps 24 = .ok (.iload_n 2, 1) := by decide +kernel
theorem dX8_keeps_25 : decode cX8_keeps 25 = .ok (.iaload, 1) := by decide +kernel
theorem dX8_keeps_26 : decode cX8_keeps 26 = .ok (.iastore, 1) := by decide +kernel
theorem dX8_keeps_27 : decode cX8_keeps 27 = .ok (.aload_n 0, 1) := by decide +kernel
theorem dX8_keeps_28 : decode cX8_keeps 28 = .ok (.getfield 52, 3) := by decide +kernel
theorem dX8_keeps_31 : decode cX8_keeps 31 = .ok (.bipush 8, 2) := by decide +kernel
theorem dX8_keeps_33 : decode cX8_keeps 33 = .ok (.iload_n 1, 1) := by decide +kernel
theorem dX8_keeps_34 : decode cX8_keeps 34 = .ok (.imul, 1) := by decide +kernel
theorem dX8_keeps_35 : decode cX8_keeps 35 = .ok (.iload_n 2, 1) := by decide +kernel
theorem dX8_keeps_36 : decode cX8_keeps 36 = .ok (.iadd, 1) := by decide +kernel
theorem dX8_keeps_37 : decode cX8_keeps 37 = .ok (.aload_n 0, 1) := by decide +kernel
theorem dX8_keeps_38 : decode cX8_keeps 38 = .ok (.getfield 43, 3) := by decide +kernel
theorem dX8_keeps_41 : decode cX8_keeps 41 = .ok (.iload_n 2, 1) := by decide +kernel
theorem dX8_keeps_42 : decode cX8_keeps 42 = .ok (.iaload, 1) := by decide +kernel
theorem dX8_keeps_43 : decode cX8_keeps 43 = .ok (.iastore, 1) := by decide +kernel
theorem dX8_keeps_44 : decode cX8_keeps 44 = .ok (.iinc 2 1, 3) := by decide +kernel
theorem dX8_keeps_47 : decode cX8_keeps 47 = .ok (.goto (-45), 3) := by decide +kernel
theorem dX8_keeps_50 : decode cX8_keeps 50 = .ok (.aload_n 0, 1) := by decide +kernel
theorem dX8_keeps_51 : decode cX8_keeps 51 = .ok (.getfield 55, 3) := by decide +kernel
theorem dX8_keeps_54 : decode cX8_keeps 54 = .ok (.iload_n 1, 1) := by decide +kernel
theorem dX8_keeps_55 : decode cX8_keeps 55 = .ok (.aload_n 0, 1) := by decide +kernel
theorem dX8_keeps_56 : decode cX8_keeps 56 = .ok (.getfield 147, 3) := by decide +kernel
theorem dX8_keeps_59 : decode cX8_keeps 59 = .ok (.iastore, 1) := by decide +kernel
theorem dX8_keeps_60 : decode cX8_keeps 60 = .ok (.iconst 0, 1) := by decide +kernel
theorem dX8_keeps_61 : decode cX8_keeps 61 = .ok (.istore_n 2, 1) := by decide +kernel
theorem dX8_keeps_62 : decode cX8_keeps 62 = .ok (.iload_n 2, 1) := by decide +kernel
theorem dX8_keeps_63 : decode cX8_keeps 63 = .ok (.aload_n 0, 1) := by decide +kernel
theorem dX8_keeps_64 : decode cX8_keeps 64 = .ok (.getfield 147, 3) := by decide +kernel
theorem dX8_keeps_67 : decode cX8_keeps 67 = .ok (.if_icmp .ge 26, 3) := by decide +kernel
theorem dX8_keeps_70 : decode cX8_keeps 70 = .ok (.aload_n 0, 1) := by decide +kernel
theorem dX8_keeps_71 : decode cX8_keeps 71 = .ok (.getfield 58, 3) := by decide +kernel
theorem dX8_keeps_74 : decode cX8_keeps 74 = .ok (.bipush 29, 2) := by decide +kernel
theorem dX8_keeps_76 : decode cX8_keeps 76 = .ok (.iload_n 1, 1) := by decide +kernel
theorem dX8_keeps_77 : decode cX8_keeps 77 = .ok (.imul, 1) := by decide +kernel
theorem dX8_keeps_78 : decode cX8_keeps 78 = .ok (.iload_n 2, 1) := by decide +kernel
theorem dX8_keeps_79 : decode cX8_keeps 79 = .ok (.iadd, 1) := by decide +kernel
theorem dX8_keeps_80 : decode cX8_keeps 80 = .ok (.aload_n 0, 1) := by decide +kernel
theorem dX8_keeps_81 : decode cX8_keeps 81 = .ok (.getfield 46, 3) := by decide +kernel
theorem dX8_keeps_84 : decode cX8_keeps 84 = .ok (.iload_n 2, 1) := by decide +kernel
theorem dX8_keeps_85 : decode cX8_keeps 85 = .ok (.iaload, 1) := by decide +kernel
theorem dX8_keeps_86 : decode cX8_keeps 86 = .ok (.iastore, 1) := by decide +kernel
theorem dX8_keeps_87 : decode cX8_keeps 87 = .ok (.iinc 2 1, 3) := by decide +kernel
theorem dX8_keeps_90 : decode cX8_keeps 90 = .ok (.goto (-28), 3) := by decide +kernel
theorem dX8_keeps_93 : decode cX8_keeps 93 = .ok (.return_, 1) := by decide +kernel
theorem dX8_begins_0 : decode cX8_begins 0 = .ok (.aload_n 0, 1) := by decide +kernel
theorem dX8_begins_1 : decode cX8_begins 1 = .ok (.iconst 0, 1) := by decide +kernel
theorem dX8_begins_2 : decode cX8_begins 2 = .ok (.putfield 147, 3) := by decide +kernel
theorem dX8_begins_5 : decode cX8_begins 5 = .ok (.aload_n 0, 1) := by decide +kernel
theorem dX8_begins_6 : decode cX8_begins 6 = .ok (.getfield 70, 3) := by decide +kernel
theorem dX8_begins_9 : decode cX8_begins 9 = .ok (.iconst (-1), 1) := by decide +kernel
theorem dX8_begins_10 : decode cX8_begins 10 = .ok (.if_icmp .eq 11, 3) := by decide +kernel
theorem dX8_begins_13 : decode cX8_begins 13 = .ok (.aload_n 0, 1) := by decide +kernel
theorem dX8_begins_14 : decode cX8_begins 14 = .ok (.aload_n 0, 1) := by decide +kernel
theorem dX8_begins_15 : decode cX8_begins 15 = .ok (.getfield 70, 3) := by decide +kernel
theorem dX8_begins_18 : decode cX8_begins 18 = .ok (.invokevirtual 160, 3) := by decide +kernel
theorem dX8_begins_21 : decode cX8_begins 21 = .ok (.iconst 0, 1) := by decide +kernel
theorem dX8_begins_22 : decode cX8_begins 22 = .ok (.istore_n 1, 1) := by decide +kernel
theorem dX8_begins_23 : decode cX8_begins 23 = .ok (.iload_n 1, 1) := by decide +kernel
theorem dX8_begins_24 : decode cX8_begins 24 = .ok (.aload_n 0, 1) := by decide +kernel
theorem dX8_begins_25 : decode cX8_begins 25 = .ok (.getfield 126, 3) := by decide +kernel
theorem dX8_begins_28 : decode cX8_begins 28 = .ok (.if_icmp .ge 19, 3) := by decide +kernel
theorem dX8_begins_31 : decode cX8_begins 31 = .ok (.aload_n 0, 1) := by decide +kernel
theorem dX8_begins_32 : decode cX8_begins 32 = .ok (.aload_n 0, 1) := by decide +kernel
theorem dX8_begins_33 : decode cX8_begins 33 = .ok (.getfield 31, 3) := by decide +kernel
theorem dX8_begins_36 : decode cX8_begins 36 = .ok (.iload_n 1, 1) := by decide +kernel
theorem dX8_begins_37 : decode cX8_begins 37 = .ok (.iaload, 1) := by decide +kernel
theorem dX8_begins_38 : decode cX8_begins 38 = .ok (.invokevirtual 160, 3) := by decide +kernel
theorem dX8_begins_41 : decode cX8_begins 41 = .ok (.iinc 1 1, 3) := by decide +kernel
theorem dX8_begins_44 : decode cX8_begins 44 = .ok (.goto (-21), 3) := by decide +kernel
theorem dX8_begins_47 : decode cX8_begins 47 = .ok (.iconst 0, 1) := by decide +kernel
theorem dX8_begins_48 : decode cX8_begins 48 = .ok (.istore_n 1, 1) := by decide +kernel
theorem dX8_begins_49 : decode cX8_begins 49 = .ok (.iload_n 1, 1) := by decide +kernel
theorem dX8_begins_50 : decode cX8_begins 50 = .ok (.aload_n 0, 1) := by decide +kernel
theorem dX8_begins_51 : decode cX8_begins 51 = .ok (.getfield 120, 3) := by decide +kernel
theorem dX8_begins_54 : decode cX8_begins 54 = .ok (.if_icmp .ge 30, 3) := by decide +kernel
theorem dX8_begins_57 : decode cX8_begins 57 = .ok (.aload_n 0, 1) := by decide +kernel
theorem dX8_begins_58 : decode cX8_begins 58 = .ok (.getfield 40, 3) := by decide +kernel
theorem dX8_begins_61 : decode cX8_begins 61 = .ok (.iload_n 1, 1) := by decide +kernel
theorem dX8_begins_62 : decode cX8_begins 62 = .ok (.aload_n 0, 1) := by decide +kernel
theorem dX8_begins_63 : decode cX8_begins 63 = .ok (.getfield 28, 3) := by decide +kernel
theorem dX8_begins_66 : decode cX8_begins 66 = .ok (.iconst 4, 1) := by decide +kernel
theorem dX8_begins_67 : decode cX8_begins 67 = .ok (.iload_n 1, 1) := by decide +kernel
theorem dX8_begins_68 : decode cX8_begins 68 = .ok (.imul, 1) := by decide +kernel
theorem dX8_begins_69 : decode cX8_begins 69 = .ok (.iaload, 1) := by decide +kernel
theorem dX8_begins_70 : decode cX8_begins 70 = .ok (.iastore, 1) := by decide +kernel
theorem dX8_begins_71 : decode cX8_begins 71 = .ok (.aload_n 0, 1) := by decide +kernel
theorem dX8_begins_72 : decode cX8_begins 72 = .ok (.getfield 43, 3) := by decide +kernel
theorem dX8_begins_75 : decode cX8_begins 75 = .ok (.iload_n 1, 1) := by decide +kernel
theorem dX8_begins_76 : decode cX8_begins 76 = .ok (.iconst 0, 1) := by decide +kernel
theorem dX8_begins_77 : decode cX8_begins 77 = .ok (.iastore, 1) := by decide +kernel
theorem dX8_begins_78 : decode cX8_begins 78 = .ok (.iinc 1 1, 3) := by decide +kernel
theorem dX8_begins_81 : decode cX8_begins 81 = .ok (.goto (-32), 3) := by decide +kernel
theorem dX8_begins_84 : decode cX8_begins 84 = .ok (.aload_n 0, 1) := by decide +kernel
theorem dX8_begins_85 : decode cX8_begins 85 = .ok (.getfield 61, 3) := by decide +kernel
theorem dX8_begins_88 : decode cX8_begins 88 = .ok (.iconst 0, 1) := by decide +kernel
theorem dX8_begins_89 : decode cX8_begins 89 = .ok (.iconst (-1), 1) := by decide +kernel
theorem dX8_begins_90 : decode cX8_begins 90 = .ok (.iastore, 1) := by decide +kernel
theorem dX8_begins_91 : decode cX8_begins 91 = .ok (.aload_n 0, 1) := by decide +kernel
theorem dX8_begins_92 : decode cX8_begins 92 = .ok (.getfield 61, 3) := by decide +kernel
theorem dX8_begins_95 : decode cX8_begins 95 = .ok (.iconst 1, 1) := by decide +kernel
theorem dX8_begins_96 : decode cX8_begins 96 = .ok (.iconst (-1), 1) := by decide +kernel
theorem dX8_begins_97 : decode cX8_begins 97 = .ok (.iastore, 1) := by decide +kernel
theorem dX8_begins_98 : decode cX8_begins 98 = .ok (.aload_n 0, 1) := by decide +kernel
theorem dX8_begins_99 : decode cX8_begins 99 = .ok (.getfield 61, 3) := by decide +kernel
theorem dX8_begins_102 : decode cX8_begins 102 = .ok (.iconst 2, 1) := by decide +kernel
theorem dX8_begins_103 : decode cX8_begins 103 = .ok (.iconst (-1), 1) := by decide +kernel
theorem dX8_begins_104 : decode cX8_begins 104 = .ok (.iastore, 1) := by decide +kernel
theorem dX8_begins_105 : decode cX8_begins 105 = .ok (.aload_n 0, 1) := by decide +kernel
theorem dX8_begins_106 : decode cX8_begins 106 = .ok (.iconst 0, 1) := by decide +kernel
theorem dX8_begins_107 : decode cX8_begins 107 = .ok (.putfield 180, 3) := by decide +kernel
theorem dX8_begins_110 : decode cX8_begins 110 = .ok (.aload_n 0, 1) := by decide +kernel
theorem dX8_begins_111 : decode cX8_begins 111 = .ok (.iconst (-1), 1) := by decide +kernel
theorem dX8_begins_112 : decode cX8_begins 112 = .ok (.putfield 183, 3) := by decide +kernel
theorem dX8_begins_115 : decode cX8_begins 115 = .ok (.return_, 1) := by decide +kernel
theorem dX8_lives_0 : decode cX8_lives 0 = .ok (.aload_n 0, 1) := by decide +kernel
theorem dX8_lives_1 : decode cX8_lives 1 = .ok (.invokevirtual 186, 3) := by decide +kernel
theorem dX8_lives_4 : decode cX8_lives 4 = .ok (.iconst 0, 1) := by decide +kernel
theorem dX8_lives_5 : decode cX8_lives 5 = .ok (.istore_n 1, 1) := by decide +kernel
theorem dX8_lives_6 : decode cX8_lives 6 = .ok (.iload_n 1, 1) := by decide +kernel
theorem dX8_lives_7 : decode cX8_lives 7 = .ok (.bipush 10, 2) := by decide +kernel
theorem dX8_lives_9 : decode cX8_lives 9 = .ok (.if_icmp .ge 72, 3) := by decide +kernel
theorem dX8_lives_12 : decode cX8_lives 12 = .ok (.aload_n 0, 1) := by decide +kernel
theorem dX8_lives_13 : decode cX8_lives 13 = .ok (.getfield 180, 3) := by decide +kernel
theorem dX8_lives_16 : decode cX8_lives 16 = .ok (.istore_n 2, 1) := by decide +kernel
theorem dX8_lives_17 : decode cX8_lives 17 = .ok (.aload_n 0, 1) := by decide +kernel
theorem dX8_lives_18 : decode cX8_lives 18 = .ok (.iconst 0, 1) := by decide +kernel
theorem dX8_lives_19 : decode cX8_lives 19 = .ok (.putfield 150, 3) := by decide +kernel
theorem dX8_lives_22 : decode cX8_lives 22 = .ok (.iconst 0, 1) := by decide +kernel
theorem dX8_lives_23 : decode cX8_lives 23 = .ok (.istore_n 3, 1) := by decide +kernel
theorem dX8_lives_24 : decode cX8_lives 24 = .ok (.iload_n 3, 1) := by decide +kernel
theorem dX8_lives_25 : decode cX8_lives 25 = .ok (.bipush 10, 2) := by decide +kernel
theorem dX8_lives_27 : decode cX8_lives 27 = .ok (.if_icmp .ge 15, 3) := by decide +kernel
theorem dX8_lives_30 : decode cX8_lives 30 = .ok (.aload_n 0, 1) := by decide +kernel
theorem dX8_lives_31 : decode cX8_lives 31 = .ok (.iload_n 1, 1) := by decide +kernel
theorem dX8_lives_32 : decode cX8_lives 32 = .ok (.iload_n 3, 1) := by decide +kernel
theorem dX8_lives_33 : decode cX8_lives 33 = .ok (.invokevirtual 189, 3) := by decide +kernel
theorem dX8_lives_36 : decode cX8_lives 36 = .ok (.iinc 3 1, 3) := by decide +kernel
theorem dX8_lives_39 : decode cX8_lives 39 = .ok (.goto (-15), 3) := by decide +kernel
theorem dX8_lives_42 : decode cX8_lives 42 = .ok (.aload_n 0, 1) := by decide +kernel
theorem dX8_lives_43 : decode cX8_lives 43 = .ok (.aload_n 0, 1) := by decide +kernel
theorem dX8_lives_44 : decode cX8_lives 44 = .ok (.getfield 183, 3) := by decide +kernel
theorem dX8_lives_47 : decode cX8_lives 47 = .ok (.iconst (-1), 1) := by decide +kernel
theorem dX8_lives_48 : decode cX8_lives 48 = .ok (.if_icmp .ne 15, 3) := by decide +kernel
theorem dX8_lives_51 : decode cX8_lives 51 = .ok (.aload_n 0, 1) := by decide +kernel
theorem dX8_lives_52 : decode cX8_lives 52 = .ok (.getfield 180, 3) := by decide +kernel
theorem dX8_lives_55 : decode cX8_lives 55 = .ok (.iload_n 2, 1) := by decide +kernel
theorem dX8_lives_56 : decode cX8_lives 56 = .ok (.if_icmp .ne 7, 3) := by decide +kernel
theorem dX8_lives_59 : decode cX8_lives 59 = .ok (.iload_n 1, 1) := by decide +kernel
theorem dX8_lives_60 : decode cX8_lives 60 = .ok (.goto 7, 3) := by decide +kernel
theorem dX8_lives_63 : decode cX8_lives 63 = .ok (.aload_n 0, 1) := by decide +kernel
theorem dX8_lives_64 : decode cX8_lives 64 = .ok (.getfield 183, 3) := by decide +kernel
theorem dX8_lives_67 : decode cX8_lives 67 = .ok (.putfield 183, 3) := by decide +kernel
theorem dX8_lives_70 : decode cX8_lives 70 = .ok (.aload_n 0, 1) := by decide +kernel
theorem dX8_lives_71 : decode cX8_lives 71 = .ok (.iload_n 1, 1) := by decide +kernel
theorem dX8_lives_72 : decode cX8_lives 72 = .ok (.invokevirtual 192, 3) := by decide +kernel
theorem dX8_lives_75 : decode cX8_lives 75 = .ok (.iinc 1 1, 3) := by decide +kernel
theorem dX8_lives_78 : decode cX8_lives 78 = .ok (.goto (-72), 3) := by decide +kernel
theorem dX8_lives_81 : decode cX8_lives 81 = .ok (.return_, 1) := by decide +kernel
theorem dX8_reads_0 : decode cX8_reads 0 = .ok (.aload_n 0, 1) := by decide +kernel
theorem dX8_reads_1 : decode cX8_reads 1 = .ok (.invokevirtual 133, 3) := by decide +kernel
theorem dX8_reads_4 : decode cX8_reads 4 = .ok (.pop, 1) := by decide +kernel
theorem dX8_reads_5 : decode cX8_reads 5 = .ok (.aload_n 0, 1) := by decide +kernel
theorem dX8_reads_6 : decode cX8_reads 6 = .ok (.invokevirtual 137, 3) := by decide +kernel
theorem dX8_reads_9 : decode cX8_reads 9 = .ok (.pop, 1) := by decide +kernel
theorem dX8_reads_10 : decode cX8_reads 10 = .ok (.aload_n 0, 1) := by decide +kernel
theorem dX8_reads_11 : decode cX8_reads 11 = .ok (.invokevirtual 195, 3) := by decide +kernel
theorem dX8_reads_14 : decode cX8_reads 14 = .ok (.return_, 1) := by decide +kernel
theorem dX8_has_0 : decode cX8_has 0 = .ok (.aload_n 0, 1) := by decide +kernel
theorem dX8_has_1 : decode cX8_has 1 = .ok (.invokevirtual 198, 3) := by decide +kernel
theorem dX8_has_4 : decode cX8_has 4 = .ok (.iload_n 1, 1) := by decide +kernel
theorem dX8_has_5 : decode cX8_has 5 = .ok (.invokestatic 201, 3) := by decide +kernel
theorem dX8_has_8 : decode cX8_has 8 = .ok (.ifCond .eq 25, 3) := by decide +kernel
theorem dX8_has_11 : decode cX8_has 11 = .ok (.aload_n 0, 1) := by decide +kernel
theorem dX8_has_12 : decode cX8_has 12 = .ok (.iload_n 2, 1) := by decide +kernel
theorem dX8_has_13 : decode cX8_has 13 = .ok (.invokevirtual 142, 3) := by decide +kernel
theorem dX8_has_16 : decode cX8_has 16 = .ok (.ifCond .eq 17, 3) := by decide +kernel
theorem dX8_has_19 : decode cX8_has 19 = .ok (.aload_n 0, 1) := by decide +kernel
theorem dX8_has_20 : decode cX8_has 20 = .ok (.getfield 49, 3) := by decide +kernel
theorem dX8_has_23 : decode cX8_has 23 = .ok (.bipush 8, 2) := by decide +kernel
theorem dX8_has_25 : decode cX8_has 25 = .ok (.iload_n 1, 1) := by decide +kernel
theorem dX8_has_26 : decode cX8_has 26 = .ok (.imul, 1) := by decide +kernel
theorem dX8_has_27 : decode cX8_has 27 = .ok (.iload_n 2, 1) := by decide +kernel
theorem dX8_has_28 : decode cX8_has 28 = .ok (.iadd, 1) := by decide +kernel
theorem dX8_has_29 : decode cX8_has 29 = .ok (.iaload, 1) := by decide +kernel
theorem dX8_has_30 : decode cX8_has 30 = .ok (.goto 5, 3) := by decide +kernel
theorem dX8_has_33 : decode cX8_has 33 = .ok (.bipush (-2), 2) := by decide +kernel
theorem dX8_has_35 : decode cX8_has 35 = .ok (.ireturn, 1) := by decide +kernel
theorem dX8_torn_0 : decode cX8_torn 0 = .ok (.aload_n 0, 1) := by decide +kernel
theorem dX8_torn_1 : decode cX8_torn 1 = .ok (.invokevirtual 198, 3) := by decide +kernel
theorem dX8_torn_4 : decode cX8_torn 4 = .ok (.iload_n 1, 1) := by decide +kernel
theorem dX8_torn_5 : decode cX8_torn 5 = .ok (.invokestatic 201, 3) := by decide +kernel
theorem dX8_torn_8 : decode cX8_torn 8 = .ok (.ifCond .eq 25, 3) := by decide +kernel
theorem dX8_torn_11 : decode cX8_torn 11 = .ok (.aload_n 0, 1) := by decide +kernel
theorem dX8_torn_12 : decode cX8_torn 12 = .ok (.iload_n 2, 1) := by decide +kernel
theorem dX8_torn_13 : decode cX8_torn 13 = .ok (.invokevirtual 142, 3) := by decide +kernel
theorem dX8_torn_16 : decode cX8_torn 16 = .ok (.ifCond .eq 17, 3) := by decide +kernel
theorem dX8_torn_19 : decode cX8_torn 19 = .ok (.aload_n 0, 1) := by decide +kernel
theorem dX8_torn_20 : decode cX8_torn 20 = .ok (.getfield 52, 3) := by decide +kernel
theorem dX8_torn_23 : decode cX8_torn 23 = .ok (.bipush 8, 2) := by decide +kernel
theorem dX8_torn_25 : decode cX8_torn 25 = .ok (.iload_n 1, 1) := by decide +kernel
theorem dX8_torn_26 : decode cX8_torn 26 = .ok (.imul, 1) := by decide +kernel
theorem dX8_torn_27 : decode cX8_torn 27 = .ok (.iload_n 2, 1) := by decide +kernel
theorem dX8_torn_28 : decode cX8_torn 28 = .ok (.iadd, 1) := by decide +kernel
theorem dX8_torn_29 : decode cX8_torn 29 = .ok (.iaload, 1) := by decide +kernel
theorem dX8_torn_30 : decode cX8_torn 30 = .ok (.goto 5, 3) := by decide +kernel
theorem dX8_torn_33 : decode cX8_torn 33 = .ok (.bipush (-2), 2) := by decide +kernel
theorem dX8_torn_35 : decode cX8_torn 35 = .ok (.ireturn, 1) := by decide +kernel
theorem dX8_bagOf_0 : decode cX8_bagOf 0 = .ok (.iload_n 2, 1) := by decide +kernel
theorem dX8_bagOf_1 : decode cX8_bagOf 1 = .ok (.iconst (-1), 1) := by decide +kernel
theorem dX8_bagOf_2 : decode cX8_bagOf 2 = .ok (.if_icmp .ne 12, 3) := by decide +kernel
theorem dX8_bagOf_5 : decode cX8_bagOf 5 = .ok (.aload_n 0, 1) := by decide +kernel
theorem dX8_bagOf_6 : decode cX8_bagOf 6 = .ok (.getfield 55, 3) := by decide +kernel
theorem dX8_bagOf_9 : decode cX8_bagOf 9 = .ok (.iload_n 1, 1) := by decide +kernel
theorem dX8_bagOf_10 : decode cX8_bagOf 10 = .ok (.iaload, 1) := by decide +kernel
theorem dX8_bagOf_11 : decode cX8_bagOf 11 = .ok (.goto 28, 3) := by decide +kernel
theorem dX8_bagOf_14 : decode cX8_bagOf 14 = .ok (.iload_n 2, 1) := by decide +kernel
theorem dX8_bagOf_15 : decode cX8_bagOf 15 = .ok (.aload_n 0, 1) := by decide +kernel
theorem dX8_bagOf_16 : decode cX8_bagOf 16 = .ok (.getfield 55, 3) := by decide +kernel
theorem dX8_bagOf_19 : decode cX8_bagOf 19 = .ok (.iload_n 1, 1) := by decide +kernel
theorem dX8_bagOf_20 : decode cX8_bagOf 20 = .ok (.iaload, 1) := by decide +kernel
theorem dX8_bagOf_21 : decode cX8_bagOf 21 = .ok (.if_icmp .ge 17, 3) := by decide +kernel
theorem dX8_bagOf_24 : decode cX8_bagOf 24 = .ok (.aload_n 0, 1) := by decide +kernel
theorem dX8_bagOf_25 : decode cX8_bagOf 25 = .ok (.getfield 58, 3) := by decide +kernel
theorem dX8_bagOf_28 : decode cX8_bagOf 28 = .ok (.bipush 29, 2) := by decide +kernel
theorem dX8_bagOf_30 : decode cX8_bagOf 30 = .ok (.iload_n 1, 1) := by decide +kernel
theorem dX8_bagOf_31 : decode cX8_bagOf 31 = .ok (.imul, 1) := by decide +kernel
theorem dX8_bagOf_32 : decode cX8_bagOf 32 = .ok (.iload_n 2, 1) := by decide +kernel
theorem dX8_bagOf_33 : decode cX8_bagOf 33 = .ok (.iadd, 1) := by decide +kernel
theorem dX8_bagOf_34 : decode cX8_bagOf 34 = .ok (.iaload, 1) := by decide +kernel
theorem dX8_bagOf_35 : decode cX8_bagOf 35 = .ok (.goto 4, 3) := by decide +kernel
theorem dX8_bagOf_38 : decode cX8_bagOf 38 = .ok (.iconst (-1), 1) := by decide +kernel
theorem dX8_bagOf_39 : decode cX8_bagOf 39 = .ok (.ireturn, 1) := by decide +kernel
theorem dX8_bag_0 : decode cX8_bag 0 = .ok (.aload_n 0, 1) := by decide +kernel
theorem dX8_bag_1 : decode cX8_bag 1 = .ok (.invokevirtual 198, 3) := by decide +kernel
theorem dX8_bag_4 : decode cX8_bag 4 = .ok (.iload_n 1, 1) := by decide +kernel
theorem dX8_bag_5 : decode cX8_bag 5 = .ok (.invokestatic 201, 3) := by decide +kernel
theorem dX8_bag_8 : decode cX8_bag 8 = .ok (.ifCond .eq 26, 3) := by decide +kernel
theorem dX8_bag_11 : decode cX8_bag 11 = .ok (.iload_n 2, 1) := by decide +kernel
theorem dX8_bag_12 : decode cX8_bag 12 = .ok (.i2l, 1) := by decide +kernel
theorem dX8_bag_13 : decode cX8_bag 13 = .ok (.ldc2_w 204, 3) := by decide +kernel
theorem dX8_bag_16 : decode cX8_bag 16 = .ok (.ldc2_w 206, 3) := by decide +kernel
theorem dX8_bag_19 : decode cX8_bag 19 = .ok (.invokestatic 76, 3) := by decide +kernel
theorem dX8_bag_22 : decode cX8_bag 22 = .ok (.ifCond .eq 12, 3) := by decide +kernel
theorem dX8_bag_25 : decode cX8_bag 25 = .ok (.aload_n 0, 1) := by decide +kernel
theorem dX8_bag_26 : decode cX8_bag 26 = .ok (.iload_n 1, 1) := by decide +kernel
theorem dX8_bag_27 : decode cX8_bag 27 = .ok (.iload_n 2, 1) := by decide +kernel
theorem dX8_bag_28 : decode cX8_bag 28 = .ok (.invokevirtual 208, 3) := by decide +kernel
theorem dX8_bag_31 : decode cX8_bag 31 = .ok (.goto 5, 3) := by decide +kernel
theorem dX8_bag_34 : decode cX8_bag 34 = .ok (.bipush (-2), 2) := by decide +kernel
theorem dX8_bag_36 : decode cX8_bag 36 = .ok (.ireturn, 1) := by decide +kernel
theorem dX8_isServed_0 : decode cX8_isServed 0 = .ok (.aload_n 0, 1) := by decide +kernel
theorem dX8_isServed_1 : decode cX8_isServed 1 = .ok (.getfield 49, 3) := by decide +kernel
theorem dX8_isServed_4 : decode cX8_isServed 4 = .ok (.bipush 8, 2) := by decide +kernel
theorem dX8_isServed_6 : decode cX8_isServed 6 = .ok (.iload_n 1, 1) := by decide +kernel
theorem dX8_isServed_7 : decode cX8_isServed 7 = .ok (.imul, 1) := by decide +kernel
theorem dX8_isServed_8 : decode cX8_isServed 8 = .ok (.iload_n 2, 1) := by decide +kernel
theorem dX8_isServed_9 : decode cX8_isServed 9 = .ok (.iadd, 1) := by decide +kernel
theorem dX8_isServed_10 : decode cX8_isServed 10 = .ok (.iaload, 1) := by decide +kernel
theorem dX8_isServed_11 : decode cX8_isServed 11 = .ok (.aload_n 0, 1) := by decide +kernel
theorem dX8_isServed_12 : decode cX8_isServed 12 = .ok (.getfield 28, 3) := by decide +kernel
theorem dX8_isServed_15 : decode cX8_isServed 15 = .ok (.iconst 4, 1) := by decide +kernel
theorem dX8_isServed_16 : decode cX8_isServed 16 = .ok (.iload_n 2, 1) := by decide +kernel
theorem dX8_isServed_17 : decode cX8_isServed 17 = .ok (.imul, 1) := by decide +kernel
theorem dX8_isServed_18 : decode cX8_isServed 18 = .ok (.iconst 3, 1) := by decide +kernel
theorem dX8_isServed_19 : decode cX8_isServed 19 = .ok (.iadd, 1) := by decide +kernel
theorem dX8_isServed_20 : decode cX8_isServed 20 = .ok (.iaload, 1) := by decide +kernel
theorem dX8_isServed_21 : decode cX8_isServed 21 = .ok (.if_icmp .ne 7, 3) := by decide +kernel
theorem dX8_isServed_24 : decode cX8_isServed 24 = .ok (.iconst 1, 1) := by decide +kernel
theorem dX8_isServed_25 : decode cX8_isServed 25 = .ok (.goto 4, 3) := by decide +kernel
theorem dX8_isServed_28 : decode cX8_isServed 28 = .ok (.iconst 0, 1) := by decide +kernel
theorem dX8_isServed_29 : decode cX8_isServed 29 = .ok (.ireturn, 1) := by decide +kernel
theorem dX8_getsOf_0 : decode cX8_getsOf 0 = .ok (.iconst 0, 1) := by decide +kernel
theorem dX8_getsOf_1 : decode cX8_getsOf 1 = .ok (.istore_n 2, 1) := by decide +kernel
theorem dX8_getsOf_2 : decode cX8_getsOf 2 = .ok (.iload_n 2, 1) := by decide +kernel
theorem dX8_getsOf_3 : decode cX8_getsOf 3 = .ok (.bipush 10, 2) := by decide +kernel
theorem dX8_getsOf_5 : decode cX8_getsOf 5 = .ok (.if_icmp .ge 20, 3) := by decide +kernel
theorem dX8_getsOf_8 : decode cX8_getsOf 8 = .ok (.aload_n 0, 1) := by decide +kernel
theorem dX8_getsOf_9 : decode cX8_getsOf 9 = .ok (.iload_n 2, 1) := by decide +kernel
theorem dX8_getsOf_10 : decode cX8_getsOf 10 = .ok (.iload_n 1, 1) := by decide +kernel
theorem dX8_getsOf_11 : decode cX8_getsOf 11 = .ok (.invokevirtual 211, 3) := by decide +kernel
theorem dX8_getsOf_14 : decode cX8_getsOf 14 = .ok (.ifCond .eq 5, 3) := by decide +kernel
theorem dX8_getsOf_17 : decode cX8_getsOf 17 = .ok (.iload_n 2, 1) := by decide +kernel
theorem dX8_getsOf_18 : decode cX8_getsOf 18 = .ok (.ireturn, 1) := by decide +kernel
theorem dX8_getsOf_19 : decode cX8_getsOf 19 = .ok (.iinc 2 1, 3) := by decide +kernel
theorem dX8_getsOf_22 : decode cX8_getsOf 22 = .ok (.goto (-20), 3) := by decide +kernel
theorem dX8_getsOf_25 : decode cX8_getsOf 25 = .ok (.iconst (-1), 1) := by decide +kernel
theorem dX8_getsOf_26 : decode cX8_getsOf 26 = .ok (.ireturn, 1) := by decide +kernel
theorem dX8_gets_0 : decode cX8_gets 0 = .ok (.aload_n 0, 1) := by decide +kernel
theorem dX8_gets_1 : decode cX8_gets 1 = .ok (.invokevirtual 198, 3) := by decide +kernel
theorem dX8_gets_4 : decode cX8_gets 4 = .ok (.aload_n 0, 1) := by decide +kernel
theorem dX8_gets_5 : decode cX8_gets 5 = .ok (.iload_n 1, 1) := by decide +kernel
theorem dX8_gets_6 : decode cX8_gets 6 = .ok (.invokevirtual 142, 3) := by decide +kernel
theorem dX8_gets_9 : decode cX8_gets 9 = .ok (.ifCond .eq 11, 3) := by decide +kernel
theorem dX8_gets_12 : decode cX8_gets 12 = .ok (.aload_n 0, 1) := by decide +kernel
theorem dX8_gets_13 : decode cX8_gets 13 = .ok (.iload_n 1, 1) := by decide +kernel
theorem dX8_gets_14 : decode cX8_gets 14 = .ok (.invokevirtual 214, 3) := by decide +kernel
theorem dX8_gets_17 : decode cX8_gets 17 = .ok (.goto 5, 3) := by decide +kernel
theorem dX8_gets_20 : decode cX8_gets 20 = .ok (.bipush (-2), 2) := by decide +kernel
theorem dX8_gets_22 : decode cX8_gets 22 = .ok (.ireturn, 1) := by decide +kernel
theorem dX8_first_0 : decode cX8_first 0 = .ok (.aload_n 0, 1) := by decide +kernel
theorem dX8_first_1 : decode cX8_first 1 = .ok (.invokevirtual 198, 3) := by decide +kernel
theorem dX8_first_4 : decode cX8_first 4 = .ok (.iload_n 1, 1) := by decide +kernel
theorem dX8_first_5 : decode cX8_first 5 = .ok (.i2l, 1) := by decide +kernel
theorem dX8_first_6 : decode cX8_first 6 = .ok (.lconst 0, 1) := by decide +kernel
theorem dX8_first_7 : decode cX8_first 7 = .ok (.ldc2_w 89, 3) := by decide +kernel
theorem dX8_first_10 : decode cX8_first 10 = .ok (.invokestatic 76, 3) := by decide +kernel
theorem dX8_first_13 : decode cX8_first 13 = .ok (.ifCond .eq 12, 3) := by decide +kernel
theorem dX8_first_16 : decode cX8_first 16 = .ok (.aload_n 0, 1) := by decide +kernel
theorem dX8_first_17 : decode cX8_first 17 = .ok (.getfield 61, 3) := by decide +kernel
theorem dX8_first_20 : decode cX8_first 20 = .ok (.iload_n 1, 1) := by decide +kernel
theorem dX8_first_21 : decode cX8_first 21 = .ok (.iaload, 1) := by decide +kernel
theorem dX8_first_22 : decode cX8_first 22 = .ok (.goto 5, 3) := by decide +kernel
theorem dX8_first_25 : decode cX8_first 25 = .ok (.bipush (-2), 2) := by decide +kernel
theorem dX8_first_27 : decode cX8_first 27 = .ok (.ireturn, 1) := by decide +kernel
theorem dX8_still_0 : decode cX8_still 0 = .ok (.aload_n 0, 1) := by decide +kernel
theorem dX8_still_1 : decode cX8_still 1 = .ok (.invokevirtual 198, 3) := by decide +kernel
theorem dX8_still_4 : decode cX8_still 4 = .ok (.aload_n 0, 1) := by decide +kernel
theorem dX8_still_5 : decode cX8_still 5 = .ok (.getfield 183, 3) := by decide +kernel
theorem dX8_still_8 : decode cX8_still 8 = .ok (.ireturn, 1) := by decide +kernel
theorem dX8_servedBy_0 : decode cX8_servedBy 0 = .ok (.iconst 0, 1) := by decide +kernel
theorem dX8_servedBy_1 : decode cX8_servedBy 1 = .ok (.istore_n 2, 1) := by decide +kernel
theorem dX8_servedBy_2 : decode cX8_servedBy 2 = .ok (.iconst 0, 1) := by decide +kernel
theorem dX8_servedBy_3 : decode cX8_servedBy 3 = .ok (.istore_n 3, 1) := by decide +kernel
theorem dX8_servedBy_4 : decode cX8_servedBy 4 = .ok (.iload_n 3, 1) := by decide +kernel
theorem dX8_servedBy_5 : decode cX8_servedBy 5 = .ok (.aload_n 0, 1) := by decide +kernel
theorem dX8_servedBy_6 : decode cX8_servedBy 6 = .ok (.getfield 120, 3) := by decide +kernel
theorem dX8_servedBy_9 : decode cX8_servedBy 9 = .ok (.if_icmp .ge 28, 3) := by decide +kernel
theorem dX8_servedBy_12 : decode cX8_servedBy 12 = .ok (.iload_n 2, 1) := by decide +kernel
theorem dX8_servedBy_13 : decode cX8_servedBy 13 = .ok (.aload_n 0, 1) := by decide +kernel
theorem dX8_servedBy_14 : decode cX8_servedBy 14 = .ok (.iload_n 1, 1) := by decide +kernel
theorem dX8_servedBy_15 : decode cX8_servedBy 15 = .ok (.iload_n 3, 1) := by decide +kernel
theorem dX8_servedBy_16 : decode cX8_servedBy 16 = .ok (.invokevirtual 211, 3) := by decide +kernel
theorem dX8_servedBy_19 : decode cX8_servedBy 19 = .ok (.ifCond .eq 9, 3) := by decide +kernel
theorem dX8_servedBy_22 : decode cX8_servedBy 22 = .ok (.iconst 1, 1) := by decide +kernel
theorem dX8_servedBy_23 : decode cX8_servedBy 23 = .ok (.iload_n 3, 1) := by decide +kernel
theorem dX8_servedBy_24 : decode cX8_servedBy 24 = .ok (.ishl, 1) := by decide +kernel
theorem dX8_servedBy_25 : decode cX8_servedBy 25 = .ok (.goto 4, 3) := by decide +kernel
theorem dX8_servedBy_28 : decode cX8_servedBy 28 = .ok (.iconst 0, 1) := by decide +kernel
theorem dX8_servedBy_29 : decode cX8_servedBy 29 = .ok (.ior, 1) := by decide +kernel
theorem dX8_servedBy_30 : decode cX8_servedBy 30 = .ok (.istore_n 2, 1) := by decide +kernel
theorem dX8_servedBy_31 : decode cX8_servedBy 31 = .ok (.iinc 3 1, 3) := by decide +kernel
theorem dX8_servedBy_34 : decode cX8_servedBy 34 = .ok (.goto (-30), 3) := by decide +kernel
theorem dX8_servedBy_37 : decode cX8_servedBy 37 = .ok (.iload_n 2, 1) := by decide +kernel
theorem dX8_servedBy_38 : decode cX8_servedBy 38 = .ok (.ireturn, 1) := by decide +kernel
theorem dX8_served_0 : decode cX8_served 0 = .ok (.aload_n 0, 1) := by decide +kernel
theorem dX8_served_1 : decode cX8_served 1 = .ok (.invokevirtual 198, 3) := by decide +kernel
theorem dX8_served_4 : decode cX8_served 4 = .ok (.iload_n 1, 1) := by decide +kernel
theorem dX8_served_5 : decode cX8_served 5 = .ok (.invokestatic 201, 3) := by decide +kernel
theorem dX8_served_8 : decode cX8_served 8 = .ok (.ifCond .eq 11, 3) := by decide +kernel
theorem dX8_served_11 : decode cX8_served 11 = .ok (.aload_n 0, 1) := by decide +kernel
theorem dX8_served_12 : decode cX8_served 12 = .ok (.iload_n 1, 1) := by decide +kernel
theorem dX8_served_13 : decode cX8_served 13 = .ok (.invokevirtual 217, 3) := by decide +kernel
theorem dX8_served_16 : decode cX8_served 16 = .ok (.goto 5, 3) := by decide +kernel
theorem dX8_served_19 : decode cX8_served 19 = .ok (.bipush (-2), 2) := by decide +kernel
theorem dX8_served_21 : decode cX8_served 21 = .ok (.ireturn, 1) := by decide +kernel
theorem dX8_wantsOf_0 : decode cX8_wantsOf 0 = .ok (.aload_n 0, 1) := by decide +kernel
theorem dX8_wantsOf_1 : decode cX8_wantsOf 1 = .ok (.getfield 28, 3) := by decide +kernel
theorem dX8_wantsOf_4 : decode cX8_wantsOf 4 = .ok (.iconst 4, 1) := by decide +kernel
theorem dX8_wantsOf_5 : decode cX8_wantsOf 5 = .ok (.iload_n 1, 1) := by decide +kernel
theorem dX8_wantsOf_6 : decode cX8_wantsOf 6 = .ok (.imul, 1) := by decide +kernel
theorem dX8_wantsOf_7 : decode cX8_wantsOf 7 = .ok (.iconst 3, 1) := by decide +kernel
theorem dX8_wantsOf_8 : decode cX8_wantsOf 8 = .ok (.iadd, 1) := by decide +kernel
theorem dX8_wantsOf_9 : decode cX8_wantsOf 9 = .ok (.iaload, 1) := by decide +kernel
theorem dX8_wantsOf_10 : decode cX8_wantsOf 10 = .ok (.aload_n 0, 1) := by decide +kernel
theorem dX8_wantsOf_11 : decode cX8_wantsOf 11 = .ok (.getfield 28, 3) := by decide +kernel
theorem dX8_wantsOf_14 : decode cX8_wantsOf 14 = .ok (.iconst 4, 1) := by decide +kernel
theorem dX8_wantsOf_15 : decode cX8_wantsOf 15 = .ok (.iload_n 2, 1) := by decide +kernel
theorem dX8_wantsOf_16 : decode cX8_wantsOf 16 = .ok (.imul, 1) := by decide +kernel
theorem dX8_wantsOf_17 : decode cX8_wantsOf 17 = .ok (.iaload, 1) := by decide +kernel
theorem dX8_wantsOf_18 : decode cX8_wantsOf 18 = .ok (.if_icmp .ne 28, 3) := by decide +kernel
theorem dX8_wantsOf_21 : decode cX8_wantsOf 21 = .ok (.aload_n 0, 1) := by decide +kernel
theorem dX8_wantsOf_22 : decode cX8_wantsOf 22 = .ok (.getfield 28, 3) := by decide +kernel
theorem dX8_wantsOf_25 : decode cX8_wantsOf 25 = .ok (.iconst 4, 1) := by decide +kernel
theorem dX8_wantsOf_26 : decode cX8_wantsOf 26 = .ok (.iload_n 1, 1) := by decide +kernel
theorem dX8_wantsOf_27 : decode cX8_wantsOf 27 = .ok (.imul, 1) := by decide +kernel
theorem dX8_wantsOf_28 : decode cX8_wantsOf 28 = .ok (.iconst 3, 1) := by decide +kernel
theorem dX8_wantsOf_29 : decode cX8_wantsOf 29 = .ok (.iadd, 1) := by decide +kernel
theorem dX8_wantsOf_30 : decode cX8_wantsOf 30 = .ok (.iaload, 1) := by decide +kernel
theorem dX8_wantsOf_31 : decode cX8_wantsOf 31 = .ok (.aload_n 0, 1) := by decide +kernel
theorem dX8_wantsOf_32 : decode cX8_wantsOf 32 = .ok (.getfield 28, 3) := by decide +kernel
theorem dX8_wantsOf_35 : decode cX8_wantsOf 35 = .ok (.iconst 4, 1) := by decide +kernel
theorem dX8_wantsOf_36 : decode cX8_wantsOf 36 = .ok (.iload_n 1, 1) := by decide +kernel
theorem dX8_wantsOf_37 : decode cX8_wantsOf 37 = .ok (.imul, 1) := by decide +kernel
theorem dX8_wantsOf_38 : decode cX8_wantsOf 38 = .ok (.iaload, 1) := by decide +kernel
theorem dX8_wantsOf_39 : decode cX8_wantsOf 39 = .ok (.if_icmp .eq 7, 3) := by decide +kernel
theorem dX8_wantsOf_42 : decode cX8_wantsOf 42 = .ok (.iconst 1, 1) := by decide +kernel
theorem dX8_wantsOf_43 : decode cX8_wantsOf 43 = .ok (.goto 4, 3) := by decide +kernel
theorem dX8_wantsOf_46 : decode cX8_wantsOf 46 = .ok (.iconst 0, 1) := by decide +kernel
theorem dX8_wantsOf_47 : decode cX8_wantsOf 47 = .ok (.ireturn, 1) := by decide +kernel
theorem dX8_isRing_0 : decode cX8_isRing 0 = .ok (.aload_n 0, 1) := by decide +kernel
theorem dX8_isRing_1 : decode cX8_isRing 1 = .ok (.iload_n 1, 1) := by decide +kernel
theorem dX8_isRing_2 : decode cX8_isRing 2 = .ok (.iload_n 2, 1) := by decide +kernel
theorem dX8_isRing_3 : decode cX8_isRing 3 = .ok (.invokevirtual 220, 3) := by decide +kernel
theorem dX8_isRing_6 : decode cX8_isRing 6 = .ok (.ifCond .eq 21, 3) := by decide +kernel
theorem dX8_isRing_9 : decode cX8_isRing 9 = .ok (.aload_n 0, 1) := by decide +kernel
theorem dX8_isRing_10 : decode cX8_isRing 10 = .ok (.iload_n 2, 1) := by decide +kernel
theorem dX8_isRing_11 : decode cX8_isRing 11 = .ok (.iload_n 3, 1) := by decide +kernel
theorem dX8_isRing_12 : decode cX8_isRing 12 = .ok (.invokevirtual 220, 3) := by decide +kernel
theorem dX8_isRing_15 : decode cX8_isRing 15 = .ok (.ifCond .eq 12, 3) := by decide +kernel
theorem dX8_isRing_18 : decode cX8_isRing 18 = .ok (.aload_n 0, 1) := by decide +kernel
theorem dX8_isRing_19 : decode cX8_isRing 19 = .ok (.iload_n 3, 1) := by decide +kernel
theorem dX8_isRing_20 : decode cX8_isRing 20 = .ok (.iload_n 1, 1) := by decide +kernel
theorem dX8_isRing_21 : decode cX8_isRing 21 = .ok (.invokevirtual 220, 3) := by decide +kernel
theorem dX8_isRing_24 : decode cX8_isRing 24 = .ok (.ifCond .ne 30, 3) := by decide +kernel
theorem dX8_isRing_27 : decode cX8_isRing 27 = .ok (.aload_n 0, 1) := by decide +kernel
theorem dX8_isRing_28 : decode cX8_isRing 28 = .ok (.iload_n 1, 1) := by decide +kernel
theorem dX8_isRing_29 : decode cX8_isRing 29 = .ok (.iload_n 3, 1) := by decide +kernel
theorem dX8_isRing_30 : decode cX8_isRing 30 = .ok (.invokevirtual 220, 3) := by decide +kernel
theorem dX8_isRing_33 : decode cX8_isRing 33 = .ok (.ifCond .eq 25, 3) := by decide +kernel
theorem dX8_isRing_36 : decode cX8_isRing 36 = .ok (.aload_n 0, 1) := by decide +kernel
theorem dX8_isRing_37 : decode cX8_isRing 37 = .ok (.iload_n 3, 1) := by decide +kernel
theorem dX8_isRing_38 : decode cX8_isRing 38 = .ok (.iload_n 2, 1) := by decide +kernel
theorem dX8_isRing_39 : decode cX8_isRing 39 = .ok (.invokevirtual 220, 3) := by decide +kernel
theorem dX8_isRing_42 : decode cX8_isRing 42 = .ok (.ifCond .eq 16, 3) := by decide +kernel
theorem dX8_isRing_45 : decode cX8_isRing 45 = .ok (.aload_n 0, 1) := by decide +kernel
theorem dX8_isRing_46 : decode cX8_isRing 46 = .ok (.iload_n 2, 1) := by decide +kernel
theorem dX8_isRing_47 : decode cX8_isRing 47 = .ok (.iload_n 1, 1) := by decide +kernel
theorem dX8_isRing_48 : decode cX8_isRing 48 = .ok (.invokevirtual 220, 3) := by decide +kernel
theorem dX8_isRing_51 : decode cX8_isRing 51 = .ok (.ifCond .eq 7, 3) := by decide +kernel
theorem dX8_isRing_54 : decode cX8_isRing 54 = .ok (.iconst 1, 1) := by decide +kernel
theorem dX8_isRing_55 : decode cX8_isRing 55 = .ok (.goto 4, 3) := by decide +kernel
theorem dX8_isRing_58 : decode cX8_isRing 58 = .ok (.iconst 0, 1) := by decide +kernel
theorem dX8_isRing_59 : decode cX8_isRing 59 = .ok (.ireturn, 1) := by decide +kernel
theorem dX8_ringsNow_0 : decode cX8_ringsNow 0 = .ok (.iconst 0, 1) := by decide +kernel
theorem dX8_ringsNow_1 : decode cX8_ringsNow 1 = .ok (.istore_n 2, 1) := by decide +kernel
theorem dX8_ringsNow_2 : decode cX8_ringsNow 2 = .ok (.iconst (-1), 1) := by decide +kernel
theorem dX8_ringsNow_3 : decode cX8_ringsNow 3 = .ok (.istore_n 3, 1) := by decide +kernel
theorem dX8_ringsNow_4 : decode cX8_ringsNow 4 = .ok (.iconst 0, 1) := by decide +kernel
theorem dX8_ringsNow_5 : decode cX8_ringsNow 5 = .ok (.istore 4, 2) := by decide +kernel
theorem dX8_ringsNow_7 : decode cX8_ringsNow 7 = .ok (.iload 4, 2) := by decide +kernel
theorem dX8_ringsNow_9 : decode cX8_ringsNow 9 = .ok (.sipush 512, 3) := by decide +kernel
theorem dX8_ringsNow_12 : decode cX8_ringsNow 12 = .ok (.if_icmp .ge 83, 3) := by decide +kernel
theorem dX8_ringsNow_15 : decode cX8_ringsNow 15 = .ok (.iload 4, 2) := by decide +kernel
theorem dX8_ringsNow_17 : decode cX8_ringsNow 17 = .ok (.bipush 64, 2) := by decide +kernel
theorem dX8_ringsNow_19 : decode cX8_ringsNow 19 = .ok (.idiv, 1) := by decide +kernel
theorem dX8_ringsNow_20 : decode cX8_ringsNow 20 = .ok (.istore 5, 2) := by decide +kernel
theorem dX8_ringsNow_22 : decode cX8_ringsNow 22 = .ok (.iload 4, 2) := by decide +kernel
theorem dX8_ringsNow_24 : decode cX8_ringsNow 24 = .ok (.bipush 8, 2) := by decide +kernel
theorem dX8_ringsNow_26 : decode cX8_ringsNow 26 = .ok (.idiv, 1) := by decide +kernel
theorem dX8_ringsNow_27 : decode cX8_ringsNow 27 = .ok (.bipush 8, 2) := by decide +kernel
theorem dX8_ringsNow_29 : decode cX8_ringsNow 29 = .ok (.irem, 1) := by decide +kernel
theorem dX8_ringsNow_30 : decode cX8_ringsNow 30 = .ok (.istore 6, 2) := by decide +kernel
theorem dX8_ringsNow_32 : decode cX8_ringsNow 32 = .ok (.iload 4, 2) := by decide +kernel
theorem dX8_ringsNow_34 : decode cX8_ringsNow 34 = .ok (.bipush 8, 2) := by decide +kernel
theorem dX8_ringsNow_36 : decode cX8_ringsNow 36 = .ok (.irem, 1) := by decide +kernel
theorem dX8_ringsNow_37 : decode cX8_ringsNow 37 = .ok (.istore 7, 2) := by decide +kernel
theorem dX8_ringsNow_39 : decode cX8_ringsNow 39 = .ok (.iload 5, 2) := by decide +kernel
theorem dX8_ringsNow_41 : decode cX8_ringsNow 41 = .ok (.iload 6, 2) := by decide +kernel
theorem dX8_ringsNow_43 : decode cX8_ringsNow 43 = .ok (.if_icmp .ge 46, 3) := by decide +kernel
theorem dX8_ringsNow_46 : decode cX8_ringsNow 46 = .ok (.iload 6, 2) := by decide +kernel
theorem dX8_ringsNow_48 : decode cX8_ringsNow 48 = .ok (.iload 7, 2) := by decide +kernel
theorem dX8_ringsNow_50 : decode cX8_ringsNow 50 = .ok (.if_icmp .ge 39, 3) := by decide +kernel
theorem dX8_ringsNow_53 : decode cX8_ringsNow 53 = .ok (.iload 7, 2) := by decide +kernel
theorem dX8_ringsNow_55 : decode cX8_ringsNow 55 = .ok (.aload_n 0, 1) := by decide +kernel
theorem dX8_ringsNow_56 : decode cX8_ringsNow 56 = .ok (.getfield 120, 3) := by decide +kernel
theorem dX8_ringsNow_59 : decode cX8_ringsNow 59 = .ok (.if_icmp .ge 30, 3) := by decide +kernel
theorem dX8_ringsNow_62 : decode cX8_ringsNow 62 = .ok (.aload_n 0, 1) := by decide +kernel
theorem dX8_ringsNow_63 : decode cX8_ringsNow 63 = .ok (.iload 5, 2) := by decide +kernel
theorem dX8_ringsNow_65 : decode cX8_ringsNow 65 = .ok (.iload 6, 2) := by decide +kernel
theorem dX8_ringsNow_67 : decode cX8_ringsNow 67 = .ok (.iload 7, 2) := by decide +kernel
theorem dX8_ringsNow_69 : decode cX8_ringsNow 69 = .ok (.invokevirtual 223, 3) := by decide +kernel
theorem dX8_ringsNow_72 : decode cX8_ringsNow 72 = .ok (.ifCond .eq 17, 3) := by decide +kernel
theorem dX8_ringsNow_75 : decode cX8_ringsNow 75 = .ok (.iload_n 2, 1) := by decide +kernel
theorem dX8_ringsNow_76 : decode cX8_ringsNow 76 = .ok (.ifCond .ne 8, 3) := by decide +kernel
theorem dX8_ringsNow_79 : decode cX8_ringsNow 79 = .ok (.iload 4, 2) := by decide +kernel
theorem dX8_ringsNow_81 : decode cX8_ringsNow 81 = .ok (.goto 4, 3) := by decide +kernel
theorem dX8_ringsNow_84 : decode cX8_ringsNow 84 = .ok (.iload_n 3, 1) := by decide +kernel
theorem dX8_ringsNow_85 : decode cX8_ringsNow 85 = .ok (.istore_n 3, 1) := by decide +kernel
theorem dX8_ringsNow_86 : decode cX8_ringsNow 86 = .ok (.iinc 2 1, 3) := by decide +kernel
theorem dX8_ringsNow_89 : decode cX8_ringsNow 89 = .ok (.iinc 4 1, 3) := by decide +kernel
theorem dX8_ringsNow_92 : decode cX8_ringsNow 92 = .ok (.goto (-85), 3) := by decide +kernel
theorem dX8_ringsNow_95 : decode cX8_ringsNow 95 = .ok (.iload_n 1, 1) := by decide +kernel
theorem dX8_ringsNow_96 : decode cX8_ringsNow 96 = .ok (.ifCond .ne 7, 3) := by decide +kernel
theorem dX8_ringsNow_99 : decode cX8_ringsNow 99 = .ok (.iload_n 2, 1) := by decide +kernel
theorem dX8_ringsNow_100 : decode cX8_ringsNow 100 = .ok (.goto 4, 3) := by decide +kernel
theorem dX8_ringsNow_103 : decode cX8_ringsNow 103 = .ok (.iload_n 3, 1) := by decide +kernel
theorem dX8_ringsNow_104 : decode cX8_ringsNow 104 = .ok (.ireturn, 1) := by decide +kernel
theorem dX8_rings_0 : decode cX8_rings 0 = .ok (.aload_n 0, 1) := by decide +kernel
theorem dX8_rings_1 : decode cX8_rings 1 = .ok (.invokevirtual 198, 3) := by decide +kernel
theorem dX8_rings_4 : decode cX8_rings 4 = .ok (.iload_n 1, 1) := by decide +kernel
theorem dX8_rings_5 : decode cX8_rings 5 = .ok (.invokestatic 104, 3) := by decide +kernel
theorem dX8_rings_8 : decode cX8_rings 8 = .ok (.ifCond .eq 11, 3) := by decide +kernel
theorem dX8_rings_11 : decode cX8_rings 11 = .ok (.aload_n 0, 1) := by decide +kernel
theorem dX8_rings_12 : decode cX8_rings 12 = .ok (.iload_n 1, 1) := by decide +kernel
theorem dX8_rings_13 : decode cX8_rings 13 = .ok (.invokevirtual 227, 3) := by decide +kernel
theorem dX8_rings_16 : decode cX8_rings 16 = .ok (.goto 5, 3) := by decide +kernel
theorem dX8_rings_19 : decode cX8_rings 19 = .ok (.bipush (-2), 2) := by decide +kernel
theorem dX8_rings_21 : decode cX8_rings 21 = .ok (.ireturn, 1) := by decide +kernel
theorem dX8_openOf_0 : decode cX8_openOf 0 = .ok (.aload_n 0, 1) := by decide +kernel
theorem dX8_openOf_1 : decode cX8_openOf 1 = .ok (.getfield 37, 3) := by decide +kernel
theorem dX8_openOf_4 : decode cX8_openOf 4 = .ok (.iconst 1, 1) := by decide +kernel
theorem dX8_openOf_5 : decode cX8_openOf 5 = .ok (.iaload, 1) := by decide +kernel
theorem dX8_openOf_6 : decode cX8_openOf 6 = .ok (.istore_n 3, 1) := by decide +kernel
theorem dX8_openOf_7 : decode cX8_openOf 7 = .ok (.iconst (-1), 1) := by decide +kernel
theorem dX8_openOf_8 : decode cX8_openOf 8 = .ok (.istore 4, 2) := by decide +kernel
theorem dX8_openOf_10 : decode cX8_openOf 10 = .ok (.iconst 4, 1) := by decide +kernel
theorem dX8_openOf_11 : decode cX8_openOf 11 = .ok (.istore 5, 2) := by decide +kernel
theorem dX8_openOf_13 : decode cX8_openOf 13 = .ok (.iconst 0, 1) := by decide +kernel
theorem dX8_openOf_14 : decode cX8_openOf 14 = .ok (.istore 6, 2) := by decide +kernel
theorem dX8_openOf_16 : decode cX8_openOf 16 = .ok (.iload 6, 2) := by decide +kernel
theorem dX8_openOf_18 : decode cX8_openOf 18 = .ok (.sipush 1024, 3) := by decide +kernel
theorem dX8_openOf_21 : decode cX8_openOf 21 = .ok (.if_icmp .ge 71, 3) := by decide +kernel
theorem dX8_openOf_24 : decode cX8_openOf 24 = .ok (.iload 6, 2) := by decide +kernel
theorem dX8_openOf_26 : decode cX8_openOf 26 = .ok (.invokestatic 230, 3) := by decide +kernel
theorem dX8_openOf_29 : decode cX8_openOf 29 = .ok (.iload 5, 2) := by decide +kernel
theorem dX8_openOf_31 : decode cX8_openOf 31 = .ok (.if_icmp .ge 55, 3) := by decide +kernel
theorem dX8_openOf_34 : decode cX8_openOf 34 = .ok (.aload_n 0, 1) := by decide +kernel
theorem dX8_openOf_35 : decode cX8_openOf 35 = .ok (.getfield 37, 3) := by decide +kernel
theorem dX8_openOf_38 : decode cX8_openOf 38 = .ok (.iconst 1, 1) := by decide +kernel
theorem dX8_openOf_39 : decode cX8_openOf 39 = .ok (.iload 6, 2) := by decide +kernel
theorem dX8_openOf_41 : decode cX8_openOf 41 = .ok (.iastore, 1) := by decide +kernel
theorem dX8_openOf_42 : decode cX8_openOf 42 = .ok (.aload_n 0, 1) := by decide +kernel
theorem dX8_openOf_43 : decode cX8_openOf 43 = .ok (.invokevirtual 195, 3) := by decide +kernel
theorem dX8_openOf_46 : decode cX8_openOf 46 = .ok (.aload_n 0, 1) := by decide +kernel
theorem dX8_openOf_47 : decode cX8_openOf 47 = .ok (.bipush 9, 2) := by decide +kernel
theorem dX8_openOf_49 : decode cX8_openOf 49 = .ok (.iload_n 1, 1) := by decide +kernel
theorem dX8_openOf_50 : decode cX8_openOf 50 = .ok (.invokevirtual 211, 3) := by decide +kernel
theorem dX8_openOf_53 : decode cX8_openOf 53 = .ok (.istore 7, 2) := by decide +kernel
theorem dX8_openOf_55 : decode cX8_openOf 55 = .ok (.iload 7, 2) := by decide +kernel
theorem dX8_openOf_57 : decode cX8_openOf 57 = .ok (.ifCond .eq 8, 3) := by decide +kernel
theorem dX8_openOf_60 : decode cX8_openOf 60 = .ok (.iload 6, 2) := by decide +kernel
theorem dX8_openOf_62 : decode cX8_openOf 62 = .ok (.goto 5, 3) := by decide +kernel
theorem dX8_openOf_65 : decode cX8_openOf 65 = .ok (.iload 4, 2) := by decide +kernel
theorem dX8_openOf_67 : decode cX8_openOf 67 = .ok (.istore 4, 2) := by decide +kernel
theorem dX8_openOf_69 : decode cX8_openOf 69 = .ok (.iload 7, 2) := by decide +kernel
theorem dX8_openOf_71 : decode cX8_openOf 71 = .ok (.ifCond .eq 11, 3) := by decide +kernel
theorem dX8_openOf_74 : decode cX8_openOf 74 = .ok (.iload 6, 2) := by decide +kernel
theorem dX8_openOf_76 : decode cX8_openOf 76 = .ok (.invokestatic 230, 3) := by decide +kernel
theorem dX8_openOf_79 : decode cX8_openOf 79 = .ok (.goto 5, 3) := by decide +kernel
theorem dX8_openOf_82 : decode cX8_openOf 82 = .ok (.iload 5, 2) := by decide +kernel
theorem dX8_openOf_84 : decode cX8_openOf 84 = .ok (.istore 5, 2) := by decide +kernel
theorem dX8_openOf_86 : decode cX8_openOf 86 = .ok (.iinc 6 1, 3) := by decide +kernel
theorem dX8_openOf_89 : decode cX8_openOf 89 = .ok (.goto (-73), 3) := by decide +kernel
theorem dX8_openOf_92 : decode cX8_openOf 92 = .ok (.aload_n 0, 1) := by decide +kernel
theorem dX8_openOf_93 : decode cX8_openOf 93 = .ok (.getfield 37, 3) := by decide +kernel
theorem dX8_openOf_96 : decode cX8_openOf 96 = .ok (.iconst 1, 1) := by decide +kernel
theorem dX8_openOf_97 : decode cX8_openOf 97 = .ok (.iload_n 3, 1) := by decide +kernel
theorem dX8_openOf_98 : decode cX8_openOf 98 = .ok (.iastore, 1) := by decide +kernel
theorem dX8_openOf_99 : decode cX8_openOf 99 = .ok (.iload 4, 2) := by decide +kernel
theorem dX8_openOf_101 : decode cX8_openOf 101 = .ok (.iconst (-1), 1) := by decide +kernel
theorem dX8_openOf_102 : decode cX8_openOf 102 = .ok (.if_icmp .eq 8, 3) := by decide +kernel
theorem dX8_openOf_105 : decode cX8_openOf 105 = .ok (.iload_n 2, 1) := by decide +kernel
theorem dX8_openOf_106 : decode cX8_openOf 106 = .ok (.iconst 1, 1) := by decide +kernel
theorem dX8_openOf_107 : decode cX8_openOf 107 = .ok (.if_icmp .ne 8, 3) := by decide +kernel
theorem dX8_openOf_110 : decode cX8_openOf 110 = .ok (.iload 4, 2) := by decide +kernel
theorem dX8_openOf_112 : decode cX8_openOf 112 = .ok (.goto 5, 3) := by decide +kernel
theorem dX8_openOf_115 : decode cX8_openOf 115 = .ok (.iload 5, 2) := by decide +kernel
theorem dX8_openOf_117 : decode cX8_openOf 117 = .ok (.ireturn, 1) := by decide +kernel
theorem dX8_open_0 : decode cX8_open 0 = .ok (.aload_n 0, 1) := by decide +kernel
theorem dX8_open_1 : decode cX8_open 1 = .ok (.invokevirtual 198, 3) := by decide +kernel
theorem dX8_open_4 : decode cX8_open 4 = .ok (.aload_n 0, 1) := by decide +kernel
theorem dX8_open_5 : decode cX8_open 5 = .ok (.iload_n 1, 1) := by decide +kernel
theorem dX8_open_6 : decode cX8_open 6 = .ok (.invokevirtual 142, 3) := by decide +kernel
theorem dX8_open_9 : decode cX8_open 9 = .ok (.ifCond .eq 19, 3) := by decide +kernel
theorem dX8_open_12 : decode cX8_open 12 = .ok (.iload_n 2, 1) := by decide +kernel
theorem dX8_open_13 : decode cX8_open 13 = .ok (.invokestatic 104, 3) := by decide +kernel
theorem dX8_open_16 : decode cX8_open 16 = .ok (.ifCond .eq 12, 3) := by decide +kernel
theorem dX8_open_19 : decode cX8_open 19 = .ok (.aload_n 0, 1) := by decide +kernel
theorem dX8_open_20 : decode cX8_open 20 = .ok (.iload_n 1, 1) := by decide +kernel
theorem dX8_open_21 : decode cX8_open 21 = .ok (.iload_n 2, 1) := by decide +kernel
theorem dX8_open_22 : decode cX8_open 22 = .ok (.invokevirtual 233, 3) := by decide +kernel
theorem dX8_open_25 : decode cX8_open 25 = .ok (.goto 5, 3) := by decide +kernel
theorem dX8_open_28 : decode cX8_open 28 = .ok (.bipush (-2), 2) := by decide +kernel
theorem dX8_open_30 : decode cX8_open 30 = .ok (.ireturn, 1) := by decide +kernel
theorem dX8_leastOf_0 : decode cX8_leastOf 0 = .ok (.aload_n 0, 1) := by decide +kernel
theorem dX8_leastOf_1 : decode cX8_leastOf 1 = .ok (.getfield 37, 3) := by decide +kernel
theorem dX8_leastOf_4 : decode cX8_leastOf 4 = .ok (.iconst 0, 1) := by decide +kernel
theorem dX8_leastOf_5 : decode cX8_leastOf 5 = .ok (.iaload, 1) := by decide +kernel
theorem dX8_leastOf_6 : decode cX8_leastOf 6 = .ok (.istore_n 2, 1) := by decide +kernel
theorem dX8_leastOf_7 : decode cX8_leastOf 7 = .ok (.iconst (-1), 1) := by decide +kernel
theorem dX8_leastOf_8 : decode cX8_leastOf 8 = .ok (.istore_n 3, 1) := by decide +kernel
theorem dX8_leastOf_9 : decode cX8_leastOf 9 = .ok (.iconst (-1), 1) := by decide +kernel
theorem dX8_leastOf_10 : decode cX8_leastOf 10 = .ok (.istore 4, 2) := by decide +kernel
theorem dX8_leastOf_12 : decode cX8_leastOf 12 = .ok (.iconst 0, 1) := by decide +kernel
theorem dX8_leastOf_13 : decode cX8_leastOf 13 = .ok (.istore 5, 2) := by decide +kernel
theorem dX8_leastOf_15 : decode cX8_leastOf 15 = .ok (.iload 5, 2) := by decide +kernel
theorem dX8_leastOf_17 : decode cX8_leastOf 17 = .ok (.bipush 10, 2) := by decide +kernel
theorem dX8_leastOf_19 : decode cX8_leastOf 19 = .ok (.if_icmp .ge 55, 3) := by decide +kernel
theorem dX8_leastOf_22 : decode cX8_leastOf 22 = .ok (.aload_n 0, 1) := by decide +kernel
theorem dX8_leastOf_23 : decode cX8_leastOf 23 = .ok (.getfield 37, 3) := by decide +kernel
theorem dX8_leastOf_26 : decode cX8_leastOf 26 = .ok (.iconst 0, 1) := by decide +kernel
theorem dX8_leastOf_27 : decode cX8_leastOf 27 = .ok (.iload 5, 2) := by decide +kernel
theorem dX8_leastOf_29 : decode cX8_leastOf 29 = .ok (.iastore, 1) := by decide +kernel
theorem dX8_leastOf_30 : decode cX8_leastOf 30 = .ok (.aload_n 0, 1) := by decide +kernel
theorem dX8_leastOf_31 : decode cX8_leastOf 31 = .ok (.invokevirtual 195, 3) := by decide +kernel
theorem dX8_leastOf_34 : decode cX8_leastOf 34 = .ok (.aload_n 0, 1) := by decide +kernel
theorem dX8_leastOf_35 : decode cX8_leastOf 35 = .ok (.bipush 9, 2) := by decide +kernel
theorem dX8_leastOf_37 : decode cX8_leastOf 37 = .ok (.invokevirtual 217, 3) := by decide +kernel
theorem dX8_leastOf_40 : decode cX8_leastOf 40 = .ok (.invokestatic 230, 3) := by decide +kernel
theorem dX8_leastOf_43 : decode cX8_leastOf 43 = .ok (.istore 6, 2) := by decide +kernel
theorem dX8_leastOf_45 : decode cX8_leastOf 45 = .ok (.iload 6, 2) := by decide +kernel
theorem dX8_leastOf_47 : decode cX8_leastOf 47 = .ok (.iload 4, 2) := by decide +kernel
theorem dX8_leastOf_49 : decode cX8_leastOf 49 = .ok (.if_icmp .le 8, 3) := by decide +kernel
theorem dX8_leastOf_52 : decode cX8_leastOf 52 = .ok (.iload 5, 2) := by decide +kernel
theorem dX8_leastOf_54 : decode cX8_leastOf 54 = .ok (.goto 4, 3) := by decide +kernel
theorem dX8_leastOf_57 : decode cX8_leastOf 57 = .ok (.iload_n 3, 1) := by decide +kernel
theorem dX8_leastOf_58 : decode cX8_leastOf 58 = .ok (.istore_n 3, 1) := by decide +kernel
theorem dX8_leastOf_59 : decode cX8_leastOf 59 = .ok (.iload 6, 2) := by decide +kernel
theorem dX8_leastOf_61 : decode cX8_leastOf 61 = .ok (.iload 4, 2) := by decide +kernel
theorem dX8_leastOf_63 : decode cX8_leastOf 63 = .ok (.invokestatic 236, 3) := by decide +kernel
theorem dX8_leastOf_66 : decode cX8_leastOf 66 = .ok (.istore 4, 2) := by decide +kernel
theorem dX8_leastOf_68 : decode cX8_leastOf 68 = .ok (.iinc 5 1, 3) := by decide +kernel
theorem dX8_leastOf_71 : decode cX8_leastOf 71 = .ok (.goto (-56), 3) := by decide +kernel
theorem dX8_leastOf_74 : decode cX8_leastOf 74 = .ok (.aload_n 0, 1) := by decide +kernel
theorem dX8_leastOf_75 : decode cX8_leastOf 75 = .ok (.getfield 37, 3) := by decide +kernel
theorem dX8_leastOf_78 : decode cX8_leastOf 78 = .ok (.iconst 0, 1) := by decide +kernel
theorem dX8_leastOf_79 : decode cX8_leastOf 79 = .ok (.iload_n 2, 1) := by decide +kernel
theorem dX8_leastOf_80 : decode cX8_leastOf 80 = .ok (.iastore, 1) := by decide +kernel
theorem dX8_leastOf_81 : decode cX8_leastOf 81 = .ok (.iload_n 1, 1) := by decide +kernel
theorem dX8_leastOf_82 : decode cX8_leastOf 82 = .ok (.ifCond .ne 7, 3) := by decide +kernel
theorem dX8_leastOf_85 : decode cX8_leastOf 85 = .ok (.iload_n 3, 1) := by decide +kernel
theorem dX8_leastOf_86 : decode cX8_leastOf 86 = .ok (.goto 5, 3) := by decide +kernel
theorem dX8_leastOf_89 : decode cX8_leastOf 89 = .ok (.iload 4, 2) := by decide +kernel
theorem dX8_leastOf_91 : decode cX8_leastOf 91 = .ok (.ireturn, 1) := by decide +kernel
theorem dX8_least_0 : decode cX8_least 0 = .ok (.aload_n 0, 1) := by decide +kernel
theorem dX8_least_1 : decode cX8_least 1 = .ok (.invokevirtual 198, 3) := by decide +kernel
theorem dX8_least_4 : decode cX8_least 4 = .ok (.iload_n 1, 1) := by decide +kernel
theorem dX8_least_5 : decode cX8_least 5 = .ok (.invokestatic 104, 3) := by decide +kernel
theorem dX8_least_8 : decode cX8_least 8 = .ok (.ifCond .eq 11, 3) := by decide +kernel
theorem dX8_least_11 : decode cX8_least 11 = .ok (.aload_n 0, 1) := by decide +kernel
theorem dX8_least_12 : decode cX8_least 12 = .ok (.iload_n 1, 1) := by decide +kernel
theorem dX8_least_13 : decode cX8_least 13 = .ok (.invokevirtual 239, 3) := by decide +kernel
theorem dX8_least_16 : decode cX8_least 16 = .ok (.goto 5, 3) := by decide +kernel
theorem dX8_least_19 : decode cX8_least 19 = .ok (.bipush (-2), 2) := by decide +kernel
theorem dX8_least_21 : decode cX8_least 21 = .ok (.ireturn, 1) := by decide +kernel
theorem dX8_topOf_0 : decode cX8_topOf 0 = .ok (.iconst (-1), 1) := by decide +kernel
theorem dX8_topOf_1 : decode cX8_topOf 1 = .ok (.istore_n 2, 1) := by decide +kernel
theorem dX8_topOf_2 : decode cX8_topOf 2 = .ok (.iconst (-1), 1) := by decide +kernel
theorem dX8_topOf_3 : decode cX8_topOf 3 = .ok (.istore_n 3, 1) := by decide +kernel
theorem dX8_topOf_4 : decode cX8_topOf 4 = .ok (.iconst 0, 1) := by decide +kernel
theorem dX8_topOf_5 : decode cX8_topOf 5 = .ok (.istore 4, 2) := by decide +kernel
theorem dX8_topOf_7 : decode cX8_topOf 7 = .ok (.iload 4, 2) := by decide +kernel
theorem dX8_topOf_9 : decode cX8_topOf 9 = .ok (.bipush 8, 2) := by decide +kernel
theorem dX8_topOf_11 : decode cX8_topOf 11 = .ok (.if_icmp .ge 50, 3) := by decide +kernel
theorem dX8_topOf_14 : decode cX8_topOf 14 = .ok (.aload_n 0, 1) := by decide +kernel
theorem dX8_topOf_15 : decode cX8_topOf 15 = .ok (.iload 4, 2) := by decide +kernel
theorem dX8_topOf_17 : decode cX8_topOf 17 = .ok (.putfield 70, 3) := by decide +kernel
theorem dX8_topOf_20 : decode cX8_topOf 20 = .ok (.aload_n 0, 1) := by decide +kernel
theorem dX8_topOf_21 : decode cX8_topOf 21 = .ok (.invokevirtual 195, 3) := by decide +kernel
theorem dX8_topOf_24 : decode cX8_topOf 24 = .ok (.aload_n 0, 1) := by decide +kernel
theorem dX8_topOf_25 : decode cX8_topOf 25 = .ok (.bipush 9, 2) := by decide +kernel
theorem dX8_topOf_27 : decode cX8_topOf 27 = .ok (.invokevirtual 217, 3) := by decide +kernel
theorem dX8_topOf_30 : decode cX8_topOf 30 = .ok (.invokestatic 230, 3) := by decide +kernel
theorem dX8_topOf_33 : decode cX8_topOf 33 = .ok (.istore 5, 2) := by decide +kernel
theorem dX8_topOf_35 : decode cX8_topOf 35 = .ok (.iload 5, 2) := by decide +kernel
theorem dX8_topOf_37 : decode cX8_topOf 37 = .ok (.iload_n 3, 1) := by decide +kernel
theorem dX8_topOf_38 : decode cX8_topOf 38 = .ok (.if_icmp .le 8, 3) := by decide +kernel
theorem dX8_topOf_41 : decode cX8_topOf 41 = .ok (.iload 4, 2) := by decide +kernel
theorem dX8_topOf_43 : decode cX8_topOf 43 = .ok (.goto 4, 3) := by decide +kernel
theorem dX8_topOf_46 : decode cX8_topOf 46 = .ok (.iload_n 2, 1) := by decide +kernel
theorem dX8_topOf_47 : decode cX8_topOf 47 = .ok (.istore_n 2, 1) := by decide +kernel
theorem dX8_topOf_48 : decode cX8_topOf 48 = .ok (.iload 5, 2) := by decide +kernel
theorem dX8_topOf_50 : decode cX8_topOf 50 = .ok (.iload_n 3, 1) := by decide +kernel
theorem dX8_topOf_51 : decode cX8_topOf 51 = .ok (.invokestatic 236, 3) := by decide +kernel
theorem dX8_topOf_54 : decode cX8_topOf 54 = .ok (.istore_n 3, 1) := by decide +kernel
theorem dX8_topOf_55 : decode cX8_topOf 55 = .ok (.iinc 4 1, 3) := by decide +kernel
theorem dX8_topOf_58 : decode cX8_topOf 58 = .ok (.goto (-51), 3) := by decide +kernel
theorem dX8_topOf_61 : decode cX8_topOf 61 = .ok (.aload_n 0, 1) := by decide +kernel
theorem dX8_topOf_62 : decode cX8_topOf 62 = .ok (.iconst (-1), 1) := by decide +kernel
theorem dX8_topOf_63 : decode cX8_topOf 63 = .ok (.putfield 70, 3) := by decide +kernel
theorem dX8_topOf_66 : decode cX8_topOf 66 = .ok (.iload_n 1, 1) := by decide +kernel
theorem dX8_topOf_67 : decode cX8_topOf 67 = .ok (.ifCond .ne 7, 3) := by decide +kernel
theorem dX8_topOf_70 : decode cX8_topOf 70 = .ok (.iload_n 2, 1) := by decide +kernel
theorem dX8_topOf_71 : decode cX8_topOf 71 = .ok (.goto 4, 3) := by decide +kernel
theorem dX8_topOf_74 : decode cX8_topOf 74 = .ok (.iload_n 3, 1) := by decide +kernel
theorem dX8_topOf_75 : decode cX8_topOf 75 = .ok (.ireturn, 1) := by decide +kernel
theorem dX8_top_0 : decode cX8_top 0 = .ok (.aload_n 0, 1) := by decide +kernel
theorem dX8_top_1 : decode cX8_top 1 = .ok (.invokevirtual 198, 3) := by decide +kernel
theorem dX8_top_4 : decode cX8_top 4 = .ok (.iload_n 1, 1) := by decide +kernel
theorem dX8_top_5 : decode cX8_top 5 = .ok (.invokestatic 104, 3) := by decide +kernel
theorem dX8_top_8 : decode cX8_top 8 = .ok (.ifCond .eq 11, 3) := by decide +kernel
theorem dX8_top_11 : decode cX8_top 11 = .ok (.aload_n 0, 1) := by decide +kernel
theorem dX8_top_12 : decode cX8_top 12 = .ok (.iload_n 1, 1) := by decide +kernel
theorem dX8_top_13 : decode cX8_top 13 = .ok (.invokevirtual 242, 3) := by decide +kernel
theorem dX8_top_16 : decode cX8_top 16 = .ok (.goto 5, 3) := by decide +kernel
theorem dX8_top_19 : decode cX8_top 19 = .ok (.bipush (-2), 2) := by decide +kernel
theorem dX8_top_21 : decode cX8_top 21 = .ok (.ireturn, 1) := by decide +kernel
theorem dX8_seen_0 : decode cX8_seen 0 = .ok (.iload_n 1, 1) := by decide +kernel
theorem dX8_seen_1 : decode cX8_seen 1 = .ok (.invokestatic 201, 3) := by decide +kernel
theorem dX8_seen_4 : decode cX8_seen 4 = .ok (.ifCond .eq 27, 3) := by decide +kernel
theorem dX8_seen_7 : decode cX8_seen 7 = .ok (.iload_n 2, 1) := by decide +kernel
theorem dX8_seen_8 : decode cX8_seen 8 = .ok (.i2l, 1) := by decide +kernel
theorem dX8_seen_9 : decode cX8_seen 9 = .ok (.lconst 0, 1) := by decide +kernel
theorem dX8_seen_10 : decode cX8_seen 10 = .ok (.ldc2_w 145, 3) := by decide +kernel
theorem dX8_seen_13 : decode cX8_seen 13 = .ok (.invokestatic 76, 3) := by decide +kernel
theorem dX8_seen_16 : decode cX8_seen 16 = .ok (.ifCond .eq 15, 3) := by decide +kernel
theorem dX8_seen_19 : decode cX8_seen 19 = .ok (.iload_n 3, 1) := by decide +kernel
theorem dX8_seen_20 : decode cX8_seen 20 = .ok (.i2l, 1) := by decide +kernel
theorem dX8_seen_21 : decode cX8_seen 21 = .ok (.lconst 0, 1) := by decide +kernel
theorem dX8_seen_22 : decode cX8_seen 22 = .ok (.ldc2_w 245, 3) := by decide +kernel
theorem dX8_seen_25 : decode cX8_seen 25 = .ok (.invokestatic 76, 3) := by decide +kernel
theorem dX8_seen_28 : decode cX8_seen 28 = .ok (.ifCond .ne 6, 3) := by decide +kernel
theorem dX8_seen_31 : decode cX8_seen 31 = .ok (.bipush (-2), 2) := by decide +kernel
theorem dX8_seen_33 : decode cX8_seen 33 = .ok (.ireturn, 1) := by decide +kernel
theorem dX8_seen_34 : decode cX8_seen 34 = .ok (.aload_n 0, 1) := by decide +kernel
theorem dX8_seen_35 : decode cX8_seen 35 = .ok (.getfield 247, 3) := by decide +kernel
theorem dX8_seen_38 : decode cX8_seen 38 = .ok (.bipush 8, 2) := by decide +kernel
theorem dX8_seen_40 : decode cX8_seen 40 = .ok (.if_icmp .ne 6, 3) := by decide +kernel
theorem dX8_seen_43 : decode cX8_seen 43 = .ok (.bipush (-4), 2) := by decide +kernel
theorem dX8_seen_45 : decode cX8_seen 45 = .ok (.ireturn, 1) := by decide +kernel
theorem dX8_seen_46 : decode cX8_seen 46 = .ok (.aload_n 0, 1) := by decide +kernel
theorem dX8_seen_47 : decode cX8_seen 47 = .ok (.getfield 64, 3) := by decide +kernel
theorem dX8_seen_50 : decode cX8_seen 50 = .ok (.iconst 3, 1) := by decide +kernel
theorem dX8_seen_51 : decode cX8_seen 51 = .ok (.aload_n 0, 1) := by decide +kernel
theorem dX8_seen_52 : decode cX8_seen 52 = .ok (.getfield 247, 3) := by decide +kernel
theorem dX8_seen_55 : decode cX8_seen 55 = .ok (.imul, 1) := by decide +kernel
theorem dX8_seen_56 : decode cX8_seen 56 = .ok (.iload_n 1, 1) := by decide +kernel
theorem dX8_seen_57 : decode cX8_seen 57 = .ok (.iastore, 1) := by decide +kernel
theorem dX8_seen_58 : decode cX8_seen 58 = .ok (.aload_n 0, 1) := by decide +kernel
theorem dX8_seen_59 : decode cX8_seen 59 = .ok (.getfield 64, 3) := by decide +kernel
theorem dX8_seen_62 : decode cX8_seen 62 = .ok (.iconst 3, 1) := by decide +kernel
theorem dX8_seen_63 : decode cX8_seen 63 = .ok (.aload_n 0, 1) := by decide +kernel
theorem dX8_seen_64 : decode cX8_seen 64 = .ok (.getfield 247, 3) := by decide +kernel
theorem dX8_seen_67 : decode cX8_seen 67 = .ok (.imul, 1) := by decide +kernel
theorem dX8_seen_68 : decode cX8_seen 68 = .ok (.iconst 1, 1) := by decide +kernel
theorem dX8_seen_69 : decode cX8_seen 69 = .ok (.iadd, 1) := by decide +kernel
theorem dX8_seen_70 : decode cX8_seen 70 = .ok (.iload_n 2, 1) := by decide +kernel
theorem dX8_seen_71 : decode cX8_seen 71 = .ok (.iastore, 1) := by decide +kernel
theorem dX8_seen_72 : decode cX8_seen 72 = .ok (.aload_n 0, 1) := by decide +kernel
theorem dX8_seen_73 : decode cX8_seen 73 = .ok (.getfield 64, 3) := by decide +kernel
theorem dX8_seen_76 : decode cX8_seen 76 = .ok (.iconst 3, 1) := by decide +kernel
theorem dX8_seen_77 : decode cX8_seen 77 = .ok (.aload_n 0, 1) := by decide +kernel
theorem dX8_seen_78 : decode cX8_seen 78 = .ok (.getfield 247, 3) := by decide +kernel
theorem dX8_seen_81 : decode cX8_seen 81 = .ok (.imul, 1) := by decide +kernel
theorem dX8_seen_82 : decode cX8_seen 82 = .ok (.iconst 2, 1) := by decide +kernel
theorem dX8_seen_83 : decode cX8_seen 83 = .ok (.iadd, 1) := by decide +kernel
theorem dX8_seen_84 : decode cX8_seen 84 = .ok (.iload_n 3, 1) := by decide +kernel
theorem dX8_seen_85 : decode cX8_seen 85 = .ok (.iastore, 1) := by decide +kernel
theorem dX8_seen_86 : decode cX8_seen 86 = .ok (.aload_n 0, 1) := by decide +kernel
theorem dX8_seen_87 : decode cX8_seen 87 = .ok (.dup, 1) := by decide +kernel
theorem dX8_seen_88 : decode cX8_seen 88 = .ok (.getfield 247, 3) := by decide +kernel
theorem dX8_seen_91 : decode cX8_seen 91 = .ok (.iconst 1, 1) := by decide +kernel
theorem dX8_seen_92 : decode cX8_seen 92 = .ok (.iadd, 1) := by decide +kernel
theorem dX8_seen_93 : decode cX8_seen 93 = .ok (.putfield 247, 3) := by decide +kernel
theorem dX8_seen_96 : decode cX8_seen 96 = .ok (.aload_n 0, 1) := by decide +kernel
theorem dX8_seen_97 : decode cX8_seen 97 = .ok (.getfield 247, 3) := by decide +kernel
theorem dX8_seen_100 : decode cX8_seen 100 = .ok (.ireturn, 1) := by decide +kernel
theorem dX8_forget_0 : decode cX8_forget 0 = .ok (.aload_n 0, 1) := by decide +kernel
theorem dX8_forget_1 : decode cX8_forget 1 = .ok (.getfield 247, 3) := by decide +kernel
theorem dX8_forget_4 : decode cX8_forget 4 = .ok (.istore_n 1, 1) := by decide +kernel
theorem dX8_forget_5 : decode cX8_forget 5 = .ok (.aload_n 0, 1) := by decide +kernel
theorem dX8_forget_6 : decode cX8_forget 6 = .ok (.iconst 0, 1) := by decide +kernel
theorem dX8_forget_7 : decode cX8_forget 7 = .ok (.putfield 247, 3) := by decide +kernel
theorem dX8_forget_10 : decode cX8_forget 10 = .ok (.iload_n 1, 1) := by decide +kernel
theorem dX8_forget_11 : decode cX8_forget 11 = .ok (.ireturn, 1) := by decide +kernel
theorem dX8_read_0 : decode cX8_read 0 = .ok (.iload_n 1, 1) := by decide +kernel
theorem dX8_read_1 : decode cX8_read 1 = .ok (.invokestatic 85, 3) := by decide +kernel
theorem dX8_read_4 : decode cX8_read 4 = .ok (.ifCond .ne 6, 3) := by decide +kernel
theorem dX8_read_7 : decode cX8_read 7 = .ok (.bipush (-2), 2) := by decide +kernel
theorem dX8_read_9 : decode cX8_read 9 = .ok (.ireturn, 1) := by decide +kernel
theorem dX8_read_10 : decode cX8_read 10 = .ok (.aload_n 0, 1) := by decide +kernel
theorem dX8_read_11 : decode cX8_read 11 = .ok (.getfield 7, 3) := by decide +kernel
theorem dX8_read_14 : decode cX8_read 14 = .ok (.iload_n 1, 1) := by decide +kernel
theorem dX8_read_15 : decode cX8_read 15 = .ok (.iaload, 1) := by decide +kernel
theorem dX8_read_16 : decode cX8_read 16 = .ok (.ifCond .ge 9, 3) := by decide +kernel
theorem dX8_read_19 : decode cX8_read 19 = .ok (.aload_n 0, 1) := by decide +kernel
theorem dX8_read_20 : decode cX8_read 20 = .ok (.iconst 1, 1) := by decide +kernel
theorem dX8_read_21 : decode cX8_read 21 = .ok (.invokevirtual 91, 3) := by decide +kernel
theorem dX8_read_24 : decode cX8_read 24 = .ok (.ireturn, 1) := by decide +kernel
theorem dX8_read_25 : decode cX8_read 25 = .ok (.iconst 0, 1) := by decide +kernel
theorem dX8_read_26 : decode cX8_read 26 = .ok (.istore_n 2, 1) := by decide +kernel
theorem dX8_read_27 : decode cX8_read 27 = .ok (.iconst 1, 1) := by decide +kernel
theorem dX8_read_28 : decode cX8_read 28 = .ok (.istore_n 3, 1) := by decide +kernel
theorem dX8_read_29 : decode cX8_read 29 = .ok (.iload_n 3, 1) := by decide +kernel
theorem dX8_read_30 : decode cX8_read 30 = .ok (.ifCond .eq 80, 3) := by decide +kernel
theorem dX8_read_33 : decode cX8_read 33 = .ok (.iconst 3, 1) := by decide +kernel
theorem dX8_read_34 : decode cX8_read 34 = .ok (.iload_n 2, 1) := by decide +kernel
theorem dX8_read_35 : decode cX8_read 35 = .ok (.imul, 1) := by decide +kernel
theorem dX8_read_36 : decode cX8_read 36 = .ok (.iconst 3, 1) := by decide +kernel
theorem dX8_read_37 : decode cX8_read 37 = .ok (.iadd, 1) := by decide +kernel
theorem dX8_read_38 : decode cX8_read 38 = .ok (.aload_n 0, 1) := by decide +kernel
theorem dX8_read_39 : decode cX8_read 39 = .ok (.getfield 13, 3) := by decide +kernel
theorem dX8_read_42 : decode cX8_read 42 = .ok (.iload_n 1, 1) := by decide +kernel
theorem dX8_read_43 : decode cX8_read 43 = .ok (.iaload, 1) := by decide +kernel
theorem dX8_read_44 : decode cX8_read 44 = .ok (.if_icmp .gt 66, 3) := by decide +kernel
theorem dX8_read_47 : decode cX8_read 47 = .ok (.bipush 60, 2) := by decide +kernel
theorem dX8_read_49 : decode cX8_read 49 = .ok (.iload_n 1, 1) := by decide +kernel
theorem dX8_read_50 : decode cX8_read 50 = .ok (.imul, 1) := by decide +kernel
theorem dX8_read_51 : decode cX8_read 51 = .ok (.iconst 3, 1) := by decide +kernel
theorem dX8_read_52 : decode cX8_read 52 = .ok (.iload_n 2, 1) := by decide +kernel
theorem dX8_read_53 : decode cX8_read 53 = .ok (.imul, 1) := by decide +kernel
theorem dX8_read_54 : decode cX8_read 54 = .ok (.iadd, 1) := by decide +kernel
theorem dX8_read_55 : decode cX8_read 55 = .ok (.istore 4, 2) := by decide +kernel
theorem dX8_read_57 : decode cX8_read 57 = .ok (.aload_n 0, 1) := by decide +kernel
theorem dX8_read_58 : decode cX8_read 58 = .ok (.aload_n 0, 1) := by decide +kernel
theorem dX8_read_59 : decode cX8_read 59 = .ok (.getfield 16, 3) := by decide +kernel
theorem dX8_read_62 : decode cX8_read 62 = .ok (.iload 4, 2) := by decide +kernel
theorem dX8_read_64 : decode cX8_read 64 = .ok (.iaload, 1) := by decide +kernel
theorem dX8_read_65 : decode cX8_read 65 = .ok (.aload_n 0, 1) := by decide +kernel
theorem dX8_read_66 : decode cX8_read 66 = .ok (.getfield 16, 3) := by decide +kernel
theorem dX8_read_69 : decode cX8_read 69 = .ok (.iload 4, 2) := by decide +kernel
theorem dX8_read_71 : decode cX8_read 71 = .ok (.iconst 1, 1) := by decide +kernel
theorem dX8_read_72 : decode cX8_read 72 = .ok (.iadd, 1) := by decide +kernel
theorem dX8_read_73 : decode cX8_read 73 = .ok (.iaload, 1) := by decide +kernel
theorem dX8_read_74 : decode cX8_read 74 = .ok (.aload_n 0, 1) := by decide +kernel
theorem dX8_read_75 : decode cX8_read 75 = .ok (.getfield 16, 3) := by decide +kernel
theorem dX8_read_78 : decode cX8_read 78 = .ok (.iload 4, 2) := by decide +kernel
theorem dX8_read_80 : decode cX8_read 80 = .ok (.iconst 2, 1) := by decide +kernel
theorem dX8_read_81 : decode cX8_read 81 = .ok (.iadd, 1) := by decide +kernel
theorem dX8_read_82 : decode cX8_read 82 = .ok (.iaload, 1) := by decide +kernel
theorem dX8_read_83 : decode cX8_read 83 = .ok (.invokevirtual 250, 3) := by decide +kernel
theorem dX8_read_86 : decode cX8_read 86 = .ok (.ifCond .lt 7, 3) := by decide +kernel
theorem dX8_read_89 : decode cX8_read 89 = .ok (.iconst 1, 1) := by decide +kernel
theorem dX8_read_90 : decode cX8_read 90 = .ok (.goto 4, 3) := by decide +kernel
theorem dX8_read_93 : decode cX8_read 93 = .ok (.iconst 0, 1) := by decide +kernel
theorem dX8_read_94 : decode cX8_read 94 = .ok (.istore_n 3, 1) := by decide +kernel
theorem dX8_read_95 : decode cX8_read 95 = .ok (.iload_n 2, 1) := by decide +kernel
theorem dX8_read_96 : decode cX8_read 96 = .ok (.iload_n 3, 1) := by decide +kernel
theorem dX8_read_97 : decode cX8_read 97 = .ok (.ifCond .eq 7, 3) := by decide +kernel
theorem dX8_read_100 : decode cX8_read 100 = .ok (.iconst 1, 1) := by decide +kernel
theorem dX8_read_101 : decode cX8_read 101 = .ok (.goto 4, 3) := by decide +kernel
theorem dX8_read_104 : decode cX8_read 104 = .ok (.iconst 0, 1) := by decide +kernel
theorem dX8_read_105 : decode cX8_read 105 = .ok (.iadd, 1) := by decide +kernel
theorem dX8_read_106 : decode cX8_read 106 = .ok (.istore_n 2, 1) := by decide +kernel
theorem dX8_read_107 : decode cX8_read 107 = .ok (.goto (-78), 3) := by decide +kernel
theorem dX8_read_110 : decode cX8_read 110 = .ok (.iload_n 2, 1) := by decide +kernel
theorem dX8_read_111 : decode cX8_read 111 = .ok (.ireturn, 1) := by decide +kernel
theorem dX8_isSeen_0 : decode cX8_isSeen 0 = .ok (.aload_n 0, 1) := by decide +kernel
theorem dX8_isSeen_1 : decode cX8_isSeen 1 = .ok (.invokevirtual 195, 3) := by decide +kernel
theorem dX8_isSeen_4 : decode cX8_isSeen 4 = .ok (.iconst 1, 1) := by decide +kernel
theorem dX8_isSeen_5 : decode cX8_isSeen 5 = .ok (.istore_n 1, 1) := by decide +kernel
theorem dX8_isSeen_6 : decode cX8_isSeen 6 = .ok (.iconst 0, 1) := by decide +kernel
theorem dX8_isSeen_7 : decode cX8_isSeen 7 = .ok (.istore_n 2, 1) := by decide +kernel
theorem dX8_isSeen_8 : decode cX8_isSeen 8 = .ok (.iload_n 2, 1) := by decide +kernel
theorem dX8_isSeen_9 : decode cX8_isSeen 9 = .ok (.aload_n 0, 1) := by decide +kernel
theorem dX8_isSeen_10 : decode cX8_isSeen 10 = .ok (.getfield 247, 3) := by decide +kernel
theorem dX8_isSeen_13 : decode cX8_isSeen 13 = .ok (.if_icmp .ge 92, 3) := by decide +kernel
theorem dX8_isSeen_16 : decode cX8_isSeen 16 = .ok (.aload_n 0, 1) := by decide +kernel
theorem dX8_isSeen_17 : decode cX8_isSeen 17 = .ok (.getfield 64, 3) := by decide +kernel
theorem dX8_isSeen_20 : decode cX8_isSeen 20 = .ok (.iconst 3, 1) := by decide +kernel
theorem dX8_isSeen_21 : decode cX8_isSeen 21 = .ok (.iload_n 2, 1) := by decide +kernel
theorem dX8_isSeen_22 : decode cX8_isSeen 22 = .ok (.imul, 1) := by decide +kernel
theorem dX8_isSeen_23 : decode cX8_isSeen 23 = .ok (.iconst 1, 1) := by decide +kernel
theorem dX8_isSeen_24 : decode cX8_isSeen 24 = .ok (.iadd, 1) := by decide +kernel
theorem dX8_isSeen_25 : decode cX8_isSeen 25 = .ok (.iaload, 1) := by decide +kernel
theorem dX8_isSeen_26 : decode cX8_isSeen 26 = .ok (.istore_n 3, 1) := by decide +kernel
theorem dX8_isSeen_27 : decode cX8_isSeen 27 = .ok (.aload_n 0, 1) := by decide +kernel
theorem dX8_isSeen_28 : decode cX8_isSeen 28 = .ok (.getfield 64, 3) := by decide +kernel
theorem dX8_isSeen_31 : decode cX8_isSeen 31 = .ok (.iconst 3, 1) := by decide +kernel
theorem dX8_isSeen_32 : decode cX8_isSeen 32 = .ok (.iload_n 2, 1) := by decide +kernel
theorem dX8_isSeen_33 : decode cX8_isSeen 33 = .ok (.imul, 1) := by decide +kernel
theorem dX8_isSeen_34 : decode cX8_isSeen 34 = .ok (.iconst 2, 1) := by decide +kernel
theorem dX8_isSeen_35 : decode cX8_isSeen 35 = .ok (.iadd, 1) := by decide +kernel
theorem dX8_isSeen_36 : decode cX8_isSeen 36 = .ok (.iaload, 1) := by decide +kernel
theorem dX8_isSeen_37 : decode cX8_isSeen 37 = .ok (.bipush 8, 2) := by decide +kernel
theorem dX8_isSeen_39 : decode cX8_isSeen 39 = .ok (.if_icmp .ne 7, 3) := by decide +kernel
theorem dX8_isSeen_42 : decode cX8_isSeen 42 = .ok (.iconst (-1), 1) := by decide +kernel
theorem dX8_isSeen_43 : decode cX8_isSeen 43 = .ok (.goto 13, 3) := by decide +kernel
theorem dX8_isSeen_46 : decode cX8_isSeen 46 = .ok (.aload_n 0, 1) := by decide +kernel
theorem dX8_isSeen_47 : decode cX8_isSeen 47 = .ok (.getfield 64, 3) := by decide +kernel
theorem dX8_isSeen_50 : decode cX8_isSeen 50 = .ok (.iconst 3, 1) := by decide +kernel
theorem dX8_isSeen_51 : decode cX8_isSeen 51 = .ok (.iload_n 2, 1) := by decide +kernel
theorem dX8_isSeen_52 : decode cX8_isSeen 52 = .ok (.imul, 1) := by decide +kernel
theorem dX8_isSeen_53 : decode cX8_isSeen 53 = .ok (.iconst 2, 1) := by decide +kernel
theorem dX8_isSeen_54 : decode cX8_isSeen 54 = .ok (.iadd, 1) := by decide +kernel
theorem dX8_isSeen_55 : decode cX8_isSeen 55 = .ok (.iaload, 1) := by decide +kernel
theorem dX8_isSeen_56 : decode cX8_isSeen 56 = .ok (.istore 4, 2) := by decide +kernel
theorem dX8_isSeen_58 : decode cX8_isSeen 58 = .ok (.iload_n 1, 1) := by decide +kernel
theorem dX8_isSeen_59 : decode cX8_isSeen 59 = .ok (.ifCond .eq 38, 3) := by decide +kernel
theorem dX8_isSeen_62 : decode cX8_isSeen 62 = .ok (.aload_n 0, 1) := by decide +kernel
theorem dX8_isSeen_63 : decode cX8_isSeen 63 = .ok (.iload_n 3, 1) := by decide +kernel
theorem dX8_isSeen_64 : decode cX8_isSeen 64 = .ok (.invokevirtual 142, 3) := by decide +kernel
theorem dX8_isSeen_67 : decode cX8_isSeen 67 = .ok (.ifCond .eq 30, 3) := by decide +kernel
theorem dX8_isSeen_70 : decode cX8_isSeen 70 = .ok (.aload_n 0, 1) := by decide +kernel
theorem dX8_isSeen_71 : decode cX8_isSeen 71 = .ok (.getfield 49, 3) := by decide +kernel
theorem dX8_isSeen_74 : decode cX8_isSeen 74 = .ok (.bipush 8, 2) := by decide +kernel
theorem dX8_isSeen_76 : decode cX8_isSeen 76 = .ok (.aload_n 0, 1) := by decide +kernel
theorem dX8_isSeen_77 : decode cX8_isSeen 77 = .ok (.getfield 64, 3) := by decide +kernel
theorem dX8_isSeen_80 : decode cX8_isSeen 80 = .ok (.iconst 3, 1) := by decide +kernel
theorem dX8_isSeen_81 : decode cX8_isSeen 81 = .ok (.iload_n 2, 1) := by decide +kernel
theorem dX8_isSeen_82 : decode cX8_isSeen 82 = .ok (.imul, 1) := by decide +kernel
theorem dX8_isSeen_83 : decode cX8_isSeen 83 = .ok (.iaload, 1) := by decide +kernel
theorem dX8_isSeen_84 : decode cX8_isSeen 84 = .ok (.imul, 1) := by decide +kernel
theorem dX8_isSeen_85 : decode cX8_isSeen 85 = .ok (.iload_n 3, 1) := by decide +kernel
theorem dX8_isSeen_86 : decode cX8_isSeen 86 = .ok (.iadd, 1) := by decide +kernel
theorem dX8_isSeen_87 : decode cX8_isSeen 87 = .ok (.iaload, 1) := by decide +kernel
theorem dX8_isSeen_88 : decode cX8_isSeen 88 = .ok (.iload 4, 2) := by decide +kernel
theorem dX8_isSeen_90 : decode cX8_isSeen 90 = .ok (.if_icmp .ne 7, 3) := by decide +kernel
theorem dX8_isSeen_93 : decode cX8_isSeen 93 = .ok (.iconst 1, 1) := by decide +kernel
theorem dX8_isSeen_94 : decode cX8_isSeen 94 = .ok (.goto 4, 3) := by decide +kernel
theorem dX8_isSeen_97 : decode cX8_isSeen 97 = .ok (.iconst 0, 1) := by decide +kernel
theorem dX8_isSeen_98 : decode cX8_isSeen 98 = .ok (.istore_n 1, 1) := by decide +kernel
theorem dX8_isSeen_99 : decode cX8_isSeen 99 = .ok (.iinc 2 1, 3) := by decide +kernel
theorem dX8_isSeen_102 : decode cX8_isSeen 102 = .ok (.goto (-94), 3) := by decide +kernel
theorem dX8_isSeen_105 : decode cX8_isSeen 105 = .ok (.iload_n 1, 1) := by decide +kernel
theorem dX8_isSeen_106 : decode cX8_isSeen 106 = .ok (.ireturn, 1) := by decide +kernel
theorem dX8_hadOf_0 : decode cX8_hadOf 0 = .ok (.aload_n 0, 1) := by decide +kernel
theorem dX8_hadOf_1 : decode cX8_hadOf 1 = .ok (.getfield 28, 3) := by decide +kernel
theorem dX8_hadOf_4 : decode cX8_hadOf 4 = .ok (.iconst 4, 1) := by decide +kernel
theorem dX8_hadOf_5 : decode cX8_hadOf 5 = .ok (.iload_n 1, 1) := by decide +kernel
theorem dX8_hadOf_6 : decode cX8_hadOf 6 = .ok (.imul, 1) := by decide +kernel
theorem dX8_hadOf_7 : decode cX8_hadOf 7 = .ok (.iaload, 1) := by decide +kernel
theorem dX8_hadOf_8 : decode cX8_hadOf 8 = .ok (.istore_n 2, 1) := by decide +kernel
theorem dX8_hadOf_9 : decode cX8_hadOf 9 = .ok (.iconst 0, 1) := by decide +kernel
theorem dX8_hadOf_10 : decode cX8_hadOf 10 = .ok (.istore_n 3, 1) := by decide +kernel
theorem dX8_hadOf_11 : decode cX8_hadOf 11 = .ok (.iconst 0, 1) := by decide +kernel
theorem dX8_hadOf_12 : decode cX8_hadOf 12 = .ok (.istore 4, 2) := by decide +kernel
theorem dX8_hadOf_14 : decode cX8_hadOf 14 = .ok (.iload 4, 2) := by decide +kernel
theorem dX8_hadOf_16 : decode cX8_hadOf 16 = .ok (.bipush 8, 2) := by decide +kernel
theorem dX8_hadOf_18 : decode cX8_hadOf 18 = .ok (.if_icmp .ge 37, 3) := by decide +kernel
theorem dX8_hadOf_21 : decode cX8_hadOf 21 = .ok (.aload_n 0, 1) := by decide +kernel
theorem dX8_hadOf_22 : decode cX8_hadOf 22 = .ok (.getfield 28, 3) := by decide +kernel
theorem dX8_hadOf_25 : decode cX8_hadOf 25 = .ok (.iconst 4, 1) := by decide +kernel
theorem dX8_hadOf_26 : decode cX8_hadOf 26 = .ok (.iload_n 1, 1) := by decide +kernel
theorem dX8_hadOf_27 : decode cX8_hadOf 27 = .ok (.imul, 1) := by decide +kernel
theorem dX8_hadOf_28 : decode cX8_hadOf 28 = .ok (.iload 4, 2) := by decide +kernel
theorem dX8_hadOf_30 : decode cX8_hadOf 30 = .ok (.iastore, 1) := by decide +kernel
theorem dX8_hadOf_31 : decode cX8_hadOf 31 = .ok (.iload_n 3, 1) := by decide +kernel
theorem dX8_hadOf_32 : decode cX8_hadOf 32 = .ok (.aload_n 0, 1) := by decide +kernel
theorem dX8_hadOf_33 : decode cX8_hadOf 33 = .ok (.invokevirtual 253, 3) := by decide +kernel
theorem dX8_hadOf_36 : decode cX8_hadOf 36 = .ok (.ifCond .eq 10, 3) := by decide +kernel
theorem dX8_hadOf_39 : decode cX8_hadOf 39 = .ok (.iconst 1, 1) := by decide +kernel
theorem dX8_hadOf_40 : decode cX8_hadOf 40 = .ok (.iload 4, 2) := by decide +kernel
theorem dX8_hadOf_42 : decode cX8_hadOf 42 = .ok (.ishl, 1) := by decide +kernel
theorem dX8_hadOf_43 : decode cX8_hadOf 43 = .ok (.goto 4, 3) := by decide +kernel
theorem dX8_hadOf_46 : decode cX8_hadOf 46 = .ok (.iconst 0, 1) := by decide +kernel
theorem dX8_hadOf_47 : decode cX8_hadOf 47 = .ok (.ior, 1) := by decide +kernel
theorem dX8_hadOf_48 : decode cX8_hadOf 48 = .ok (.istore_n 3, 1) := by decide +kernel
theorem dX8_hadOf_49 : decode cX8_hadOf 49 = .ok (.iinc 4 1, 3) := by decide +kernel
theorem dX8_hadOf_52 : decode cX8_hadOf 52 = .ok (.goto (-38), 3) := by decide +kernel
theorem dX8_hadOf_55 : decode cX8_hadOf 55 = .ok (.aload_n 0, 1) := by decide +kernel
theorem dX8_hadOf_56 : decode cX8_hadOf 56 = .ok (.getfield 28, 3) := by decide +kernel
theorem dX8_hadOf_59 : decode cX8_hadOf 59 = .ok (.iconst 4, 1) := by decide +kernel
theorem dX8_hadOf_60 : decode cX8_hadOf 60 = .ok (.iload_n 1, 1) := by decide +kernel
theorem dX8_hadOf_61 : decode cX8_hadOf 61 = .ok (.imul, 1) := by decide +kernel
theorem dX8_hadOf_62 : decode cX8_hadOf 62 = .ok (.iload_n 2, 1) := by decide +kernel
theorem dX8_hadOf_63 : decode cX8_hadOf 63 = .ok (.iastore, 1) := by decide +kernel
theorem dX8_hadOf_64 : decode cX8_hadOf 64 = .ok (.iload_n 3, 1) := by decide +kernel
theorem dX8_hadOf_65 : decode cX8_hadOf 65 = .ok (.ireturn, 1) := by decide +kernel
theorem dX8_had_0 : decode cX8_had 0 = .ok (.aload_n 0, 1) := by decide +kernel
theorem dX8_had_1 : decode cX8_had 1 = .ok (.invokevirtual 198, 3) := by decide +kernel
theorem dX8_had_4 : decode cX8_had 4 = .ok (.aload_n 0, 1) := by decide +kernel
theorem dX8_had_5 : decode cX8_had 5 = .ok (.iload_n 1, 1) := by decide +kernel
theorem dX8_had_6 : decode cX8_had 6 = .ok (.invokevirtual 142, 3) := by decide +kernel
theorem dX8_had_9 : decode cX8_had 9 = .ok (.ifCond .eq 11, 3) := by decide +kernel
theorem dX8_had_12 : decode cX8_had 12 = .ok (.aload_n 0, 1) := by decide +kernel
theorem dX8_had_13 : decode cX8_had 13 = .ok (.iload_n 1, 1) := by decide +kernel
theorem dX8_had_14 : decode cX8_had 14 = .ok (.invokevirtual 257, 3) := by decide +kernel
theorem dX8_had_17 : decode cX8_had 17 = .ok (.goto 5, 3) := by decide +kernel
theorem dX8_had_20 : decode cX8_had 20 = .ok (.bipush (-2), 2) := by decide +kernel
theorem dX8_had_22 : decode cX8_had 22 = .ok (.ireturn, 1) := by decide +kernel
theorem dX8_wasNow_0 : decode cX8_wasNow 0 = .ok (.aload_n 0, 1) := by decide +kernel
theorem dX8_wasNow_1 : decode cX8_wasNow 1 = .ok (.getfield 37, 3) := by decide +kernel
theorem dX8_wasNow_4 : decode cX8_wasNow 4 = .ok (.iconst 0, 1) := by decide +kernel
theorem dX8_wasNow_5 : decode cX8_wasNow 5 = .ok (.iaload, 1) := by decide +kernel
theorem dX8_wasNow_6 : decode cX8_wasNow 6 = .ok (.istore_n 1, 1) := by decide +kernel
theorem dX8_wasNow_7 : decode cX8_wasNow 7 = .ok (.iconst 0, 1) := by decide +kernel
theorem dX8_wasNow_8 : decode cX8_wasNow 8 = .ok (.istore_n 2, 1) := by decide +kernel
theorem dX8_wasNow_9 : decode cX8_wasNow 9 = .ok (.iconst 0, 1) := by decide +kernel
theorem dX8_wasNow_10 : decode cX8_wasNow 10 = .ok (.istore_n 3, 1) := by decide +kernel
theorem dX8_wasNow_11 : decode cX8_wasNow 11 = .ok (.iload_n 3, 1) := by decide +kernel
theorem dX8_wasNow_12 : decode cX8_wasNow 12 = .ok (.bipush 10, 2) := by decide +kernel
theorem dX8_wasNow_14 : decode cX8_wasNow 14 = .ok (.if_icmp .ge 33, 3) := by decide +kernel
theorem dX8_wasNow_17 : decode cX8_wasNow 17 = .ok (.aload_n 0, 1) := by decide +kernel
theorem dX8_wasNow_18 : decode cX8_wasNow 18 = .ok (.getfield 37, 3) := by decide +kernel
theorem dX8_wasNow_21 : decode cX8_wasNow 21 = .ok (.iconst 0, 1) := by decide +kernel
theorem dX8_wasNow_22 : decode cX8_wasNow 22 = .ok (.iload_n 3, 1) := by decide +kernel
theorem dX8_wasNow_23 : decode cX8_wasNow 23 = .ok (.iastore, 1) := by decide +kernel
theorem dX8_wasNow_24 : decode cX8_wasNow 24 = .ok (.iload_n 2, 1) := by decide +kernel
theorem dX8_wasNow_25 : decode cX8_wasNow 25 = .ok (.aload_n 0, 1) := by decide +kernel
theorem dX8_wasNow_26 : decode cX8_wasNow 26 = .ok (.invokevirtual 253, 3) := by decide +kernel
theorem dX8_wasNow_29 : decode cX8_wasNow 29 = .ok (.ifCond .eq 9, 3) := by decide +kernel
theorem dX8_wasNow_32 : decode cX8_wasNow 32 = .ok (.iconst 1, 1) := by decide +kernel
theorem dX8_wasNow_33 : decode cX8_wasNow 33 = .ok (.iload_n 3, 1) := by decide +kernel
theorem dX8_wasNow_34 : decode cX8_wasNow 34 = .ok (.ishl, 1) := by decide +kernel
theorem dX8_wasNow_35 : decode cX8_wasNow 35 = .ok (.goto 4, 3) := by decide +kernel
theorem dX8_wasNow_38 : decode cX8_wasNow 38 = .ok (.iconst 0, 1) := by decide +kernel
theorem dX8_wasNow_39 : decode cX8_wasNow 39 = .ok (.ior, 1) := by decide +kernel
theorem dX8_wasNow_40 : decode cX8_wasNow 40 = .ok (.istore_n 2, 1) := by decide +kernel
theorem dX8_wasNow_41 : decode cX8_wasNow 41 = .ok (.iinc 3 1, 3) := by decide +kernel
theorem dX8_wasNow_44 : decode cX8_wasNow 44 = .ok (.goto (-33), 3) := by decide +kernel
theorem dX8_wasNow_47 : decode cX8_wasNow 47 = .ok (.aload_n 0, 1) := by decide +kernel
theorem dX8_wasNow_48 : decode cX8_wasNow 48 = .ok (.getfield 37, 3) := by decide +kernel
theorem dX8_wasNow_51 : decode cX8_wasNow 51 = .ok (.iconst 0, 1) := by decide +kernel
theorem dX8_wasNow_52 : decode cX8_wasNow 52 = .ok (.iload_n 1, 1) := by decide +kernel
theorem dX8_wasNow_53 : decode cX8_wasNow 53 = .ok (.iastore, 1) := by decide +kernel
theorem dX8_wasNow_54 : decode cX8_wasNow 54 = .ok (.iload_n 2, 1) := by decide +kernel
theorem dX8_wasNow_55 : decode cX8_wasNow 55 = .ok (.ireturn, 1) := by decide +kernel
theorem dX8_was_0 : decode cX8_was 0 = .ok (.aload_n 0, 1) := by decide +kernel
theorem dX8_was_1 : decode cX8_was 1 = .ok (.invokevirtual 198, 3) := by decide +kernel
theorem dX8_was_4 : decode cX8_was 4 = .ok (.aload_n 0, 1) := by decide +kernel
theorem dX8_was_5 : decode cX8_was 5 = .ok (.invokevirtual 260, 3) := by decide +kernel
theorem dX8_was_8 : decode cX8_was 8 = .ok (.ireturn, 1) := by decide +kernel
theorem dX8_askOf_0 : decode cX8_askOf 0 = .ok (.aload_n 0, 1) := by decide +kernel
theorem dX8_askOf_1 : decode cX8_askOf 1 = .ok (.invokevirtual 260, 3) := by decide +kernel
theorem dX8_askOf_4 : decode cX8_askOf 4 = .ok (.istore_n 2, 1) := by decide +kernel
theorem dX8_askOf_5 : decode cX8_askOf 5 = .ok (.aload_n 0, 1) := by decide +kernel
theorem dX8_askOf_6 : decode cX8_askOf 6 = .ok (.getfield 37, 3) := by decide +kernel
theorem dX8_askOf_9 : decode cX8_askOf 9 = .ok (.iconst 0, 1) := by decide +kernel
theorem dX8_askOf_10 : decode cX8_askOf 10 = .ok (.iaload, 1) := by decide +kernel
theorem dX8_askOf_11 : decode cX8_askOf 11 = .ok (.istore_n 3, 1) := by decide +kernel
theorem dX8_askOf_12 : decode cX8_askOf 12 = .ok (.iconst 0, 1) := by decide +kernel
theorem dX8_askOf_13 : decode cX8_askOf 13 = .ok (.istore 4, 2) := by decide +kernel
theorem dX8_askOf_15 : decode cX8_askOf 15 = .ok (.iload 4, 2) := by decide +kernel
theorem dX8_askOf_17 : decode cX8_askOf 17 = .ok (.bipush 72, 2) := by decide +kernel
theorem dX8_askOf_19 : decode cX8_askOf 19 = .ok (.if_icmp .ge 17, 3) := by decide +kernel
theorem dX8_askOf_22 : decode cX8_askOf 22 = .ok (.aload_n 0, 1) := by decide +kernel
theorem dX8_askOf_23 : decode cX8_askOf 23 = .ok (.getfield 67, 3) := by decide +kernel
theorem dX8_askOf_26 : decode cX8_askOf 26 = .ok (.iload 4, 2) := by decide +kernel
theorem dX8_askOf_28 : decode cX8_askOf 28 = .ok (.iconst 0, 1) := by decide +kernel
theorem dX8_askOf_29 : decode cX8_askOf 29 = .ok (.iastore, 1) := by decide +kernel
theorem dX8_askOf_30 : decode cX8_askOf 30 = .ok (.iinc 4 1, 3) := by decide +kernel
theorem dX8_askOf_33 : decode cX8_askOf 33 = .ok (.goto (-18), 3) := by decide +kernel
theorem dX8_askOf_36 : decode cX8_askOf 36 = .ok (.iconst 0, 1) := by decide +kernel
theorem dX8_askOf_37 : decode cX8_askOf 37 = .ok (.istore 4, 2) := by decide +kernel
theorem dX8_askOf_39 : decode cX8_askOf 39 = .ok (.iload 4, 2) := by decide +kernel
theorem dX8_askOf_41 : decode cX8_askOf 41 = .ok (.bipush 10, 2) := by decide +kernel
theorem dX8_askOf_43 : decode cX8_askOf 43 = .ok (.if_icmp .ge 77, 3) := by decide +kernel
theorem dX8_askOf_46 : decode cX8_askOf 46 = .ok (.iload_n 2, 1) := by decide +kernel
theorem dX8_askOf_47 : decode cX8_askOf 47 = .ok (.iload 4, 2) := by decide +kernel
theorem dX8_askOf_49 : decode cX8_askOf 49 = .ok (.invokestatic 153, 3) := by decide +kernel
theorem dX8_askOf_52 : decode cX8_askOf 52 = .ok (.ifCond .eq 62, 3) := by decide +kernel
theorem dX8_askOf_55 : decode cX8_askOf 55 = .ok (.aload_n 0, 1) := by decide +kernel
theorem dX8_askOf_56 : decode cX8_askOf 56 = .ok (.getfield 37, 3) := by decide +kernel
theorem dX8_askOf_59 : decode cX8_askOf 59 = .ok (.iconst 0, 1) := by decide +kernel
theorem dX8_askOf_60 : decode cX8_askOf 60 = .ok (.iload 4, 2) := by decide +kernel
theorem dX8_askOf_62 : decode cX8_askOf 62 = .ok (.iastore, 1) := by decide +kernel
theorem dX8_askOf_63 : decode cX8_askOf 63 = .ok (.aload_n 0, 1) := by decide +kernel
theorem dX8_askOf_64 : decode cX8_askOf 64 = .ok (.invokevirtual 195, 3) := by decide +kernel
theorem dX8_askOf_67 : decode cX8_askOf 67 = .ok (.iconst 0, 1) := by decide +kernel
theorem dX8_askOf_68 : decode cX8_askOf 68 = .ok (.istore 5, 2) := by decide +kernel
theorem dX8_askOf_70 : decode cX8_askOf 70 = .ok (.iload 5, 2) := by decide +kernel
theorem dX8_askOf_72 : decode cX8_askOf 72 = .ok (.aload_n 0, 1) := by decide +kernel
theorem dX8_askOf_73 : decode cX8_askOf 73 = .ok (.getfield 120, 3) := by decide +kernel
theorem dX8_askOf_76 : decode cX8_askOf 76 = .ok (.if_icmp .ge 38, 3) := by decide +kernel
theorem dX8_askOf_79 : decode cX8_askOf 79 = .ok (.aload_n 0, 1) := by decide +kernel
theorem dX8_askOf_80 : decode cX8_askOf 80 = .ok (.getfield 67, 3) := by decide +kernel
theorem dX8_askOf_83 : decode cX8_askOf 83 = .ok (.bipush 9, 2) := by decide +kernel
theorem dX8_askOf_85 : decode cX8_askOf 85 = .ok (.iload 5, 2) := by decide +kernel
theorem dX8_askOf_87 : decode cX8_askOf 87 = .ok (.imul, 1) := by decide +kernel
theorem dX8_askOf_88 : decode cX8_askOf 88 = .ok (.aload_n 0, 1) := by decide +kernel
theorem dX8_askOf_89 : decode cX8_askOf 89 = .ok (.getfield 49, 3) := by decide +kernel
theorem dX8_askOf_92 : decode cX8_askOf 92 = .ok (.bipush 8, 2) := by decide +kernel
theorem dX8_askOf_94 : decode cX8_askOf 94 = .ok (.iload_n 1, 1) := by decide +kernel
theorem dX8_askOf_95 : decode cX8_askOf 95 = .ok (.imul, 1) := by decide +kernel
theorem dX8_askOf_96 : decode cX8_askOf 96 = .ok (.iload 5, 2) := by decide +kernel
theorem dX8_askOf_98 : decode cX8_askOf 98 = .ok (.iadd, 1) := by decide +kernel
theorem dX8_askOf_99 : decode cX8_askOf 99 = .ok (.iaload, 1) := by decide +kernel
theorem dX8_askOf_100 : decode cX8_askOf 100 = .ok (.iadd, 1) := by decide +kernel
theorem dX8_askOf_101 : decode cX8_askOf 101 = .ok (.iconst 1, 1) := by decide +kernel
theorem dX8_askOf_102 : decode cX8_askOf 102 = .ok (.iadd, 1) := by decide +kernel
theorem dX8_askOf_103 : decode cX8_askOf 103 = .ok (.dup2, 1) := by decide +kernel
theorem dX8_askOf_104 : decode cX8_askOf 104 = .ok (.iaload, 1) := by decide +kernel
theorem dX8_askOf_105 : decode cX8_askOf 105 = .ok (.iconst 1, 1) := by decide +kernel
theorem dX8_askOf_106 : decode cX8_askOf 106 = .ok (.iadd, 1) := by decide +kernel
theorem dX8_askOf_107 : decode cX8_askOf 107 = .ok (.iastore, 1) := by decide +kernel
theorem dX8_askOf_108 : decode cX8_askOf 108 = .ok (.iinc 5 1, 3) := by decide +kernel
theorem dX8_askOf_111 : decode cX8_askOf 111 = .ok (.goto (-41), 3) := by decide +kernel
theorem dX8_askOf_114 : decode cX8_askOf 114 = .ok (.iinc 4 1, 3) := by decide +kernel
theorem dX8_askOf_117 : decode cX8_askOf 117 = .ok (.goto (-78), 3) := by decide +kernel
theorem dX8_askOf_120 : decode cX8_askOf 120 = .ok (.aload_n 0, 1) := by decide +kernel
theorem dX8_askOf_121 : decode cX8_askOf 121 = .ok (.getfield 37, 3) := by decide +kernel
theorem dX8_askOf_124 : decode cX8_askOf 124 = .ok (.iconst 0, 1) := by decide +kernel
theorem dX8_askOf_125 : decode cX8_askOf 125 = .ok (.iload_n 3, 1) := by decide +kernel
theorem dX8_askOf_126 : decode cX8_askOf 126 = .ok (.iastore, 1) := by decide +kernel
theorem dX8_askOf_127 : decode cX8_askOf 127 = .ok (.iconst (-1), 1) := by decide +kernel
theorem dX8_askOf_128 : decode cX8_askOf 128 = .ok (.istore 4, 2) := by decide +kernel
theorem dX8_askOf_130 : decode cX8_askOf 130 = .ok (.iconst 0, 1) := by decide +kernel
theorem dX8_askOf_131 : decode cX8_askOf 131 = .ok (.istore 5, 2) := by decide +kernel
theorem dX8_askOf_133 : decode cX8_askOf 133 = .ok (.iconst 0, 1) := by decide +kernel
theorem dX8_askOf_134 : decode cX8_askOf 134 = .ok (.istore 6, 2) := by decide +kernel
theorem dX8_askOf_136 : decode cX8_askOf 136 = .ok (.iload 6, 2) := by decide +kernel
theorem dX8_askOf_138 : decode cX8_askOf 138 = .ok (.aload_n 0, 1) := by decide +kernel
theorem dX8_askOf_139 : decode cX8_askOf 139 = .ok (.getfield 120, 3) := by decide +kernel
theorem dX8_askOf_142 : decode cX8_askOf 142 = .ok (.if_icmp .ge 96, 3) := by decide +kernel
theorem dX8_askOf_145 : decode cX8_askOf 145 = .ok (.iconst 0, 1) := by decide +kernel
theorem dX8_askOf_146 : decode cX8_askOf 146 = .ok (.istore 7, 2) := by decide +kernel
theorem dX8_askOf_148 : decode cX8_askOf 148 = .ok (.iconst 0, 1) := by decide +kernel
theorem dX8_askOf_149 : decode cX8_askOf 149 = .ok (.istore 8, 2) := by decide +kernel
theorem dX8_askOf_151 : decode cX8_askOf 151 = .ok (.iload 8, 2) := by decide +kernel
theorem dX8_askOf_153 : decode cX8_askOf 153 = .ok (.bipush 9, 2) := by decide +kernel
theorem dX8_askOf_155 : decode cX8_askOf 155 = .ok (.if_icmp .ge 29, 3) := by decide +kernel
theorem dX8_askOf_158 : decode cX8_askOf 158 = .ok (.aload_n 0, 1) := by decide +kernel
theorem dX8_askOf_159 : decode cX8_askOf 159 = .ok (.getfield 67, 3) := by decide +kernel
theorem dX8_askOf_162 : decode cX8_askOf 162 = .ok (.bipush 9, 2) := by decide +kernel
theorem dX8_askOf_164 : decode cX8_askOf 164 = .ok (.iload 6, 2) := by decide +kernel
theorem dX8_askOf_166 : decode cX8_askOf 166 = .ok (.imul, 1) := by decide +kernel
theorem dX8_askOf_167 : decode cX8_askOf 167 = .ok (.iload 8, 2) := by decide +kernel
theorem dX8_askOf_169 : decode cX8_askOf 169 = .ok (.iadd, 1) := by decide +kernel
theorem dX8_askOf_170 : decode cX8_askOf 170 = .ok (.iaload, 1) := by decide +kernel
theorem dX8_askOf_171 : decode cX8_askOf 171 = .ok (.iload 7, 2) := by decide +kernel
theorem dX8_askOf_173 : decode cX8_askOf 173 = .ok (.invokestatic 236, 3) := by decide +kernel
theorem dX8_askOf_176 : decode cX8_askOf 176 = .ok (.istore 7, 2) := by decide +kernel
theorem dX8_askOf_178 : decode cX8_askOf 178 = .ok (.iinc 8 1, 3) := by decide +kernel
theorem dX8_askOf_181 : decode cX8_askOf 181 = .ok (.goto (-30), 3) := by decide +kernel
theorem dX8_askOf_184 : decode cX8_askOf 184 = .ok (.iload 4, 2) := by decide +kernel
theorem dX8_askOf_186 : decode cX8_askOf 186 = .ok (.iconst (-1), 1) := by decide +kernel
theorem dX8_askOf_187 : decode cX8_askOf 187 = .ok (.if_icmp .eq 10, 3) := by decide +kernel
theorem dX8_askOf_190 : decode cX8_askOf 190 = .ok (.iload 7, 2) := by decide +kernel
theorem dX8_askOf_192 : decode cX8_askOf 192 = .ok (.iload 5, 2) := by decide +kernel
theorem dX8_askOf_194 : decode cX8_askOf 194 = .ok (.if_icmp .ge 7, 3) := by decide +kernel
theorem dX8_askOf_197 : decode cX8_askOf 197 = .ok (.iconst 1, 1) := by decide +kernel
theorem dX8_askOf_198 : decode cX8_askOf 198 = .ok (.goto 4, 3) := by decide +kernel
theorem dX8_askOf_201 : decode cX8_askOf 201 = .ok (.iconst 0, 1) := by decide +kernel
theorem dX8_askOf_202 : decode cX8_askOf 202 = .ok (.istore 8, 2) := by decide +kernel
theorem dX8_askOf_204 : decode cX8_askOf 204 = .ok (.iload 8, 2) := by decide +kernel
theorem dX8_askOf_206 : decode cX8_askOf 206 = .ok (.ifCond .eq 8, 3) := by decide +kernel
theorem dX8_askOf_209 : decode cX8_askOf 209 = .ok (.iload 6, 2) := by decide +kernel
theorem dX8_askOf_211 : decode cX8_askOf 211 = .ok (.goto 5, 3) := by decide +kernel
theorem dX8_askOf_214 : decode cX8_askOf 214 = .ok (.iload 4, 2) := by decide +kernel
theorem dX8_askOf_216 : decode cX8_askOf 216 = .ok (.istore 4, 2) := by decide +kernel
theorem dX8_askOf_218 : decode cX8_askOf 218 = .ok (.iload 8, 2) := by decide +kernel
theorem dX8_askOf_220 : decode cX8_askOf 220 = .ok (.ifCond .eq 8, 3) := by decide +kernel
theorem dX8_askOf_223 : decode cX8_askOf 223 = .ok (.iload 7, 2) := by decide +kernel
theorem dX8_askOf_225 : decode cX8_askOf 225 = .ok (.goto 5, 3) := by decide +kernel
theorem dX8_askOf_228 : decode cX8_askOf 228 = .ok (.iload 5, 2) := by decide +kernel
theorem dX8_askOf_230 : decode cX8_askOf 230 = .ok (.istore 5, 2) := by decide +kernel
theorem dX8_askOf_232 : decode cX8_askOf 232 = .ok (.iinc 6 1, 3) := by decide +kernel
theorem dX8_askOf_235 : decode cX8_askOf 235 = .ok (.goto (-99), 3) := by decide +kernel
theorem dX8_askOf_238 : decode cX8_askOf 238 = .ok (.iload 4, 2) := by decide +kernel
theorem dX8_askOf_240 : decode cX8_askOf 240 = .ok (.ireturn, 1) := by decide +kernel
theorem dX8_ask_0 : decode cX8_ask 0 = .ok (.aload_n 0, 1) := by decide +kernel
theorem dX8_ask_1 : decode cX8_ask 1 = .ok (.invokevirtual 198, 3) := by decide +kernel
theorem dX8_ask_4 : decode cX8_ask 4 = .ok (.iload_n 1, 1) := by decide +kernel
theorem dX8_ask_5 : decode cX8_ask 5 = .ok (.invokestatic 201, 3) := by decide +kernel
theorem dX8_ask_8 : decode cX8_ask 8 = .ok (.ifCond .eq 11, 3) := by decide +kernel
theorem dX8_ask_11 : decode cX8_ask 11 = .ok (.aload_n 0, 1) := by decide +kernel
theorem dX8_ask_12 : decode cX8_ask 12 = .ok (.iload_n 1, 1) := by decide +kernel
theorem dX8_ask_13 : decode cX8_ask 13 = .ok (.invokevirtual 263, 3) := by decide +kernel
theorem dX8_ask_16 : decode cX8_ask 16 = .ok (.goto 5, 3) := by decide +kernel
theorem dX8_ask_19 : decode cX8_ask 19 = .ok (.bipush (-2), 2) := by decide +kernel
theorem dX8_ask_21 : decode cX8_ask 21 = .ok (.ireturn, 1) := by decide +kernel
theorem dX8_maybeOf_0 : decode cX8_maybeOf 0 = .ok (.aload_n 0, 1) := by decide +kernel
theorem dX8_maybeOf_1 : decode cX8_maybeOf 1 = .ok (.getfield 37, 3) := by decide +kernel
theorem dX8_maybeOf_4 : decode cX8_maybeOf 4 = .ok (.iconst 1, 1) := by decide +kernel
theorem dX8_maybeOf_5 : decode cX8_maybeOf 5 = .ok (.iaload, 1) := by decide +kernel
theorem dX8_maybeOf_6 : decode cX8_maybeOf 6 = .ok (.istore 5, 2) := by decide +kernel
theorem dX8_maybeOf_8 : decode cX8_maybeOf 8 = .ok (.lconst 0, 1) := by decide +kernel
theorem dX8_maybeOf_9 : decode cX8_maybeOf 9 = .ok (.lstore 6, 2) := by decide +kernel
theorem dX8_maybeOf_11 : decode cX8_maybeOf 11 = .ok (.iconst 0, 1) := by decide +kernel
theorem dX8_maybeOf_12 : decode cX8_maybeOf 12 = .ok (.istore 8, 2) := by decide +kernel
theorem dX8_maybeOf_14 : decode cX8_maybeOf 14 = .ok (.iload 8, 2) := by decide +kernel
theorem dX8_maybeOf_16 : decode cX8_maybeOf 16 = .ok (.sipush 1024, 3) := by decide +kernel
theorem dX8_maybeOf_19 : decode cX8_maybeOf 19 = .ok (.if_icmp .ge 109, 3) := by decide +kernel
theorem dX8_maybeOf_22 : decode cX8_maybeOf 22 = .ok (.iload 8, 2) := by decide +kernel
theorem dX8_maybeOf_24 : decode cX8_maybeOf 24 = .ok (.iload 5, 2) := by decide +kernel
theorem dX8_maybeOf_26 : decode cX8_maybeOf 26 = .ok (.iconst (-1), 1) := by decide +kernel
theorem dX8_maybeOf_27 : decode cX8_maybeOf 27 = .ok (.ixor, 1) := by decide +kernel
theorem dX8_maybeOf_28 : decode cX8_maybeOf 28 = .ok (.iand, 1) := by decide +kernel
theorem dX8_maybeOf_29 : decode cX8_maybeOf 29 = .ok (.ifCond .ne 93, 3) := by decide +kernel
theorem dX8_maybeOf_32 : decode cX8_maybeOf 32 = .ok (.aload_n 0, 1) := by decide +kernel
theorem dX8_maybeOf_33 : decode cX8_maybeOf 33 = .ok (.getfield 37, 3) := by decide +kernel
theorem dX8_maybeOf_36 : decode cX8_maybeOf 36 = .ok (.iconst 1, 1) := by decide +kernel
theorem dX8_maybeOf_37 : decode cX8_maybeOf 37 = .ok (.iload 8, 2) := by decide +kernel
theorem dX8_maybeOf_39 : decode cX8_maybeOf 39 = .ok (.iastore, 1) := by decide +kernel
theorem dX8_maybeOf_40 : decode cX8_maybeOf 40 = .ok (.aload_n 0, 1) := by decide +kernel
theorem dX8_maybeOf_41 : decode cX8_maybeOf 41 = .ok (.invokevirtual 195, 3) := by decide +kernel
theorem dX8_maybeOf_44 : decode cX8_maybeOf 44 = .ok (.aload_n 0, 1) := by decide +kernel
theorem dX8_maybeOf_45 : decode cX8_maybeOf 45 = .ok (.iload_n 2, 1) := by decide +kernel
theorem dX8_maybeOf_46 : decode cX8_maybeOf 46 = .ok (.iload_n 3, 1) := by decide +kernel
theorem dX8_maybeOf_47 : decode cX8_maybeOf 47 = .ok (.invokevirtual 211, 3) := by decide +kernel
theorem dX8_maybeOf_50 : decode cX8_maybeOf 50 = .ok (.ifCond .eq 7, 3) := by decide +kernel
theorem dX8_maybeOf_53 : decode cX8_maybeOf 53 = .ok (.lconst 1, 1) := by decide +kernel
theorem dX8_maybeOf_54 : decode cX8_maybeOf 54 = .ok (.goto 4, 3) := by decide +kernel
theorem dX8_maybeOf_57 : decode cX8_maybeOf 57 = .ok (.lconst 0, 1) := by decide +kernel
theorem dX8_maybeOf_58 : decode cX8_maybeOf 58 = .ok (.lstore 9, 2) := by decide +kernel
theorem dX8_maybeOf_60 : decode cX8_maybeOf 60 = .ok (.iconst 0, 1) := by decide +kernel
theorem dX8_maybeOf_61 : decode cX8_maybeOf 61 = .ok (.istore 11, 2) := by decide +kernel
theorem dX8_maybeOf_63 : decode cX8_maybeOf 63 = .ok (.iload 11, 2) := by decide +kernel
theorem dX8_maybeOf_65 : decode cX8_maybeOf 65 = .ok (.bipush 10, 2) := by decide +kernel
theorem dX8_maybeOf_67 : decode cX8_maybeOf 67 = .ok (.if_icmp .ge 48, 3) := by decide +kernel
theorem dX8_maybeOf_70 : decode cX8_maybeOf 70 = .ok (.lload 9, 2) := by decide +kernel
theorem dX8_maybeOf_72 : decode cX8_maybeOf 72 = .ok (.iload 5, 2) := by decide +kernel
theorem dX8_maybeOf_74 : decode cX8_maybeOf 74 = .ok (.iload 11, 2) := by decide +kernel
theorem dX8_maybeOf_76 : decode cX8_maybeOf 76 = .ok (.invokestatic 153, 3) := by decide +kernel
theorem dX8_maybeOf_79 : decode cX8_maybeOf 79 = .ok (.ifCond .ne 7, 3) := by decide +kernel
theorem dX8_maybeOf_82 : decode cX8_maybeOf 82 = .ok (.lconst 1, 1) := by decide +kernel
theorem dX8_maybeOf_83 : decode cX8_maybeOf 83 = .ok (.goto 23, 3) := by decide +kernel
theorem dX8_maybeOf_86 : decode cX8_maybeOf 86 = .ok (.iload 8, 2) := by decide +kernel
theorem dX8_maybeOf_88 : decode cX8_maybeOf 88 = .ok (.iload 11, 2) := by decide +kernel
theorem dX8_maybeOf_90 : decode cX8_maybeOf 90 = .ok (.invokestatic 153, 3) := by decide +kernel
theorem dX8_maybeOf_93 : decode cX8_maybeOf 93 = .ok (.ifCond .eq 8, 3) := by decide +kernel
theorem dX8_maybeOf_96 : decode cX8_maybeOf 96 = .ok (.iload_n 1, 1) := by decide +kernel
theorem dX8_maybeOf_97 : decode cX8_maybeOf 97 = .ok (.i2l, 1) := by decide +kernel
theorem dX8_maybeOf_98 : decode cX8_maybeOf 98 = .ok (.goto 8, 3) := by decide +kernel
theorem dX8_maybeOf_101 : decode cX8_maybeOf 101 = .ok (.bipush 16, 2) := by decide +kernel
theorem dX8_maybeOf_103 : decode cX8_maybeOf 103 = .ok (.iload_n 1, 1) := by decide +kernel
theorem dX8_maybeOf_104 : decode cX8_maybeOf 104 = .ok (.isub, 1) := by decide +kernel
theorem dX8_maybeOf_105 : decode cX8_maybeOf 105 = .ok (.i2l, 1) := by decide +kernel
theorem dX8_maybeOf_106 : decode cX8_maybeOf 106 = .ok (.lmul, 1) := by decide +kernel
theorem dX8_maybeOf_107 : decode cX8_maybeOf 107 = .ok (.lstore 9, 2) := by decide +kernel
theorem dX8_maybeOf_109 : decode cX8_maybeOf 109 = .ok (.iinc 11 1, 3) := by decide +kernel
theorem dX8_maybeOf_112 : decode cX8_maybeOf 112 = .ok (.goto (-49), 3) := by decide +kernel
theorem dX8_maybeOf_115 : decode cX8_maybeOf 115 = .ok (.lload 6, 2) := by decide +kernel
theorem dX8_maybeOf_117 : decode cX8_maybeOf 117 = .ok (.lload 9, 2) := by decide +kernel
theorem dX8_maybeOf_119 : decode cX8_maybeOf 119 = .ok (.ladd, 1) := by decide +kernel
theorem dX8_maybeOf_120 : decode cX8_maybeOf 120 = .ok (.lstore 6, 2) := by decide +kernel
theorem dX8_maybeOf_122 : decode cX8_maybeOf 122 = .ok (.iinc 8 1, 3) := by decide +kernel
theorem dX8_maybeOf_125 : decode cX8_maybeOf 125 = .ok (.goto (-111), 3) := by decide +kernel
theorem dX8_maybeOf_128 : decode cX8_maybeOf 128 = .ok (.aload_n 0, 1) := by decide +kernel
theorem dX8_maybeOf_129 : decode cX8_maybeOf 129 = .ok (.getfield 37, 3) := by decide +kernel
theorem dX8_maybeOf_132 : decode cX8_maybeOf 132 = .ok (.iconst 1, 1) := by decide +kernel
theorem dX8_maybeOf_133 : decode cX8_maybeOf 133 = .ok (.iload 5, 2) := by decide +kernel
theorem dX8_maybeOf_135 : decode cX8_maybeOf 135 = .ok (.iastore, 1) := by decide +kernel
theorem dX8_maybeOf_136 : decode cX8_maybeOf 136 = .ok (.lload 6, 2) := by decide +kernel
theorem dX8_maybeOf_138 : decode cX8_maybeOf 138 = .ok (.lconst 1, 1) := by decide +kernel
theorem dX8_maybeOf_139 : decode cX8_maybeOf 139 = .ok (.iconst 4, 1) := by decide +kernel
theorem dX8_maybeOf_140 : decode cX8_maybeOf 140 = .ok (.iload 5, 2) := by decide +kernel
theorem dX8_maybeOf_142 : decode cX8_maybeOf 142 = .ok (.invokestatic 230, 3) := by decide +kernel
theorem dX8_maybeOf_145 : decode cX8_maybeOf 145 = .ok (.imul, 1) := by decide +kernel
theorem dX8_maybeOf_146 : decode cX8_maybeOf 146 = .ok (.lshl, 1) := by decide +kernel
theorem dX8_maybeOf_147 : decode cX8_maybeOf 147 = .ok (.iload 4, 2) := by decide +kernel
theorem dX8_maybeOf_149 : decode cX8_maybeOf 149 = .ok (.invokestatic 266, 3) := by decide +kernel
theorem dX8_maybeOf_152 : decode cX8_maybeOf 152 = .ok (.lreturn, 1) := by decide +kernel
theorem dX8_maybe_0 : decode cX8_maybe 0 = .ok (.aload_n 0, 1) := by decide +kernel
theorem dX8_maybe_1 : decode cX8_maybe 1 = .ok (.invokevirtual 198, 3) := by decide +kernel
theorem dX8_maybe_4 : decode cX8_maybe 4 = .ok (.iload_n 1, 1) := by decide +kernel
theorem dX8_maybe_5 : decode cX8_maybe 5 = .ok (.i2l, 1) := by decide +kernel
theorem dX8_maybe_6 : decode cX8_maybe 6 = .ok (.lconst 0, 1) := by decide +kernel
theorem dX8_maybe_7 : decode cX8_maybe 7 = .ok (.ldc2_w 270, 3) := by decide +kernel
theorem dX8_maybe_10 : decode cX8_maybe 10 = .ok (.invokestatic 76, 3) := by decide +kernel
theorem dX8_maybe_13 : decode cX8_maybe 13 = .ok (.ifCond .eq 38, 3) := by decide +kernel
theorem dX8_maybe_16 : decode cX8_maybe 16 = .ok (.iload_n 2, 1) := by decide +kernel
theorem dX8_maybe_17 : decode cX8_maybe 17 = .ok (.invokestatic 201, 3) := by decide +kernel
theorem dX8_maybe_20 : decode cX8_maybe 20 = .ok (.ifCond .eq 31, 3) := by decide +kernel
theorem dX8_maybe_23 : decode cX8_maybe 23 = .ok (.aload_n 0, 1) := by decide +kernel
theorem dX8_maybe_24 : decode cX8_maybe 24 = .ok (.iload_n 3, 1) := by decide +kernel
theorem dX8_maybe_25 : decode cX8_maybe 25 = .ok (.invokevirtual 142, 3) := by decide +kernel
theorem dX8_maybe_28 : decode cX8_maybe 28 = .ok (.ifCond .eq 23, 3) := by decide +kernel
theorem dX8_maybe_31 : decode cX8_maybe 31 = .ok (.iload 4, 2) := by decide +kernel
theorem dX8_maybe_33 : decode cX8_maybe 33 = .ok (.invokestatic 104, 3) := by decide +kernel
theorem dX8_maybe_36 : decode cX8_maybe 36 = .ok (.ifCond .eq 15, 3) := by decide +kernel
theorem dX8_maybe_39 : decode cX8_maybe 39 = .ok (.aload_n 0, 1) := by decide +kernel
theorem dX8_maybe_40 : decode cX8_maybe 40 = .ok (.iload_n 1, 1) := by decide +kernel
theorem dX8_maybe_41 : decode cX8_maybe 41 = .ok (.iload_n 2, 1) := by decide +kernel
theorem dX8_maybe_42 : decode cX8_maybe 42 = .ok (.iload_n 3, 1) := by decide +kernel
theorem dX8_maybe_43 : decode cX8_maybe 43 = .ok (.iload 4, 2) := by decide +kernel
theorem dX8_maybe_45 : decode cX8_maybe 45 = .ok (.invokevirtual 272, 3) := by decide +kernel
theorem dX8_maybe_48 : decode cX8_maybe 48 = .ok (.goto 8, 3) := by decide +kernel
theorem dX8_maybe_51 : decode cX8_maybe 51 = .ok (.bipush (-2), 2) := by decide +kernel
theorem dX8_maybe_53 : decode cX8_maybe 53 = .ok (.invokestatic 276, 3) := by decide +kernel
theorem dX8_maybe_56 : decode cX8_maybe 56 = .ok (.lreturn, 1) := by decide +kernel
theorem dX8_lot_0 : decode cX8_lot 0 = .ok (.aload_n 0, 1) := by decide +kernel
theorem dX8_lot_1 : decode cX8_lot 1 = .ok (.ldc_w 280, 3) := by decide +kernel
theorem dX8_lot_4 : decode cX8_lot 4 = .ok (.aload_n 0, 1) := by decide +kernel
theorem dX8_lot_5 : decode cX8_lot 5 = .ok (.getfield 281, 3) := by decide +kernel
theorem dX8_lot_8 : decode cX8_lot 8 = .ok (.imul, 1) := by decide +kernel
theorem dX8_lot_9 : decode cX8_lot 9 = .ok (.sipush 12345, 3) := by decide +kernel
theorem dX8_lot_12 : decode cX8_lot 12 = .ok (.iadd, 1) := by decide +kernel
theorem dX8_lot_13 : decode cX8_lot 13 = .ok (.putfield 281, 3) := by decide +kernel
theorem dX8_lot_16 : decode cX8_lot 16 = .ok (.aload_n 0, 1) := by decide +kernel
theorem dX8_lot_17 : decode cX8_lot 17 = .ok (.getfield 281, 3) := by decide +kernel
theorem dX8_lot_20 : decode cX8_lot 20 = .ok (.bipush 16, 2) := by decide +kernel
theorem dX8_lot_22 : decode cX8_lot 22 = .ok (.iushr, 1) := by decide +kernel
theorem dX8_lot_23 : decode cX8_lot 23 = .ok (.iload_n 1, 1) := by decide +kernel
theorem dX8_lot_24 : decode cX8_lot 24 = .ok (.irem, 1) := by decide +kernel
theorem dX8_lot_25 : decode cX8_lot 25 = .ok (.ireturn, 1) := by decide +kernel
theorem dX8_depotOf_0 : decode cX8_depotOf 0 = .ok (.aload_n 0, 1) := by decide +kernel
theorem dX8_depotOf_1 : decode cX8_depotOf 1 = .ok (.iload_n 1, 1) := by decide +kernel
theorem dX8_depotOf_2 : decode cX8_depotOf 2 = .ok (.putfield 281, 3) := by decide +kernel
theorem dX8_depotOf_5 : decode cX8_depotOf 5 = .ok (.iconst 0, 1) := by decide +kernel
theorem dX8_depotOf_6 : decode cX8_depotOf 6 = .ok (.istore 4, 2) := by decide +kernel
theorem dX8_depotOf_8 : decode cX8_depotOf 8 = .ok (.iload 4, 2) := by decide +kernel
theorem dX8_depotOf_10 : decode cX8_depotOf 10 = .ok (.iload_n 2, 1) := by decide +kernel
theorem dX8_depotOf_11 : decode cX8_depotOf 11 = .ok (.if_icmp .ge 22, 3) := by decide +kernel
theorem dX8_depotOf_14 : decode cX8_depotOf 14 = .ok (.aload_n 0, 1) := by decide +kernel
theorem dX8_depotOf_15 : decode cX8_depotOf 15 = .ok (.getfield 31, 3) := by decide +kernel
theorem dX8_depotOf_18 : decode cX8_depotOf 18 = .ok (.iload 4, 2) := by decide +kernel
theorem dX8_depotOf_20 : decode cX8_depotOf 20 = .ok (.aload_n 0, 1) := by decide +kernel
theorem dX8_depotOf_21 : decode cX8_depotOf 21 = .ok (.bipush 8, 2) := by decide +kernel
theorem dX8_depotOf_23 : decode cX8_depotOf 23 = .ok (.invokevirtual 284, 3) := by decide +kernel
theorem dX8_depotOf_26 : decode cX8_depotOf 26 = .ok (.iastore, 1) := by decide +kernel
theorem dX8_depotOf_27 : decode cX8_depotOf 27 = .ok (.iinc 4 1, 3) := by decide +kernel
theorem dX8_depotOf_30 : decode cX8_depotOf 30 = .ok (.goto (-22), 3) := by decide +kernel
theorem dX8_depotOf_33 : decode cX8_depotOf 33 = .ok (.aload_n 0, 1) := by decide +kernel
theorem dX8_depotOf_34 : decode cX8_depotOf 34 = .ok (.iload_n 2, 1) := by decide +kernel
theorem dX8_depotOf_35 : decode cX8_depotOf 35 = .ok (.putfield 126, 3) := by decide +kernel
theorem dX8_depotOf_38 : decode cX8_depotOf 38 = .ok (.aload_n 0, 1) := by decide +kernel
theorem dX8_depotOf_39 : decode cX8_depotOf 39 = .ok (.invokevirtual 195, 3) := by decide +kernel
theorem dX8_depotOf_42 : decode cX8_depotOf 42 = .ok (.aload_n 0, 1) := by decide +kernel
theorem dX8_depotOf_43 : decode cX8_depotOf 43 = .ok (.invokevirtual 137, 3) := by decide +kernel
theorem dX8_depotOf_46 : decode cX8_depotOf 46 = .ok (.pop, 1) := by decide +kernel
theorem dX8_depotOf_47 : decode cX8_depotOf 47 = .ok (.iload_n 3, 1) := by decide +kernel
theorem dX8_depotOf_48 : decode cX8_depotOf 48 = .ok (.ifCond .ne 15, 3) := by decide +kernel
theorem dX8_depotOf_51 : decode cX8_depotOf 51 = .ok (.aload_n 0, 1) := by decide +kernel
theorem dX8_depotOf_52 : decode cX8_depotOf 52 = .ok (.bipush 9, 2) := by decide +kernel
theorem dX8_depotOf_54 : decode cX8_depotOf 54 = .ok (.invokevirtual 217, 3) := by decide +kernel
theorem dX8_depotOf_57 : decode cX8_depotOf 57 = .ok (.invokestatic 230, 3) := by decide +kernel
theorem dX8_depotOf_60 : decode cX8_depotOf 60 = .ok (.goto 10, 3) := by decide +kernel
theorem dX8_depotOf_63 : decode cX8_depotOf 63 = .ok (.aload_n 0, 1) := by decide +kernel
theorem dX8_depotOf_64 : decode cX8_depotOf 64 = .ok (.getfield 55, 3) := by decide +kernel
theorem dX8_depotOf_67 : decode cX8_depotOf 67 = .ok (.bipush 9, 2) := by decide +kernel
theorem dX8_depotOf_69 : decode cX8_depotOf 69 = .ok (.iaload, 1) := by decide +kernel
theorem dX8_depotOf_70 : decode cX8_depotOf 70 = .ok (.ireturn, 1) := by decide +kernel
theorem dX8_depot_0 : decode cX8_depot 0 = .ok (.aload_n 0, 1) := by decide +kernel
theorem dX8_depot_1 : decode cX8_depot 1 = .ok (.invokevirtual 198, 3) := by decide +kernel
theorem dX8_depot_4 : decode cX8_depot 4 = .ok (.iload_n 2, 1) := by decide +kernel
theorem dX8_depot_5 : decode cX8_depot 5 = .ok (.i2l, 1) := by decide +kernel
theorem dX8_depot_6 : decode cX8_depot 6 = .ok (.lconst 0, 1) := by decide +kernel
theorem dX8_depot_7 : decode cX8_depot 7 = .ok (.ldc2_w 270, 3) := by decide +kernel
theorem dX8_depot_10 : decode cX8_depot 10 = .ok (.invokestatic 76, 3) := by decide +kernel
theorem dX8_depot_13 : decode cX8_depot 13 = .ok (.ifCond .eq 20, 3) := by decide +kernel
theorem dX8_depot_16 : decode cX8_depot 16 = .ok (.iload_n 3, 1) := by decide +kernel
theorem dX8_depot_17 : decode cX8_depot 17 = .ok (.invokestatic 104, 3) := by decide +kernel
theorem dX8_depot_20 : decode cX8_depot 20 = .ok (.ifCond .eq 13, 3) := by decide +kernel
theorem dX8_depot_23 : decode cX8_depot 23 = .ok (.aload_n 0, 1) := by decide +kernel
theorem dX8_depot_24 : decode cX8_depot 24 = .ok (.iload_n 1, 1) := by decide +kernel
theorem dX8_depot_25 : decode cX8_depot 25 = .ok (.iload_n 2, 1) := by decide +kernel
theorem dX8_depot_26 : decode cX8_depot 26 = .ok (.iload_n 3, 1) := by decide +kernel
theorem dX8_depot_27 : decode cX8_depot 27 = .ok (.invokevirtual 287, 3) := by decide +kernel
theorem dX8_depot_30 : decode cX8_depot 30 = .ok (.goto 5, 3) := by decide +kernel
theorem dX8_depot_33 : decode cX8_depot 33 = .ok (.bipush (-2), 2) := by decide +kernel
theorem dX8_depot_35 : decode cX8_depot 35 = .ok (.ireturn, 1) := by decide +kernel
theorem dX8_write_0 : decode cX8_write 0 = .ok (.iload_n 1, 1) := by decide +kernel
theorem dX8_write_1 : decode cX8_write 1 = .ok (.invokestatic 201, 3) := by decide +kernel
theorem dX8_write_4 : decode cX8_write 4 = .ok (.ifCond .eq 10, 3) := by decide +kernel
theorem dX8_write_7 : decode cX8_write 7 = .ok (.iload_n 2, 1) := by decide +kernel
theorem dX8_write_8 : decode cX8_write 8 = .ok (.invokestatic 85, 3) := by decide +kernel
theorem dX8_write_11 : decode cX8_write 11 = .ok (.ifCond .ne 6, 3) := by decide +kernel
theorem dX8_write_14 : decode cX8_write 14 = .ok (.bipush (-2), 2) := by decide +kernel
theorem dX8_write_16 : decode cX8_write 16 = .ok (.ireturn, 1) := by decide +kernel
theorem dX8_write_17 : decode cX8_write 17 = .ok (.aload_n 0, 1) := by decide +kernel
theorem dX8_write_18 : decode cX8_write 18 = .ok (.getfield 7, 3) := by decide +kernel
theorem dX8_write_21 : decode cX8_write 21 = .ok (.iload_n 2, 1) := by decide +kernel
theorem dX8_write_22 : decode cX8_write 22 = .ok (.iaload, 1) := by decide +kernel
theorem dX8_write_23 : decode cX8_write 23 = .ok (.ifCond .ge 9, 3) := by decide +kernel
theorem dX8_write_26 : decode cX8_write 26 = .ok (.aload_n 0, 1) := by decide +kernel
theorem dX8_write_27 : decode cX8_write 27 = .ok (.iconst 1, 1) := by decide +kernel
theorem dX8_write_28 : decode cX8_write 28 = .ok (.invokevirtual 91, 3) := by decide +kernel
theorem dX8_write_31 : decode cX8_write 31 = .ok (.ireturn, 1) := by decide +kernel
theorem dX8_write_32 : decode cX8_write 32 = .ok (.aload_n 0, 1) := by decide +kernel
theorem dX8_write_33 : decode cX8_write 33 = .ok (.invokevirtual 198, 3) := by decide +kernel
theorem dX8_write_36 : decode cX8_write 36 = .ok (.aload_n 0, 1) := by decide +kernel
theorem dX8_write_37 : decode cX8_write 37 = .ok (.getfield 13, 3) := by decide +kernel
theorem dX8_write_40 : decode cX8_write 40 = .ok (.iload_n 2, 1) := by decide +kernel
theorem dX8_write_41 : decode cX8_write 41 = .ok (.iaload, 1) := by decide +kernel
theorem dX8_write_42 : decode cX8_write 42 = .ok (.aload_n 0, 1) := by decide +kernel
theorem dX8_write_43 : decode cX8_write 43 = .ok (.getfield 55, 3) := by decide +kernel
theorem dX8_write_46 : decode cX8_write 46 = .ok (.iload_n 1, 1) := by decide +kernel
theorem dX8_write_47 : decode cX8_write 47 = .ok (.iaload, 1) := by decide +kernel
theorem dX8_write_48 : decode cX8_write 48 = .ok (.invokestatic 290, 3) := by decide +kernel
theorem dX8_write_51 : decode cX8_write 51 = .ok (.istore_n 3, 1) := by decide +kernel
theorem dX8_write_52 : decode cX8_write 52 = .ok (.iconst 0, 1) := by decide +kernel
theorem dX8_write_53 : decode cX8_write 53 = .ok (.istore 4, 2) := by decide +kernel
theorem dX8_write_55 : decode cX8_write 55 = .ok (.iload 4, 2) := by decide +kernel
theorem dX8_write_57 : decode cX8_write 57 = .ok (.iload_n 3, 1) := by decide +kernel
theorem dX8_write_58 : decode cX8_write 58 = .ok (.if_icmp .ge 42, 3) := by decide +kernel
theorem dX8_write_61 : decode cX8_write 61 = .ok (.aload_n 0, 1) := by decide +kernel
theorem dX8_write_62 : decode cX8_write 62 = .ok (.getfield 16, 3) := by decide +kernel
theorem dX8_write_65 : decode cX8_write 65 = .ok (.bipush 60, 2) := by decide +kernel
theorem dX8_write_67 : decode cX8_write 67 = .ok (.iload_n 2, 1) := by decide +kernel
theorem dX8_write_68 : decode cX8_write 68 = .ok (.imul, 1) := by decide +kernel
theorem dX8_write_69 : decode cX8_write 69 = .ok (.iload 4, 2) := by decide +kernel
theorem dX8_write_71 : decode cX8_write 71 = .ok (.iadd, 1) := by decide +kernel
theorem dX8_write_72 : decode cX8_write 72 = .ok (.aload_n 0, 1) := by decide +kernel
theorem dX8_write_73 : decode cX8_write 73 = .ok (.getfield 7, 3) := by decide +kernel
theorem dX8_write_76 : decode cX8_write 76 = .ok (.iload_n 2, 1) := by decide +kernel
theorem dX8_write_77 : decode cX8_write 77 = .ok (.iaload, 1) := by decide +kernel
theorem dX8_write_78 : decode cX8_write 78 = .ok (.aload_n 0, 1) := by decide +kernel
theorem dX8_write_79 : decode cX8_write 79 = .ok (.getfield 58, 3) := by decide +kernel
theorem dX8_write_82 : decode cX8_write 82 = .ok (.bipush 29, 2) := by decide +kernel
theorem dX8_write_84 : decode cX8_write 84 = .ok (.iload_n 1, 1) := by decide +kernel
theorem dX8_write_85 : decode cX8_write 85 = .ok (.imul, 1) := by decide +kernel
theorem dX8_write_86 : decode cX8_write 86 = .ok (.iload 4, 2) := by decide +kernel
theorem dX8_write_88 : decode cX8_write 88 = .ok (.iadd, 1) := by decide +kernel
theorem dX8_write_89 : decode cX8_write 89 = .ok (.iaload, 1) := by decide +kernel
theorem dX8_write_90 : decode cX8_write 90 = .ok (.invokestatic 99, 3) := by decide +kernel
theorem dX8_write_93 : decode cX8_write 93 = .ok (.iastore, 1) := by decide +kernel
theorem dX8_write_94 : decode cX8_write 94 = .ok (.iinc 4 1, 3) := by decide +kernel
theorem dX8_write_97 : decode cX8_write 97 = .ok (.goto (-42), 3) := by decide +kernel
theorem dX8_write_100 : decode cX8_write 100 = .ok (.iload_n 3, 1) := by decide +kernel
theorem dX8_write_101 : decode cX8_write 101 = .ok (.ireturn, 1) := by decide +kernel
theorem dX8_count_0 : decode cX8_count 0 = .ok (.aload_n 0, 1) := by decide +kernel
theorem dX8_count_1 : decode cX8_count 1 = .ok (.invokevirtual 198, 3) := by decide +kernel
theorem dX8_count_4 : decode cX8_count 4 = .ok (.iload_n 1, 1) := by decide +kernel
theorem dX8_count_5 : decode cX8_count 5 = .ok (.tableswitch 102 0 8 #[51, 56, 61, 61, 70, 75, 85, 92, 97], 51) := by decide +kernel
theorem dX8_count_56 : decode cX8_count 56 = .ok (.aload_n 0, 1) := by decide +kernel
theorem dX8_count_57 : decode cX8_count 57 = .ok (.getfield 120, 3) := by decide +kernel
theorem dX8_count_60 : decode cX8_count 60 = .ok (.ireturn, 1) := by decide +kernel
theorem dX8_count_61 : decode cX8_count 61 = .ok (.aload_n 0, 1) := by decide +kernel
theorem dX8_count_62 : decode cX8_count 62 = .ok (.getfield 126, 3) := by decide +kernel
theorem dX8_count_65 : decode cX8_count 65 = .ok (.ireturn, 1) := by decide +kernel
theorem dX8_count_66 : decode cX8_count 66 = .ok (.aload_n 0, 1) := by decide +kernel
theorem dX8_count_67 : decode cX8_count 67 = .ok (.getfield 25, 3) := by decide +kernel
theorem dX8_count_70 : decode cX8_count 70 = .ok (.iload_n 1, 1) := by decide +kernel
theorem dX8_count_71 : decode cX8_count 71 = .ok (.iconst 2, 1) := by decide +kernel
theorem dX8_count_72 : decode cX8_count 72 = .ok (.isub, 1) := by decide +kernel
theorem dX8_count_73 : decode cX8_count 73 = .ok (.iaload, 1) := by decide +kernel
theorem dX8_count_74 : decode cX8_count 74 = .ok (.ireturn, 1) := by decide +kernel
theorem dX8_count_75 : decode cX8_count 75 = .ok (.aload_n 0, 1) := by decide +kernel
theorem dX8_count_76 : decode cX8_count 76 = .ok (.getfield 180, 3) := by decide +kernel
theorem dX8_count_79 : decode cX8_count 79 = .ok (.ireturn, 1) := by decide +kernel
theorem dX8_count_80 : decode cX8_count 80 = .ok (.aload_n 0, 1) := by decide +kernel
theorem dX8_count_81 : decode cX8_count 81 = .ok (.bipush 9, 2) := by decide +kernel
theorem dX8_count_83 : decode cX8_count 83 = .ok (.invokevirtual 217, 3) := by decide +kernel
theorem dX8_count_86 : decode cX8_count 86 = .ok (.invokestatic 230, 3) := by decide +kernel
theorem dX8_count_89 : decode cX8_count 89 = .ok (.ireturn, 1) := by decide +kernel
theorem dX8_count_90 : decode cX8_count 90 = .ok (.aload_n 0, 1) := by decide +kernel
theorem dX8_count_91 : decode cX8_count 91 = .ok (.getfield 37, 3) := by decide +kernel
theorem dX8_count_94 : decode cX8_count 94 = .ok (.iconst 1, 1) := by decide +kernel
theorem dX8_count_95 : decode cX8_count 95 = .ok (.iaload, 1) := by decide +kernel
theorem dX8_count_96 : decode cX8_count 96 = .ok (.ireturn, 1) := by decide +kernel
theorem dX8_count_97 : decode cX8_count 97 = .ok (.aload_n 0, 1) := by decide +kernel
theorem dX8_count_98 : decode cX8_count 98 = .ok (.getfield 247, 3) := by decide +kernel
theorem dX8_count_101 : decode cX8_count 101 = .ok (.ireturn, 1) := by decide +kernel
theorem dX8_count_102 : decode cX8_count 102 = .ok (.aload_n 0, 1) := by decide +kernel
theorem dX8_count_103 : decode cX8_count 103 = .ok (.getfield 80, 3) := by decide +kernel
theorem dX8_count_106 : decode cX8_count 106 = .ok (.ireturn, 1) := by decide +kernel
theorem dX8_count_107 : decode cX8_count 107 = .ok (.bipush (-2), 2) := by decide +kernel
theorem dX8_count_109 : decode cX8_count 109 = .ok (.ireturn, 1) := by decide +kernel
theorem dX8_tellsRider_0 : decode cX8_tellsRider 0 = .ok (.aload_n 0, 1) := by decide +kernel
theorem dX8_tellsRider_1 : decode cX8_tellsRider 1 = .ok (.invokevirtual 195, 3) := by decide +kernel
theorem dX8_tellsRider_4 : decode cX8_tellsRider 4 = .ok (.lload_n 1, 1) := by decide +kernel
theorem dX8_tellsRider_5 : decode cX8_tellsRider 5 = .ok (.lstore 4, 2) := by decide +kernel
theorem dX8_tellsRider_7 : decode cX8_tellsRider 7 = .ok (.iconst 0, 1) := by decide +kernel
theorem dX8_tellsRider_8 : decode cX8_tellsRider 8 = .ok (.istore 6, 2) := by decide +kernel
theorem dX8_tellsRider_10 : decode cX8_tellsRider 10 = .ok (.iload 6, 2) := by decide +kernel
theorem dX8_tellsRider_12 : decode cX8_tellsRider 12 = .ok (.iconst 4, 1) := by decide +kernel
theorem dX8_tellsRider_13 : decode cX8_tellsRider 13 = .ok (.if_icmp .ge 30, 3) := by decide +kernel
theorem dX8_tellsRider_16 : decode cX8_tellsRider 16 = .ok (.ldc2_w 293, 3) := by decide +kernel
theorem dX8_tellsRider_19 : decode cX8_tellsRider 19 = .ok (.lload 4, 2) := by decide +kernel
theorem dX8_tellsRider_21 : decode cX8_tellsRider 21 = .ok (.lmul, 1) := by decide +kernel
theorem dX8_tellsRider_22 : decode cX8_tellsRider 22 = .ok (.aload_n 0, 1) := by decide +kernel
theorem dX8_tellsRider_23 : decode cX8_tellsRider 23 = .ok (.getfield 28, 3) := by decide +kernel
theorem dX8_tellsRider_26 : decode cX8_tellsRider 26 = .ok (.iconst 4, 1) := by decide +kernel
theorem dX8_tellsRider_27 : decode cX8_tellsRider 27 = .ok (.iload_n 3, 1) := by decide +kernel
theorem dX8_tellsRider_28 : decode cX8_tellsRider 28 = .ok (.imul, 1) := by decide +kernel
theorem dX8_tellsRider_29 : decode cX8_tellsRider 29 = .ok (.iload 6, 2) := by decide +kernel
theorem dX8_tellsRider_31 : decode cX8_tellsRider 31 = .ok (.iadd, 1) := by decide +kernel
theorem dX8_tellsRider_32 : decode cX8_tellsRider 32 = .ok (.iaload, 1) := by decide +kernel
theorem dX8_tellsRider_33 : decode cX8_tellsRider 33 = .ok (.i2l, 1) := by decide +kernel
theorem dX8_tellsRider_34 : decode cX8_tellsRider 34 = .ok (.ladd, 1) := by decide +kernel
theorem dX8_tellsRider_35 : decode cX8_tellsRider 35 = .ok (.lstore 4, 2) := by decide +kernel
theorem dX8_tellsRider_37 : decode cX8_tellsRider 37 = .ok (.iinc 6 1, 3) := by decide +kernel
theorem dX8_tellsRider_40 : decode cX8_tellsRider 40 = .ok (.goto (-30), 3) := by decide +kernel
theorem dX8_tellsRider_43 : decode cX8_tellsRider 43 = .ok (.ldc2_w 293, 3) := by decide +kernel
theorem dX8_tellsRider_46 : decode cX8_tellsRider 46 = .ok (.lload 4, 2) := by decide +kernel
theorem dX8_tellsRider_48 : decode cX8_tellsRider 48 = .ok (.lmul, 1) := by decide +kernel
theorem dX8_tellsRider_49 : decode cX8_tellsRider 49 = .ok (.aload_n 0, 1) := by decide +kernel
theorem dX8_tellsRider_50 : decode cX8_tellsRider 50 = .ok (.getfield 49, 3) := by decide +kernel
theorem dX8_tellsRider_53 : decode cX8_tellsRider 53 = .ok (.iload_n 3, 1) := by decide +kernel
theorem dX8_tellsRider_54 : decode cX8_tellsRider 54 = .ok (.iaload, 1) := by decide +kernel
theorem dX8_tellsRider_55 : decode cX8_tellsRider 55 = .ok (.i2l, 1) := by decide +kernel
theorem dX8_tellsRider_56 : decode cX8_tellsRider 56 = .ok (.ladd, 1) := by decide +kernel
theorem dX8_tellsRider_57 : decode cX8_tellsRider 57 = .ok (.lstore 4, 2) := by decide +kernel
theorem dX8_tellsRider_59 : decode cX8_tellsRider 59 = .ok (.ldc2_w 293, 3) := by decide +kernel
theorem dX8_tellsRider_62 : decode cX8_tellsRider 62 = .ok (.lload 4, 2) := by decide +kernel
theorem dX8_tellsRider_64 : decode cX8_tellsRider 64 = .ok (.lmul, 1) := by decide +kernel
theorem dX8_tellsRider_65 : decode cX8_tellsRider 65 = .ok (.aload_n 0, 1) := by decide +kernel
theorem dX8_tellsRider_66 : decode cX8_tellsRider 66 = .ok (.getfield 49, 3) := by decide +kernel
theorem dX8_tellsRider_69 : decode cX8_tellsRider 69 = .ok (.bipush 72, 2) := by decide +kernel
theorem dX8_tellsRider_71 : decode cX8_tellsRider 71 = .ok (.iload_n 3, 1) := by decide +kernel
theorem dX8_tellsRider_72 : decode cX8_tellsRider 72 = .ok (.iadd, 1) := by decide +kernel
theorem dX8_tellsRider_73 : decode cX8_tellsRider 73 = .ok (.iaload, 1) := by decide +kernel
theorem dX8_tellsRider_74 : decode cX8_tellsRider 74 = .ok (.i2l, 1) := by decide +kernel
theorem dX8_tellsRider_75 : decode cX8_tellsRider 75 = .ok (.ladd, 1) := by decide +kernel
theorem dX8_tellsRider_76 : decode cX8_tellsRider 76 = .ok (.lstore 4, 2) := by decide +kernel
theorem dX8_tellsRider_78 : decode cX8_tellsRider 78 = .ok (.ldc2_w 293, 3) := by decide +kernel
theorem dX8_tellsRider_81 : decode cX8_tellsRider 81 = .ok (.lload 4, 2) := by decide +kernel
theorem dX8_tellsRider_83 : decode cX8_tellsRider 83 = .ok (.lmul, 1) := by decide +kernel
theorem dX8_tellsRider_84 : decode cX8_tellsRider 84 = .ok (.aload_n 0, 1) := by decide +kernel
theorem dX8_tellsRider_85 : decode cX8_tellsRider 85 = .ok (.getfield 52, 3) := by decide +kernel
theorem dX8_tellsRider_88 : decode cX8_tellsRider 88 = .ok (.bipush 72, 2) := by decide +kernel
theorem dX8_tellsRider_90 : decode cX8_tellsRider 90 = .ok (.iload_n 3, 1) := by decide +kernel
theorem dX8_tellsRider_91 : decode cX8_tellsRider 91 = .ok (.iadd, 1) := by decide +kernel
theorem dX8_tellsRider_92 : decode cX8_tellsRider 92 = .ok (.iaload, 1) := by decide +kernel
theorem dX8_tellsRider_93 : decode cX8_tellsRider 93 = .ok (.i2l, 1) := by decide +kernel
theorem dX8_tellsRider_94 : decode cX8_tellsRider 94 = .ok (.ladd, 1) := by decide +kernel
theorem dX8_tellsRider_95 : decode cX8_tellsRider 95 = .ok (.lstore 4, 2) := by decide +kernel
theorem dX8_tellsRider_97 : decode cX8_tellsRider 97 = .ok (.ldc2_w 293, 3) := by decide +kernel
theorem dX8_tellsRider_100 : decode cX8_tellsRider 100 = .ok (.lload 4, 2) := by decide +kernel
theorem dX8_tellsRider_102 : decode cX8_tellsRider 102 = .ok (.lmul, 1) := by decide +kernel
theorem dX8_tellsRider_103 : decode cX8_tellsRider 103 = .ok (.aload_n 0, 1) := by decide +kernel
theorem dX8_tellsRider_104 : decode cX8_tellsRider 104 = .ok (.iload_n 3, 1) := by decide +kernel
theorem dX8_tellsRider_105 : decode cX8_tellsRider 105 = .ok (.invokevirtual 214, 3) := by decide +kernel
theorem dX8_tellsRider_108 : decode cX8_tellsRider 108 = .ok (.i2l, 1) := by decide +kernel
theorem dX8_tellsRider_109 : decode cX8_tellsRider 109 = .ok (.ladd, 1) := by decide +kernel
theorem dX8_tellsRider_110 : decode cX8_tellsRider 110 = .ok (.lstore 4, 2) := by decide +kernel
theorem dX8_tellsRider_112 : decode cX8_tellsRider 112 = .ok (.ldc2_w 293, 3) := by decide +kernel
theorem dX8_tellsRider_115 : decode cX8_tellsRider 115 = .ok (.lload 4, 2) := by decide +kernel
theorem dX8_tellsRider_117 : decode cX8_tellsRider 117 = .ok (.lmul, 1) := by decide +kernel
theorem dX8_tellsRider_118 : decode cX8_tellsRider 118 = .ok (.aload_n 0, 1) := by decide +kernel
theorem dX8_tellsRider_119 : decode cX8_tellsRider 119 = .ok (.iload_n 3, 1) := by decide +kernel
theorem dX8_tellsRider_120 : decode cX8_tellsRider 120 = .ok (.iconst 0, 1) := by decide +kernel
theorem dX8_tellsRider_121 : decode cX8_tellsRider 121 = .ok (.invokevirtual 233, 3) := by decide +kernel
theorem dX8_tellsRider_124 : decode cX8_tellsRider 124 = .ok (.i2l, 1) := by decide +kernel
theorem dX8_tellsRider_125 : decode cX8_tellsRider 125 = .ok (.ladd, 1) := by decide +kernel
theorem dX8_tellsRider_126 : decode cX8_tellsRider 126 = .ok (.lstore 4, 2) := by decide +kernel
theorem dX8_tellsRider_128 : decode cX8_tellsRider 128 = .ok (.ldc2_w 293, 3) := by decide +kernel
theorem dX8_tellsRider_131 : decode cX8_tellsRider 131 = .ok (.lload 4, 2) := by decide +kernel
theorem dX8_tellsRider_133 : decode cX8_tellsRider 133 = .ok (.lmul, 1) := by decide +kernel
theorem dX8_tellsRider_134 : decode cX8_tellsRider 134 = .ok (.aload_n 0, 1) := by decide +kernel
theorem dX8_tellsRider_135 : decode cX8_tellsRider 135 = .ok (.iload_n 3, 1) := by decide +kernel
theorem dX8_tellsRider_136 : decode cX8_tellsRider 136 = .ok (.iconst 1, 1) := by decide +kernel
theorem dX8_tellsRider_137 : decode cX8_tellsRider 137 = .ok (.invokevirtual 233, 3) := by decide +kernel
theorem dX8_tellsRider_140 : decode cX8_tellsRider 140 = .ok (.i2l, 1) := by decide +kernel
theorem dX8_tellsRider_141 : decode cX8_tellsRider 141 = .ok (.ladd, 1) := by decide +kernel
theorem dX8_tellsRider_142 : decode cX8_tellsRider 142 = .ok (.lstore 4, 2) := by decide +kernel
theorem dX8_tellsRider_144 : decode cX8_tellsRider 144 = .ok (.ldc2_w 293, 3) := by decide +kernel
theorem dX8_tellsRider_147 : decode cX8_tellsRider 147 = .ok (.lload 4, 2) := by decide +kernel
theorem dX8_tellsRider_149 : decode cX8_tellsRider 149 = .ok (.lmul, 1) := by decide +kernel
theorem dX8_tellsRider_150 : decode cX8_tellsRider 150 = .ok (.aload_n 0, 1) := by decide +kernel
theorem dX8_tellsRider_151 : decode cX8_tellsRider 151 = .ok (.iload_n 3, 1) := by decide +kernel
theorem dX8_tellsRider_152 : decode cX8_tellsRider 152 = .ok (.invokevirtual 257, 3) := by decide +kernel
theorem dX8_tellsRider_155 : decode cX8_tellsRider 155 = .ok (.i2l, 1) := by decide +kernel
theorem dX8_tellsRider_156 : decode cX8_tellsRider 156 = .ok (.ladd, 1) := by decide +kernel
theorem dX8_tellsRider_157 : decode cX8_tellsRider 157 = .ok (.lstore 4, 2) := by decide +kernel
theorem dX8_tellsRider_159 : decode cX8_tellsRider 159 = .ok (.ldc2_w 293, 3) := by decide +kernel
theorem dX8_tellsRider_162 : decode cX8_tellsRider 162 = .ok (.lload 4, 2) := by decide +kernel
theorem dX8_tellsRider_164 : decode cX8_tellsRider 164 = .ok (.lmul, 1) := by decide +kernel
theorem dX8_tellsRider_165 : decode cX8_tellsRider 165 = .ok (.aload_n 0, 1) := by decide +kernel
theorem dX8_tellsRider_166 : decode cX8_tellsRider 166 = .ok (.iconst 5, 1) := by decide +kernel
theorem dX8_tellsRider_167 : decode cX8_tellsRider 167 = .ok (.iconst 3, 1) := by decide +kernel
theorem dX8_tellsRider_168 : decode cX8_tellsRider 168 = .ok (.iload_n 3, 1) := by decide +kernel
theorem dX8_tellsRider_169 : decode cX8_tellsRider 169 = .ok (.iconst 0, 1) := by decide +kernel
theorem dX8_tellsRider_170 : decode cX8_tellsRider 170 = .ok (.invokevirtual 272, 3) := by decide +kernel
theorem dX8_tellsRider_173 : decode cX8_tellsRider 173 = .ok (.ladd, 1) := by decide +kernel
theorem dX8_tellsRider_174 : decode cX8_tellsRider 174 = .ok (.lstore 4, 2) := by decide +kernel
theorem dX8_tellsRider_176 : decode cX8_tellsRider 176 = .ok (.ldc2_w 293, 3) := by decide +kernel
theorem dX8_tellsRider_179 : decode cX8_tellsRider 179 = .ok (.lload 4, 2) := by decide +kernel
theorem dX8_tellsRider_181 : decode cX8_tellsRider 181 = .ok (.lmul, 1) := by decide +kernel
theorem dX8_tellsRider_182 : decode cX8_tellsRider 182 = .ok (.aload_n 0, 1) := by decide +kernel
theorem dX8_tellsRider_183 : decode cX8_tellsRider 183 = .ok (.iconst 5, 1) := by decide +kernel
theorem dX8_tellsRider_184 : decode cX8_tellsRider 184 = .ok (.iconst 3, 1) := by decide +kernel
theorem dX8_tellsRider_185 : decode cX8_tellsRider 185 = .ok (.iload_n 3, 1) := by decide +kernel
theorem dX8_tellsRider_186 : decode cX8_tellsRider 186 = .ok (.iconst 1, 1) := by decide +kernel
theorem dX8_tellsRider_187 : decode cX8_tellsRider 187 = .ok (.invokevirtual 272, 3) := by decide +kernel
theorem dX8_tellsRider_190 : decode cX8_tellsRider 190 = .ok (.ladd, 1) := by decide +kernel
theorem dX8_tellsRider_191 : decode cX8_tellsRider 191 = .ok (.lreturn, 1) := by decide +kernel
theorem dX8_tellsDay_0 : decode cX8_tellsDay 0 = .ok (.aload_n 0, 1) := by decide +kernel
theorem dX8_tellsDay_1 : decode cX8_tellsDay 1 = .ok (.invokevirtual 195, 3) := by decide +kernel
theorem dX8_tellsDay_4 : decode cX8_tellsDay 4 = .ok (.ldc2_w 293, 3) := by decide +kernel
theorem dX8_tellsDay_7 : decode cX8_tellsDay 7 = .ok (.lload_n 1, 1) := by decide +kernel
theorem dX8_tellsDay_8 : decode cX8_tellsDay 8 = .ok (.lmul, 1) := by decide +kernel
theorem dX8_tellsDay_9 : decode cX8_tellsDay 9 = .ok (.aload_n 0, 1) := by decide +kernel
theorem dX8_tellsDay_10 : decode cX8_tellsDay 10 = .ok (.iload_n 3, 1) := by decide +kernel
theorem dX8_tellsDay_11 : decode cX8_tellsDay 11 = .ok (.invokevirtual 217, 3) := by decide +kernel
theorem dX8_tellsDay_14 : decode cX8_tellsDay 14 = .ok (.i2l, 1) := by decide +kernel
theorem dX8_tellsDay_15 : decode cX8_tellsDay 15 = .ok (.ladd, 1) := by decide +kernel
theorem dX8_tellsDay_16 : decode cX8_tellsDay 16 = .ok (.lstore 4, 2) := by decide +kernel
theorem dX8_tellsDay_18 : decode cX8_tellsDay 18 = .ok (.ldc2_w 293, 3) := by decide +kernel
theorem dX8_tellsDay_21 : decode cX8_tellsDay 21 = .ok (.lload 4, 2) := by decide +kernel
theorem dX8_tellsDay_23 : decode cX8_tellsDay 23 = .ok (.lmul, 1) := by decide +kernel
theorem dX8_tellsDay_24 : decode cX8_tellsDay 24 = .ok (.aload_n 0, 1) := by decide +kernel
theorem dX8_tellsDay_25 : decode cX8_tellsDay 25 = .ok (.iload_n 3, 1) := by decide +kernel
theorem dX8_tellsDay_26 : decode cX8_tellsDay 26 = .ok (.iconst (-1), 1) := by decide +kernel
theorem dX8_tellsDay_27 : decode cX8_tellsDay 27 = .ok (.invokevirtual 208, 3) := by decide +kernel
theorem dX8_tellsDay_30 : decode cX8_tellsDay 30 = .ok (.i2l, 1) := by decide +kernel
theorem dX8_tellsDay_31 : decode cX8_tellsDay 31 = .ok (.ladd, 1) := by decide +kernel
theorem dX8_tellsDay_32 : decode cX8_tellsDay 32 = .ok (.lstore 4, 2) := by decide +kernel
theorem dX8_tellsDay_34 : decode cX8_tellsDay 34 = .ok (.ldc2_w 293, 3) := by decide +kernel
theorem dX8_tellsDay_37 : decode cX8_tellsDay 37 = .ok (.lload 4, 2) := by decide +kernel
theorem dX8_tellsDay_39 : decode cX8_tellsDay 39 = .ok (.lmul, 1) := by decide +kernel
theorem dX8_tellsDay_40 : decode cX8_tellsDay 40 = .ok (.aload_n 0, 1) := by decide +kernel
theorem dX8_tellsDay_41 : decode cX8_tellsDay 41 = .ok (.iload_n 3, 1) := by decide +kernel
theorem dX8_tellsDay_42 : decode cX8_tellsDay 42 = .ok (.iconst 0, 1) := by decide +kernel
theorem dX8_tellsDay_43 : decode cX8_tellsDay 43 = .ok (.invokevirtual 208, 3) := by decide +kernel
theorem dX8_tellsDay_46 : decode cX8_tellsDay 46 = .ok (.i2l, 1) := by decide +kernel
theorem dX8_tellsDay_47 : decode cX8_tellsDay 47 = .ok (.ladd, 1) := by decide +kernel
theorem dX8_tellsDay_48 : decode cX8_tellsDay 48 = .ok (.lstore 4, 2) := by decide +kernel
theorem dX8_tellsDay_50 : decode cX8_tellsDay 50 = .ok (.ldc2_w 293, 3) := by decide +kernel
theorem dX8_tellsDay_53 : decode cX8_tellsDay 53 = .ok (.lload 4, 2) := by decide +kernel
theorem dX8_tellsDay_55 : decode cX8_tellsDay 55 = .ok (.lmul, 1) := by decide +kernel
theorem dX8_tellsDay_56 : decode cX8_tellsDay 56 = .ok (.aload_n 0, 1) := by decide +kernel
theorem dX8_tellsDay_57 : decode cX8_tellsDay 57 = .ok (.iload_n 3, 1) := by decide +kernel
theorem dX8_tellsDay_58 : decode cX8_tellsDay 58 = .ok (.invokevirtual 263, 3) := by decide +kernel
theorem dX8_tellsDay_61 : decode cX8_tellsDay 61 = .ok (.i2l, 1) := by decide +kernel
theorem dX8_tellsDay_62 : decode cX8_tellsDay 62 = .ok (.ladd, 1) := by decide +kernel
theorem dX8_tellsDay_63 : decode cX8_tellsDay 63 = .ok (.lreturn, 1) := by decide +kernel
theorem dX8_digest_0 : decode cX8_digest 0 = .ok (.ldc2_w 295, 3) := by decide +kernel
theorem dX8_digest_3 : decode cX8_digest 3 = .ok (.lstore_n 1, 1) := by decide +kernel
theorem dX8_digest_4 : decode cX8_digest 4 = .ok (.iconst 0, 1) := by decide +kernel
theorem dX8_digest_5 : decode cX8_digest 5 = .ok (.istore_n 3, 1) := by decide +kernel
theorem dX8_digest_6 : decode cX8_digest 6 = .ok (.iload_n 3, 1) := by decide +kernel
theorem dX8_digest_7 : decode cX8_digest 7 = .ok (.bipush 8, 2) := by decide +kernel
theorem dX8_digest_9 : decode cX8_digest 9 = .ok (.if_icmp .ge 22, 3) := by decide +kernel
theorem dX8_digest_12 : decode cX8_digest 12 = .ok (.ldc2_w 293, 3) := by decide +kernel
theorem dX8_digest_15 : decode cX8_digest 15 = .ok (.lload_n 1, 1) := by decide +kernel
theorem dX8_digest_16 : decode cX8_digest 16 = .ok (.lmul, 1) := by decide +kernel
theorem dX8_digest_17 : decode cX8_digest 17 = .ok (.aload_n 0, 1) := by decide +kernel
theorem dX8_digest_18 : decode cX8_digest 18 = .ok (.iload_n 3, 1) := by decide +kernel
theorem dX8_digest_19 : decode cX8_digest 19 = .ok (.invokevirtual 297, 3) := by decide +kernel
theorem dX8_digest_22 : decode cX8_digest 22 = .ok (.i2l, 1) := by decide +kernel
theorem dX8_digest_23 : decode cX8_digest 23 = .ok (.ladd, 1) := by decide +kernel
theorem dX8_digest_24 : decode cX8_digest 24 = .ok (.lstore_n 1, 1) := by decide +kernel
theorem dX8_digest_25 : decode cX8_digest 25 = .ok (.iinc 3 1, 3) := by decide +kernel
theorem dX8_digest_28 : decode cX8_digest 28 = .ok (.goto (-22), 3) := by decide +kernel
theorem dX8_digest_31 : decode cX8_digest 31 = .ok (.ldc2_w 293, 3) := by decide +kernel
theorem dX8_digest_34 : decode cX8_digest 34 = .ok (.lload_n 1, 1) := by decide +kernel
theorem dX8_digest_35 : decode cX8_digest 35 = .ok (.lmul, 1) := by decide +kernel
theorem dX8_digest_36 : decode cX8_digest 36 = .ok (.aload_n 0, 1) := by decide +kernel
theorem dX8_digest_37 : decode cX8_digest 37 = .ok (.invokevirtual 133, 3) := by decide +kernel
theorem dX8_digest_40 : decode cX8_digest 40 = .ok (.i2l, 1) := by decide +kernel
theorem dX8_digest_41 : decode cX8_digest 41 = .ok (.ladd, 1) := by decide +kernel
theorem dX8_digest_42 : decode cX8_digest 42 = .ok (.lstore_n 1, 1) := by decide +kernel
theorem dX8_digest_43 : decode cX8_digest 43 = .ok (.ldc2_w 293, 3) := by decide +kernel
theorem dX8_digest_46 : decode cX8_digest 46 = .ok (.lload_n 1, 1) := by decide +kernel
theorem dX8_digest_47 : decode cX8_digest 47 = .ok (.lmul, 1) := by decide +kernel
theorem dX8_digest_48 : decode cX8_digest 48 = .ok (.aload_n 0, 1) := by decide +kernel
theorem dX8_digest_49 : decode cX8_digest 49 = .ok (.invokevirtual 137, 3) := by decide +kernel
theorem dX8_digest_52 : decode cX8_digest 52 = .ok (.i2l, 1) := by decide +kernel
theorem dX8_digest_53 : decode cX8_digest 53 = .ok (.ladd, 1) := by decide +kernel
theorem dX8_digest_54 : decode cX8_digest 54 = .ok (.lstore_n 1, 1) := by decide +kernel
theorem dX8_digest_55 : decode cX8_digest 55 = .ok (.iconst 0, 1) := by decide +kernel
theorem dX8_digest_56 : decode cX8_digest 56 = .ok (.istore_n 3, 1) := by decide +kernel
theorem dX8_digest_57 : decode cX8_digest 57 = .ok (.iload_n 3, 1) := by decide +kernel
theorem dX8_digest_58 : decode cX8_digest 58 = .ok (.aload_n 0, 1) := by decide +kernel
theorem dX8_digest_59 : decode cX8_digest 59 = .ok (.getfield 120, 3) := by decide +kernel
theorem dX8_digest_62 : decode cX8_digest 62 = .ok (.if_icmp .ge 16, 3) := by decide +kernel
theorem dX8_digest_65 : decode cX8_digest 65 = .ok (.aload_n 0, 1) := by decide +kernel
theorem dX8_digest_66 : decode cX8_digest 66 = .ok (.lload_n 1, 1) := by decide +kernel
theorem dX8_digest_67 : decode cX8_digest 67 = .ok (.iload_n 3, 1) := by decide +kernel
theorem dX8_digest_68 : decode cX8_digest 68 = .ok (.invokevirtual 300, 3) := by decide +kernel
theorem dX8_digest_71 : decode cX8_digest 71 = .ok (.lstore_n 1, 1) := by decide +kernel
theorem dX8_digest_72 : decode cX8_digest 72 = .ok (.iinc 3 1, 3) := by decide +kernel
theorem dX8_digest_75 : decode cX8_digest 75 = .ok (.goto (-18), 3) := by decide +kernel
theorem dX8_digest_78 : decode cX8_digest 78 = .ok (.aload_n 0, 1) := by decide +kernel
theorem dX8_digest_79 : decode cX8_digest 79 = .ok (.aload_n 0, 1) := by decide +kernel
theorem dX8_digest_80 : decode cX8_digest 80 = .ok (.aload_n 0, 1) := by decide +kernel
theorem dX8_digest_81 : decode cX8_digest 81 = .ok (.lload_n 1, 1) := by decide +kernel
theorem dX8_digest_82 : decode cX8_digest 82 = .ok (.iconst 0, 1) := by decide +kernel
theorem dX8_digest_83 : decode cX8_digest 83 = .ok (.invokevirtual 304, 3) := by decide +kernel
theorem dX8_digest_86 : decode cX8_digest 86 = .ok (.iconst 4, 1) := by decide +kernel
theorem dX8_digest_87 : decode cX8_digest 87 = .ok (.invokevirtual 304, 3) := by decide +kernel
theorem dX8_digest_90 : decode cX8_digest 90 = .ok (.bipush 9, 2) := by decide +kernel
theorem dX8_digest_92 : decode cX8_digest 92 = .ok (.invokevirtual 304, 3) := by decide +kernel
theorem dX8_digest_95 : decode cX8_digest 95 = .ok (.lstore_n 1, 1) := by decide +kernel
theorem dX8_digest_96 : decode cX8_digest 96 = .ok (.aload_n 0, 1) := by decide +kernel
theorem dX8_digest_97 : decode cX8_digest 97 = .ok (.invokevirtual 195, 3) := by decide +kernel
theorem dX8_digest_100 : decode cX8_digest 100 = .ok (.iconst 0, 1) := by decide +kernel
theorem dX8_digest_101 : decode cX8_digest 101 = .ok (.istore_n 3, 1) := by decide +kernel
theorem dX8_digest_102 : decode cX8_digest 102 = .ok (.iload_n 3, 1) := by decide +kernel
theorem dX8_digest_103 : decode cX8_digest 103 = .ok (.iconst 3, 1) := by decide +kernel
theorem dX8_digest_104 : decode cX8_digest 104 = .ok (.if_icmp .ge 23, 3) := by decide +kernel
theorem dX8_digest_107 : decode cX8_digest 107 = .ok (.ldc2_w 293, 3) := by decide +kernel
theorem dX8_digest_110 : decode cX8_digest 110 = .ok (.lload_n 1, 1) := by decide +kernel
theorem dX8_digest_111 : decode cX8_digest 111 = .ok (.lmul, 1) := by decide +kernel
theorem dX8_digest_112 : decode cX8_digest 112 = .ok (.aload_n 0, 1) := by decide +kernel
theorem dX8_digest_113 : decode cX8_digest 113 = .ok (.getfield 61, 3) := by decide +kernel
theorem dX8_digest_116 : decode cX8_digest 116 = .ok (.iload_n 3, 1) := by decide +kernel
theorem dX8_digest_117 : decode cX8_digest 117 = .ok (.iaload, 1) := by decide +kernel
theorem dX8_digest_118 : decode cX8_digest 118 = .ok (.i2l, 1) := by decide +kernel
theorem dX8_digest_119 : decode cX8_digest 119 = .ok (.ladd, 1) := by decide +kernel
theorem dX8_digest_120 : decode cX8_digest 120 = .ok (.lstore_n 1, 1) := by decide +kernel
theorem dX8_digest_121 : decode cX8_digest 121 = .ok (.iinc 3 1, 3) := by decide +kernel
theorem dX8_digest_124 : decode cX8_digest 124 = .ok (.goto (-22), 3) := by decide +kernel
theorem dX8_digest_127 : decode cX8_digest 127 = .ok (.ldc2_w 293, 3) := by decide +kernel
theorem dX8_digest_130 : decode cX8_digest 130 = .ok (.lload_n 1, 1) := by decide +kernel
theorem dX8_digest_131 : decode cX8_digest 131 = .ok (.lmul, 1) := by decide +kernel
theorem dX8_digest_132 : decode cX8_digest 132 = .ok (.aload_n 0, 1) := by decide +kernel
theorem dX8_digest_133 : decode cX8_digest 133 = .ok (.getfield 183, 3) := by decide +kernel
theorem dX8_digest_136 : decode cX8_digest 136 = .ok (.i2l, 1) := by decide +kernel
theorem dX8_digest_137 : decode cX8_digest 137 = .ok (.ladd, 1) := by decide +kernel
theorem dX8_digest_138 : decode cX8_digest 138 = .ok (.lstore_n 1, 1) := by decide +kernel
theorem dX8_digest_139 : decode cX8_digest 139 = .ok (.ldc2_w 293, 3) := by decide +kernel
theorem dX8_digest_142 : decode cX8_digest 142 = .ok (.lload_n 1, 1) := by decide +kernel
theorem dX8_digest_143 : decode cX8_digest 143 = .ok (.lmul, 1) := by decide +kernel
theorem dX8_digest_144 : decode cX8_digest 144 = .ok (.aload_n 0, 1) := by decide +kernel
theorem dX8_digest_145 : decode cX8_digest 145 = .ok (.iconst 0, 1) := by decide +kernel
theorem dX8_digest_146 : decode cX8_digest 146 = .ok (.invokevirtual 227, 3) := by decide +kernel
theorem dX8_digest_149 : decode cX8_digest 149 = .ok (.i2l, 1) := by decide +kernel
theorem dX8_digest_150 : decode cX8_digest 150 = .ok (.ladd, 1) := by decide +kernel
theorem dX8_digest_151 : decode cX8_digest 151 = .ok (.lstore_n 1, 1) := by decide +kernel
theorem dX8_digest_152 : decode cX8_digest 152 = .ok (.ldc2_w 293, 3) := by decide +kernel
theorem dX8_digest_155 : decode cX8_digest 155 = .ok (.lload_n 1, 1) := by decide +kernel
theorem dX8_digest_156 : decode cX8_digest 156 = .ok (.lmul, 1) := by decide +kernel
theorem dX8_digest_157 : decode cX8_digest 157 = .ok (.aload_n 0, 1) := by decide +kernel
theorem dX8_digest_158 : decode cX8_digest 158 = .ok (.iconst 1, 1) := by decide +kernel
theorem dX8_digest_159 : decode cX8_digest 159 = .ok (.invokevirtual 227, 3) := by decide +kernel
theorem dX8_digest_162 : decode cX8_digest 162 = .ok (.i2l, 1) := by decide +kernel
theorem dX8_digest_163 : decode cX8_digest 163 = .ok (.ladd, 1) := by decide +kernel
theorem dX8_digest_164 : decode cX8_digest 164 = .ok (.lstore_n 1, 1) := by decide +kernel
theorem dX8_digest_165 : decode cX8_digest 165 = .ok (.ldc2_w 293, 3) := by decide +kernel
theorem dX8_digest_168 : decode cX8_digest 168 = .ok (.lload_n 1, 1) := by decide +kernel
theorem dX8_digest_169 : decode cX8_digest 169 = .ok (.lmul, 1) := by decide +kernel
theorem dX8_digest_170 : decode cX8_digest 170 = .ok (.aload_n 0, 1) := by decide +kernel
theorem dX8_digest_171 : decode cX8_digest 171 = .ok (.iconst 0, 1) := by decide +kernel
theorem dX8_digest_172 : decode cX8_digest 172 = .ok (.invokevirtual 239, 3) := by decide +kernel
theorem dX8_digest_175 : decode cX8_digest 175 = .ok (.i2l, 1) := by decide +kernel
theorem dX8_digest_176 : decode cX8_digest 176 = .ok (.ladd, 1) := by decide +kernel
theorem dX8_digest_177 : decode cX8_digest 177 = .ok (.lstore_n 1, 1) := by decide +kernel
theorem dX8_digest_178 : decode cX8_digest 178 = .ok (.ldc2_w 293, 3) := by decide +kernel
theorem dX8_digest_181 : decode cX8_digest 181 = .ok (.lload_n 1, 1) := by decide +kernel
theorem dX8_digest_182 : decode cX8_digest 182 = .ok (.lmul, 1) := by decide +kernel
theorem dX8_digest_183 : decode cX8_digest 183 = .ok (.aload_n 0, 1) := by decide +kernel
theorem dX8_digest_184 : decode cX8_digest 184 = .ok (.iconst 1, 1) := by decide +kernel
theorem dX8_digest_185 : decode cX8_digest 185 = .ok (.invokevirtual 239, 3) := by decide +kernel
theorem dX8_digest_188 : decode cX8_digest 188 = .ok (.i2l, 1) := by decide +kernel
theorem dX8_digest_189 : decode cX8_digest 189 = .ok (.ladd, 1) := by decide +kernel
theorem dX8_digest_190 : decode cX8_digest 190 = .ok (.lstore_n 1, 1) := by decide +kernel
theorem dX8_digest_191 : decode cX8_digest 191 = .ok (.ldc2_w 293, 3) := by decide +kernel
theorem dX8_digest_194 : decode cX8_digest 194 = .ok (.lload_n 1, 1) := by decide +kernel
theorem dX8_digest_195 : decode cX8_digest 195 = .ok (.lmul, 1) := by decide +kernel
theorem dX8_digest_196 : decode cX8_digest 196 = .ok (.aload_n 0, 1) := by decide +kernel
theorem dX8_digest_197 : decode cX8_digest 197 = .ok (.iconst 0, 1) := by decide +kernel
theorem dX8_digest_198 : decode cX8_digest 198 = .ok (.invokevirtual 242, 3) := by decide +kernel
theorem dX8_digest_201 : decode cX8_digest 201 = .ok (.i2l, 1) := by decide +kernel
theorem dX8_digest_202 : decode cX8_digest 202 = .ok (.ladd, 1) := by decide +kernel
theorem dX8_digest_203 : decode cX8_digest 203 = .ok (.lstore_n 1, 1) := by decide +kernel
theorem dX8_digest_204 : decode cX8_digest 204 = .ok (.ldc2_w 293, 3) := by decide +kernel
theorem dX8_digest_207 : decode cX8_digest 207 = .ok (.lload_n 1, 1) := by decide +kernel
theorem dX8_digest_208 : decode cX8_digest 208 = .ok (.lmul, 1) := by decide +kernel
theorem dX8_digest_209 : decode cX8_digest 209 = .ok (.aload_n 0, 1) := by decide +kernel
theorem dX8_digest_210 : decode cX8_digest 210 = .ok (.iconst 1, 1) := by decide +kernel
theorem dX8_digest_211 : decode cX8_digest 211 = .ok (.invokevirtual 242, 3) := by decide +kernel
theorem dX8_digest_214 : decode cX8_digest 214 = .ok (.i2l, 1) := by decide +kernel
theorem dX8_digest_215 : decode cX8_digest 215 = .ok (.ladd, 1) := by decide +kernel
theorem dX8_digest_216 : decode cX8_digest 216 = .ok (.lstore_n 1, 1) := by decide +kernel
theorem dX8_digest_217 : decode cX8_digest 217 = .ok (.ldc2_w 293, 3) := by decide +kernel
theorem dX8_digest_220 : decode cX8_digest 220 = .ok (.lload_n 1, 1) := by decide +kernel
theorem dX8_digest_221 : decode cX8_digest 221 = .ok (.lmul, 1) := by decide +kernel
theorem dX8_digest_222 : decode cX8_digest 222 = .ok (.aload_n 0, 1) := by decide +kernel
theorem dX8_digest_223 : decode cX8_digest 223 = .ok (.invokevirtual 260, 3) := by decide +kernel
theorem dX8_digest_226 : decode cX8_digest 226 = .ok (.i2l, 1) := by decide +kernel
theorem dX8_digest_227 : decode cX8_digest 227 = .ok (.ladd, 1) := by decide +kernel
theorem dX8_digest_228 : decode cX8_digest 228 = .ok (.lstore_n 1, 1) := by decide +kernel
theorem dX8_digest_229 : decode cX8_digest 229 = .ok (.ldc2_w 293, 3) := by decide +kernel
theorem dX8_digest_232 : decode cX8_digest 232 = .ok (.lload_n 1, 1) := by decide +kernel
theorem dX8_digest_233 : decode cX8_digest 233 = .ok (.lmul, 1) := by decide +kernel
theorem dX8_digest_234 : decode cX8_digest 234 = .ok (.aload_n 0, 1) := by decide +kernel
theorem dX8_digest_235 : decode cX8_digest 235 = .ok (.bipush 7, 2) := by decide +kernel
theorem dX8_digest_237 : decode cX8_digest 237 = .ok (.bipush 9, 2) := by decide +kernel
theorem dX8_digest_239 : decode cX8_digest 239 = .ok (.iconst 0, 1) := by decide +kernel
theorem dX8_digest_240 : decode cX8_digest 240 = .ok (.invokevirtual 287, 3) := by decide +kernel
theorem dX8_digest_243 : decode cX8_digest 243 = .ok (.i2l, 1) := by decide +kernel
theorem dX8_digest_244 : decode cX8_digest 244 = .ok (.ladd, 1) := by decide +kernel
theorem dX8_digest_245 : decode cX8_digest 245 = .ok (.lstore_n 1, 1) := by decide +kernel
theorem dX8_digest_246 : decode cX8_digest 246 = .ok (.ldc2_w 293, 3) := by decide +kernel
theorem dX8_digest_249 : decode cX8_digest 249 = .ok (.lload_n 1, 1) := by decide +kernel
theorem dX8_digest_250 : decode cX8_digest 250 = .ok (.lmul, 1) := by decide +kernel
theorem dX8_digest_251 : decode cX8_digest 251 = .ok (.aload_n 0, 1) := by decide +kernel
theorem dX8_digest_252 : decode cX8_digest 252 = .ok (.bipush 7, 2) := by decide +kernel
theorem dX8_digest_254 : decode cX8_digest 254 = .ok (.bipush 9, 2) := by decide +kernel
theorem dX8_digest_256 : decode cX8_digest 256 = .ok (.iconst 1, 1) := by decide +kernel
theorem dX8_digest_257 : decode cX8_digest 257 = .ok (.invokevirtual 287, 3) := by decide +kernel
theorem dX8_digest_260 : decode cX8_digest 260 = .ok (.i2l, 1) := by decide +kernel
theorem dX8_digest_261 : decode cX8_digest 261 = .ok (.ladd, 1) := by decide +kernel
theorem dX8_digest_262 : decode cX8_digest 262 = .ok (.lreturn, 1) := by decide +kernel
