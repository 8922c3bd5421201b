theorem dX10_init_0 : decode cX10_init 0 = .ok (.aload_n 0, 1) := by decide +kernel
theorem dX10_init_1 : decode cX10_init 1 = .ok (.invokespecial 1, 3) := by decide +kernel
theorem dX10_init_4 : decode cX10_init 4 = .ok (.aload_n 0, 1) := by decide +kernel
theorem dX10_init_5 : decode cX10_init 5 = .ok (.bipush 88, 2) := by decide +kernel
theorem dX10_init_7 : decode cX10_init 7 = .ok (.newarray .int, 2) := by decide +kernel
theorem dX10_init_9 : decode cX10_init 9 = .ok (.putfield 7, 3) := by decide +kernel
theorem dX10_init_12 : decode cX10_init 12 = .ok (.aload_n 0, 1) := by decide +kernel
theorem dX10_init_13 : decode cX10_init 13 = .ok (.sipush 176, 3) := by decide +kernel
theorem dX10_init_16 : decode cX10_init 16 = .ok (.newarray .int, 2) := by decide +kernel
theorem dX10_init_18 : decode cX10_init 18 = .ok (.putfield 13, 3) := by decide +kernel
theorem dX10_init_21 : decode cX10_init 21 = .ok (.aload_n 0, 1) := by decide +kernel
theorem dX10_init_22 : decode cX10_init 22 = .ok (.iconst 2, 1) := by decide +kernel
theorem dX10_init_23 : decode cX10_init 23 = .ok (.newarray .boolean, 2) := by decide +kernel
theorem dX10_init_25 : decode cX10_init 25 = .ok (.putfield 16, 3) := by decide +kernel
theorem dX10_init_28 : decode cX10_init 28 = .ok (.aload_n 0, 1) := by decide +kernel
theorem dX10_init_29 : decode cX10_init 29 = .ok (.bipush 40, 2) := by decide +kernel
theorem dX10_init_31 : decode cX10_init 31 = .ok (.newarray .int, 2) := by decide +kernel
theorem dX10_init_33 : decode cX10_init 33 = .ok (.putfield 20, 3) := by decide +kernel
theorem dX10_init_36 : decode cX10_init 36 = .ok (.aload_n 0, 1) := by decide +kernel
theorem dX10_init_37 : decode cX10_init 37 = .ok (.bipush 40, 2) := by decide +kernel
theorem dX10_init_39 : decode cX10_init 39 = .ok (.newarray .int, 2) := by decide +kernel
theorem dX10_init_41 : decode cX10_init 41 = .ok (.putfield 23, 3) := by decide +kernel
theorem dX10_init_44 : decode cX10_init 44 = .ok (.aload_n 0, 1) := by decide +kernel
theorem dX10_init_45 : decode cX10_init 45 = .ok (.iconst 4, 1) := by decide +kernel
theorem dX10_init_46 : decode cX10_init 46 = .ok (.putfield 26, 3) := by decide +kernel
theorem dX10_init_49 : decode cX10_init 49 = .ok (.aload_n 0, 1) := by decide +kernel
theorem dX10_init_50 : decode cX10_init 50 = .ok (.iconst 4, 1) := by decide +kernel
theorem dX10_init_51 : decode cX10_init 51 = .ok (.newarray .int, 2) := by decide +kernel
theorem dX10_init_53 : decode cX10_init 53 = .ok (.putfield 30, 3) := by decide +kernel
theorem dX10_init_56 : decode cX10_init 56 = .ok (.aload_n 0, 1) := by decide +kernel
theorem dX10_init_57 : decode cX10_init 57 = .ok (.bipush 10, 2) := by decide +kernel
theorem dX10_init_59 : decode cX10_init 59 = .ok (.newarray .int, 2) := by decide +kernel
theorem dX10_init_61 : decode cX10_init 61 = .ok (.putfield 33, 3) := by decide +kernel
theorem dX10_init_64 : decode cX10_init 64 = .ok (.aload_n 0, 1) := by decide +kernel
theorem dX10_init_65 : decode cX10_init 65 = .ok (.bipush 10, 2) := by decide +kernel
theorem dX10_init_67 : decode cX10_init 67 = .ok (.newarray .int, 2) := by decide +kernel
theorem dX10_init_69 : decode cX10_init 69 = .ok (.putfield 36, 3) := by decide +kernel
theorem dX10_init_72 : decode cX10_init 72 = .ok (.aload_n 0, 1) := by decide +kernel
theorem dX10_init_73 : decode cX10_init 73 = .ok (.bipush 30, 2) := by decide +kernel
theorem dX10_init_75 : decode cX10_init 75 = .ok (.newarray .int, 2) := by decide +kernel
theorem dX10_init_77 : decode cX10_init 77 = .ok (.putfield 39, 3) := by decide +kernel
theorem dX10_init_80 : decode cX10_init 80 = .ok (.aload_n 0, 1) := by decide +kernel
theorem dX10_init_81 : decode cX10_init 81 = .ok (.bipush 30, 2) := by decide +kernel
theorem dX10_init_83 : decode cX10_init 83 = .ok (.newarray .int, 2) := by decide +kernel
theorem dX10_init_85 : decode cX10_init 85 = .ok (.putfield 42, 3) := by decide +kernel
theorem dX10_init_88 : decode cX10_init 88 = .ok (.aload_n 0, 1) := by decide +kernel
theorem dX10_init_89 : decode cX10_init 89 = .ok (.sipush 500, 3) := by decide +kernel
theorem dX10_init_92 : decode cX10_init 92 = .ok (.newarray .int, 2) := by decide +kernel
theorem dX10_init_94 : decode cX10_init 94 = .ok (.putfield 45, 3) := by decide +kernel
theorem dX10_init_97 : decode cX10_init 97 = .ok (.aload_n 0, 1) := by decide +kernel
theorem dX10_init_98 : decode cX10_init 98 = .ok (.iconst (-1), 1) := by decide +kernel
theorem dX10_init_99 : decode cX10_init 99 = .ok (.putfield 48, 3) := by decide +kernel
theorem dX10_init_102 : decode cX10_init 102 = .ok (.aload_n 0, 1) := by decide +kernel
theorem dX10_init_103 : decode cX10_init 103 = .ok (.bipush 40, 2) := by decide +kernel
theorem dX10_init_105 : decode cX10_init 105 = .ok (.newarray .int, 2) := by decide +kernel
theorem dX10_init_107 : decode cX10_init 107 = .ok (.putfield 51, 3) := by decide +kernel
theorem dX10_init_110 : decode cX10_init 110 = .ok (.aload_n 0, 1) := by decide +kernel
theorem dX10_init_111 : decode cX10_init 111 = .ok (.bipush 40, 2) := by decide +kernel
theorem dX10_init_113 : decode cX10_init 113 = .ok (.newarray .int, 2) := by decide +kernel
theorem dX10_init_115 : decode cX10_init 115 = .ok (.putfield 54, 3) := by decide +kernel
theorem dX10_init_118 : decode cX10_init 118 = .ok (.aload_n 0, 1) := by decide +kernel
theorem dX10_init_119 : decode cX10_init 119 = .ok (.bipush 40, 2) := by decide +kernel
theorem dX10_init_121 : decode cX10_init 121 = .ok (.newarray .int, 2) := by decide +kernel
theorem dX10_init_123 : decode cX10_init 123 = .ok (.putfield 57, 3) := by decide +kernel
theorem dX10_init_126 : decode cX10_init 126 = .ok (.aload_n 0, 1) := by decide +kernel
theorem dX10_init_127 : decode cX10_init 127 = .ok (.bipush 40, 2) := by decide +kernel
theorem dX10_init_129 : decode cX10_init 129 = .ok (.newarray .boolean, 2) := by decide +kernel
theorem dX10_init_131 : decode cX10_init 131 = .ok (.putfield 60, 3) := by decide +kernel
theorem dX10_init_134 : decode cX10_init 134 = .ok (.aload_n 0, 1) := by decide +kernel
theorem dX10_init_135 : decode cX10_init 135 = .ok (.bipush 40, 2) := by decide +kernel
theorem dX10_init_137 : decode cX10_init 137 = .ok (.newarray .boolean, 2) := by decide +kernel
theorem dX10_init_139 : decode cX10_init 139 = .ok (.putfield 63, 3) := by decide +kernel
theorem dX10_init_142 : decode cX10_init 142 = .ok (.aload_n 0, 1) := by decide +kernel
theorem dX10_init_143 : decode cX10_init 143 = .ok (.iconst 4, 1) := by decide +kernel
theorem dX10_init_144 : decode cX10_init 144 = .ok (.newarray .int, 2) := by decide +kernel
theorem dX10_init_146 : decode cX10_init 146 = .ok (.putfield 66, 3) := by decide +kernel
theorem dX10_init_149 : decode cX10_init 149 = .ok (.aload_n 0, 1) := by decide +kernel
theorem dX10_init_150 : decode cX10_init 150 = .ok (.bipush 40, 2) := by decide +kernel
theorem dX10_init_152 : decode cX10_init 152 = .ok (.newarray .long, 2) := by decide +kernel
theorem dX10_init_154 : decode cX10_init 154 = .ok (.putfield 69, 3) := by decide +kernel
theorem dX10_init_157 : decode cX10_init 157 = .ok (.aload_n 0, 1) := by decide +kernel
theorem dX10_init_158 : decode cX10_init 158 = .ok (.bipush 40, 2) := by decide +kernel
theorem dX10_init_160 : decode cX10_init 160 = .ok (.newarray .long, 2) := by decide +kernel
theorem dX10_init_162 : decode cX10_init 162 = .ok (.putfield 73, 3) := by decide +kernel
theorem dX10_init_165 : decode cX10_init 165 = .ok (.aload_n 0, 1) := by decide +kernel
theorem dX10_init_166 : decode cX10_init 166 = .ok (.bipush 80, 2) := by decide +kernel
theorem dX10_init_168 : decode cX10_init 168 = .ok (.newarray .int, 2) := by decide +kernel
theorem dX10_init_170 : decode cX10_init 170 = .ok (.putfield 76, 3) := by decide +kernel
theorem dX10_init_173 : decode cX10_init 173 = .ok (.aload_n 0, 1) := by decide +kernel
theorem dX10_init_174 : decode cX10_init 174 = .ok (.bipush 40, 2) := by decide +kernel
theorem dX10_init_176 : decode cX10_init 176 = .ok (.newarray .boolean, 2) := by decide +kernel
theorem dX10_init_178 : decode cX10_init 178 = .ok (.putfield 79, 3) := by decide +kernel
theorem dX10_init_181 : decode cX10_init 181 = .ok (.aload_n 0, 1) := by decide +kernel
theorem dX10_init_182 : decode cX10_init 182 = .ok (.bipush 40, 2) := by decide +kernel
theorem dX10_init_184 : decode cX10_init 184 = .ok (.newarray .boolean, 2) := by decide +kernel
theorem dX10_init_186 : decode cX10_init 186 = .ok (.putfield 82, 3) := by decide +kernel
theorem dX10_init_189 : decode cX10_init 189 = .ok (.aload_n 0, 1) := by decide +kernel
theorem dX10_init_190 : decode cX10_init 190 = .ok (.getfield 7, 3) := by decide +kernel
theorem dX10_init_193 : decode cX10_init 193 = .ok (.bipush 80, 2) := by decide +kernel
theorem dX10_init_195 : decode cX10_init 195 = .ok (.iconst (-1), 1) := by decide +kernel
theorem dX10_init_196 : decode cX10_init 196 = .ok (.iastore, 1) := by decide +kernel
theorem dX10_init_197 : decode cX10_init 197 = .ok (.aload_n 0, 1) := by decide +kernel
theorem dX10_init_198 : decode cX10_init 198 = .ok (.getfield 7, 3) := by decide +kernel
theorem dX10_init_201 : decode cX10_init 201 = .ok (.bipush 81, 2) := by decide +kernel
theorem dX10_init_203 : decode cX10_init 203 = .ok (.iconst (-1), 1) := by decide +kernel
theorem dX10_init_204 : decode cX10_init 204 = .ok (.iastore, 1) := by decide +kernel
theorem dX10_init_205 : decode cX10_init 205 = .ok (.aload_n 0, 1) := by decide +kernel
theorem dX10_init_206 : decode cX10_init 206 = .ok (.getfield 7, 3) := by decide +kernel
theorem dX10_init_209 : decode cX10_init 209 = .ok (.bipush 82, 2) := by decide +kernel
theorem dX10_init_211 : decode cX10_init 211 = .ok (.iconst (-1), 1) := by decide +kernel
theorem dX10_init_212 : decode cX10_init 212 = .ok (.iastore, 1) := by decide +kernel
theorem dX10_init_213 : decode cX10_init 213 = .ok (.return_, 1) := by decide +kernel
theorem dX10_in_0 : decode cX10_in 0 = .ok (.lload_n 0, 1) := by decide +kernel
theorem dX10_in_1 : decode cX10_in 1 = .ok (.lload_n 2, 1) := by decide +kernel
theorem dX10_in_2 : decode cX10_in 2 = .ok (.lcmp, 1) := by decide +kernel
theorem dX10_in_3 : decode cX10_in 3 = .ok (.ifCond .lt 14, 3) := by decide +kernel
theorem dX10_in_6 : decode cX10_in 6 = .ok (.lload_n 0, 1) := by decide +kernel
theorem dX10_in_7 : decode cX10_in 7 = .ok (.lload 4, 2) := by decide +kernel
theorem dX10_in_9 : decode cX10_in 9 = .ok (.lcmp, 1) := by decide +kernel
theorem dX10_in_10 : decode cX10_in 10 = .ok (.ifCond .gt 7, 3) := by decide +kernel
theorem dX10_in_13 : decode cX10_in 13 = .ok (.iconst 1, 1) := by decide +kernel
theorem dX10_in_14 : decode cX10_in 14 = .ok (.goto 4, 3) := by decide +kernel
theorem dX10_in_17 : decode cX10_in 17 = .ok (.iconst 0, 1) := by decide +kernel
theorem dX10_in_18 : decode cX10_in 18 = .ok (.ireturn, 1) := by decide +kernel
theorem dX10_cells_0 : decode cX10_cells 0 = .ok (.aload_n 0, 1) := by decide +kernel
theorem dX10_cells_1 : decode cX10_cells 1 = .ok (.getfield 85, 3) := by decide +kernel
theorem dX10_cells_4 : decode cX10_cells 4 = .ok (.aload_n 0, 1) := by decide +kernel
theorem dX10_cells_5 : decode cX10_cells 5 = .ok (.getfield 88, 3) := by decide +kernel
theorem dX10_cells_8 : decode cX10_cells 8 = .ok (.imul, 1) := by decide +kernel
theorem dX10_cells_9 : decode cX10_cells 9 = .ok (.ireturn, 1) := by decide +kernel
theorem dX10_isCell_0 : decode cX10_isCell 0 = .ok (.iload_n 1, 1) := by decide +kernel
theorem dX10_isCell_1 : decode cX10_isCell 1 = .ok (.i2l, 1) := by decide +kernel
theorem dX10_isCell_2 : decode cX10_isCell 2 = .ok (.lconst 0, 1) := by decide +kernel
theorem dX10_isCell_3 : decode cX10_isCell 3 = .ok (.aload_n 0, 1) := by decide +kernel
theorem dX10_isCell_4 : decode cX10_isCell 4 = .ok (.getfield 85, 3) := by decide +kernel
theorem dX10_isCell_7 : decode cX10_isCell 7 = .ok (.iconst 1, 1) := by decide +kernel
theorem dX10_isCell_8 : decode cX10_isCell 8 = .ok (.isub, 1) := by decide +kernel
theorem dX10_isCell_9 : decode cX10_isCell 9 = .ok (.i2l, 1) := by decide +kernel
theorem dX10_isCell_10 : decode cX10_isCell 10 = .ok (.invokestatic 91, 3) := by decide +kernel
theorem dX10_isCell_13 : decode cX10_isCell 13 = .ok (.ifCond .eq 23, 3) := by decide +kernel
theorem dX10_isCell_16 : decode cX10_isCell 16 = .ok (.iload_n 2, 1) := by decide +kernel
theorem dX10_isCell_17 : decode cX10_isCell 17 = .ok (.i2l, 1) := by decide +kernel
theorem dX10_isCell_18 : decode cX10_isCell 18 = .ok (.lconst 0, 1) := by decide +kernel
theorem dX10_isCell_19 : decode cX10_isCell 19 = .ok (.aload_n 0, 1) := by decide +kernel
theorem dX10_isCell_20 : decode cX10_isCell 20 = .ok (.getfield 88, 3) := by decide +kernel
theorem dX10_isCell_23 : decode cX10_isCell 23 = .ok (.iconst 1, 1) := by decide +kernel
theorem dX10_isCell_24 : decode cX10_isCell 24 = .ok (.isub, 1) := by decide +kernel
theorem dX10_isCell_25 : decode cX10_isCell 25 = .ok (.i2l, 1) := by decide +kernel
theorem dX10_isCell_26 : decode cX10_isCell 26 = .ok (.invokestatic 91, 3) := by decide +kernel
theorem dX10_isCell_29 : decode cX10_isCell 29 = .ok (.ifCond .eq 7, 3) := by decide +kernel
theorem dX10_isCell_32 : decode cX10_isCell 32 = .ok (.iconst 1, 1) := by decide +kernel
theorem dX10_isCell_33 : decode cX10_isCell 33 = .ok (.goto 4, 3) := by decide +kernel
theorem dX10_isCell_36 : decode cX10_isCell 36 = .ok (.iconst 0, 1) := by decide +kernel
theorem dX10_isCell_37 : decode cX10_isCell 37 = .ok (.ireturn, 1) := by decide +kernel
theorem dX10_isParish_0 : decode cX10_isParish 0 = .ok (.iload_n 0, 1) := by decide +kernel
theorem dX10_isParish_1 : decode cX10_isParish 1 = .ok (.i2l, 1) := by decide +kernel
theorem dX10_isParish_2 : decode cX10_isParish 2 = .ok (.lconst 0, 1) := by decide +kernel
theorem dX10_isParish_3 : decode cX10_isParish 3 = .ok (.lconst 1, 1) := by decide +kernel
theorem dX10_isParish_4 : decode cX10_isParish 4 = .ok (.invokestatic 91, 3) := by decide +kernel
theorem dX10_isParish_7 : decode cX10_isParish 7 = .ok (.ireturn, 1) := by decide +kernel
theorem dX10_named_0 : decode cX10_named 0 = .ok (.iload_n 1, 1) := by decide +kernel
theorem dX10_named_1 : decode cX10_named 1 = .ok (.iconst (-1), 1) := by decide +kernel
theorem dX10_named_2 : decode cX10_named 2 = .ok (.if_icmp .ne 7, 3) := by decide +kernel
theorem dX10_named_5 : decode cX10_named 5 = .ok (.iconst (-1), 1) := by decide +kernel
theorem dX10_named_6 : decode cX10_named 6 = .ok (.goto 19, 3) := by decide +kernel
theorem dX10_named_9 : decode cX10_named 9 = .ok (.bipush 10, 2) := by decide +kernel
theorem dX10_named_11 : decode cX10_named 11 = .ok (.iload_n 1, 1) := by decide +kernel
theorem dX10_named_12 : decode cX10_named 12 = .ok (.aload_n 0, 1) := by decide +kernel
theorem dX10_named_13 : decode cX10_named 13 = .ok (.getfield 85, 3) := by decide +kernel
theorem dX10_named_16 : decode cX10_named 16 = .ok (.irem, 1) := by decide +kernel
theorem dX10_named_17 : decode cX10_named 17 = .ok (.imul, 1) := by decide +kernel
theorem dX10_named_18 : decode cX10_named 18 = .ok (.iload_n 1, 1) := by decide +kernel
theorem dX10_named_19 : decode cX10_named 19 = .ok (.aload_n 0, 1) := by decide +kernel
theorem dX10_named_20 : decode cX10_named 20 = .ok (.getfield 85, 3) := by decide +kernel
theorem dX10_named_23 : decode cX10_named 23 = .ok (.idiv, 1) := by decide +kernel
theorem dX10_named_24 : decode cX10_named 24 = .ok (.iadd, 1) := by decide +kernel
theorem dX10_named_25 : decode cX10_named 25 = .ok (.ireturn, 1) := by decide +kernel
theorem dX10_feed_0 : decode cX10_feed 0 = .ok (.iload_n 1, 1) := by decide +kernel
theorem dX10_feed_1 : decode cX10_feed 1 = .ok (.i2l, 1) := by decide +kernel
theorem dX10_feed_2 : decode cX10_feed 2 = .ok (.lconst 1, 1) := by decide +kernel
theorem dX10_feed_3 : decode cX10_feed 3 = .ok (.ldc2_w 95, 3) := by decide +kernel
theorem dX10_feed_6 : decode cX10_feed 6 = .ok (.invokestatic 91, 3) := by decide +kernel
theorem dX10_feed_9 : decode cX10_feed 9 = .ok (.ifCond .ne 6, 3) := by decide +kernel
theorem dX10_feed_12 : decode cX10_feed 12 = .ok (.ldc 97, 2) := by decide +kernel
theorem dX10_feed_14 : decode cX10_feed 14 = .ok (.ireturn, 1) := by decide +kernel
theorem dX10_feed_15 : decode cX10_feed 15 = .ok (.aload_n 0, 1) := by decide +kernel
theorem dX10_feed_16 : decode cX10_feed 16 = .ok (.getfield 98, 3) := by decide +kernel
theorem dX10_feed_19 : decode cX10_feed 19 = .ok (.iload_n 1, 1) := by decide +kernel
theorem dX10_feed_20 : decode cX10_feed 20 = .ok (.iadd, 1) := by decide +kernel
theorem dX10_feed_21 : decode cX10_feed 21 = .ok (.sipush 500, 3) := by decide +kernel
theorem dX10_feed_24 : decode cX10_feed 24 = .ok (.if_icmp .le 6, 3) := by decide +kernel
theorem dX10_feed_27 : decode cX10_feed 27 = .ok (.ldc 101, 2) := by decide +kernel
theorem dX10_feed_29 : decode cX10_feed 29 = .ok (.ireturn, 1) := by decide +kernel
theorem dX10_feed_30 : decode cX10_feed 30 = .ok (.iconst 0, 1) := by decide +kernel
theorem dX10_feed_31 : decode cX10_feed 31 = .ok (.istore 4, 2) := by decide +kernel
theorem dX10_feed_33 : decode cX10_feed 33 = .ok (.iload 4, 2) := by decide +kernel
theorem dX10_feed_35 : decode cX10_feed 35 = .ok (.iload_n 1, 1) := by decide +kernel
theorem dX10_feed_36 : decode cX10_feed 36 = .ok (.if_icmp .ge 44, 3) := by decide +kernel
theorem dX10_feed_39 : decode cX10_feed 39 = .ok (.aload_n 0, 1) := by decide +kernel
theorem dX10_feed_40 : decode cX10_feed 40 = .ok (.getfield 45, 3) := by decide +kernel
theorem dX10_feed_43 : decode cX10_feed 43 = .ok (.aload_n 0, 1) := by decide +kernel
theorem dX10_feed_44 : decode cX10_feed 44 = .ok (.getfield 98, 3) := by decide +kernel
theorem dX10_feed_47 : decode cX10_feed 47 = .ok (.lload_n 2, 1) := by decide +kernel
theorem dX10_feed_48 : decode cX10_feed 48 = .ok (.bipush 8, 2) := by decide +kernel
theorem dX10_feed_50 : decode cX10_feed 50 = .ok (.iload_n 1, 1) := by decide +kernel
theorem dX10_feed_51 : decode cX10_feed 51 = .ok (.iconst 1, 1) := by decide +kernel
theorem dX10_feed_52 : decode cX10_feed 52 = .ok (.isub, 1) := by decide +kernel
theorem dX10_feed_53 : decode cX10_feed 53 = .ok (.iload 4, 2) := by decide +kernel
theorem dX10_feed_55 : decode cX10_feed 55 = .ok (.isub, 1) := by decide +kernel
theorem dX10_feed_56 : decode cX10_feed 56 = .ok (.imul, 1) := by decide +kernel
theorem dX10_feed_57 : decode cX10_feed 57 = .ok (.lushr, 1) := by decide +kernel
theorem dX10_feed_58 : decode cX10_feed 58 = .ok (.ldc2_w 102, 3) := by decide +kernel
theorem dX10_feed_61 : decode cX10_feed 61 = .ok (.land, 1) := by decide +kernel
theorem dX10_feed_62 : decode cX10_feed 62 = .ok (.l2i, 1) := by decide +kernel
theorem dX10_feed_63 : decode cX10_feed 63 = .ok (.iastore, 1) := by decide +kernel
theorem dX10_feed_64 : decode cX10_feed 64 = .ok (.aload_n 0, 1) := by decide +kernel
theorem dX10_feed_65 : decode cX10_feed 65 = .ok (.dup, 1) := by decide +kernel
theorem dX10_feed_66 : decode cX10_feed 66 = .ok (.getfield 98, 3) := by decide +kernel
theorem dX10_feed_69 : decode cX10_feed 69 = .ok (.iconst 1, 1) := by decide +kernel
theorem dX10_feed_70 : decode cX10_feed 70 = .ok (.iadd, 1) := by decide +kernel
theorem dX10_feed_71 : decode cX10_feed 71 = .ok (.putfield 98, 3) := by decide +kernel
theorem dX10_feed_74 : decode cX10_feed 74 = .ok (.iinc 4 1, 3) := by decide +kernel
theorem dX10_feed_77 : decode cX10_feed 77 = .ok (.goto (-44), 3) := by decide +kernel
theorem dX10_feed_80 : decode cX10_feed 80 = .ok (.aload_n 0, 1) := by decide +kernel
theorem dX10_feed_81 : decode cX10_feed 81 = .ok (.getfield 98, 3) := by decide +kernel
theorem dX10_feed_84 : decode cX10_feed 84 = .ok (.ireturn, 1) := by decide +kernel
theorem dX10_isSmall_0 : decode cX10_isSmall 0 = .ok (.iload_n 0, 1) := by decide +kernel
theorem dX10_isSmall_1 : decode cX10_isSmall 1 = .ok (.i2l, 1) := by decide +kernel
theorem dX10_isSmall_2 : decode cX10_isSmall 2 = .ok (.ldc2_w 104, 3) := by decide +kernel
theorem dX10_isSmall_5 : decode cX10_isSmall 5 = .ok (.ldc2_w 106, 3) := by decide +kernel
theorem dX10_isSmall_8 : decode cX10_isSmall 8 = .ok (.invokestatic 91, 3) := by decide +kernel
theorem dX10_isSmall_11 : decode cX10_isSmall 11 = .ok (.ireturn, 1) := by decide +kernel
theorem dX10_isFigure_0 : decode cX10_isFigure 0 = .ok (.iload_n 0, 1) := by decide +kernel
theorem dX10_isFigure_1 : decode cX10_isFigure 1 = .ok (.i2l, 1) := by decide +kernel
theorem dX10_isFigure_2 : decode cX10_isFigure 2 = .ok (.ldc2_w 108, 3) := by decide +kernel
theorem dX10_isFigure_5 : decode cX10_isFigure 5 = .ok (.ldc2_w 110, 3) := by decide +kernel
theorem dX10_isFigure_8 : decode cX10_isFigure 8 = .ok (.invokestatic 91, 3) := by decide +kernel
theorem dX10_isFigure_11 : decode cX10_isFigure 11 = .ok (.ireturn, 1) := by decide +kernel
theorem dX10_look_0 : decode cX10_look 0 = .ok (.aload_n 0, 1) := by decide +kernel
theorem dX10_look_1 : decode cX10_look 1 = .ok (.iload_n 1, 1) := by decide +kernel
theorem dX10_look_2 : decode cX10_look 2 = .ok (.putfield 112, 3) := by decide +kernel
theorem dX10_look_5 : decode cX10_look 5 = .ok (.aload_n 0, 1) := by decide +kernel
theorem dX10_look_6 : decode cX10_look 6 = .ok (.getfield 112, 3) := by decide +kernel
theorem dX10_look_9 : decode cX10_look 9 = .ok (.aload_n 0, 1) := by decide +kernel
theorem dX10_look_10 : decode cX10_look 10 = .ok (.getfield 98, 3) := by decide +kernel
theorem dX10_look_13 : decode cX10_look 13 = .ok (.if_icmp .ge 30, 3) := by decide +kernel
theorem dX10_look_16 : decode cX10_look 16 = .ok (.aload_n 0, 1) := by decide +kernel
theorem dX10_look_17 : decode cX10_look 17 = .ok (.getfield 45, 3) := by decide +kernel
theorem dX10_look_20 : decode cX10_look 20 = .ok (.aload_n 0, 1) := by decide +kernel
theorem dX10_look_21 : decode cX10_look 21 = .ok (.getfield 112, 3) := by decide +kernel
theorem dX10_look_24 : decode cX10_look 24 = .ok (.iaload, 1) := by decide +kernel
theorem dX10_look_25 : decode cX10_look 25 = .ok (.bipush 32, 2) := by decide +kernel
theorem dX10_look_27 : decode cX10_look 27 = .ok (.if_icmp .ne 16, 3) := by decide +kernel
theorem dX10_look_30 : decode cX10_look 30 = .ok (.aload_n 0, 1) := by decide +kernel
theorem dX10_look_31 : decode cX10_look 31 = .ok (.dup, 1) := by decide +kernel
theorem dX10_look_32 : decode cX10_look 32 = .ok (.getfield 112, 3) := by decide +kernel
theorem dX10_look_35 : decode cX10_look 35 = .ok (.iconst 1, 1) := by decide +kernel
theorem dX10_look_36 : decode cX10_look 36 = .ok (.iadd, 1) := by decide +kernel
theorem dX10_look_37 : decode cX10_look 37 = .ok (.putfield 112, 3) := by decide +kernel
theorem dX10_look_40 : decode cX10_look 40 = .ok (.goto (-35), 3) := by decide +kernel
theorem dX10_look_43 : decode cX10_look 43 = .ok (.aload_n 0, 1) := by decide +kernel
theorem dX10_look_44 : decode cX10_look 44 = .ok (.iconst 0, 1) := by decide +kernel
theorem dX10_look_45 : decode cX10_look 45 = .ok (.putfield 115, 3) := by decide +kernel
theorem dX10_look_48 : decode cX10_look 48 = .ok (.aload_n 0, 1) := by decide +kernel
theorem dX10_look_49 : decode cX10_look 49 = .ok (.iconst 0, 1) := by decide +kernel
theorem dX10_look_50 : decode cX10_look 50 = .ok (.putfield 118, 3) := by decide +kernel
theorem dX10_look_53 : decode cX10_look 53 = .ok (.aload_n 0, 1) := by decide +kernel
theorem dX10_look_54 : decode cX10_look 54 = .ok (.iconst 0, 1) := by decide +kernel
theorem dX10_look_55 : decode cX10_look 55 = .ok (.putfield 121, 3) := by decide +kernel
theorem dX10_look_58 : decode cX10_look 58 = .ok (.aload_n 0, 1) := by decide +kernel
theorem dX10_look_59 : decode cX10_look 59 = .ok (.getfield 112, 3) := by decide +kernel
theorem dX10_look_62 : decode cX10_look 62 = .ok (.aload_n 0, 1) := by decide +kernel
theorem dX10_look_63 : decode cX10_look 63 = .ok (.getfield 98, 3) := by decide +kernel
theorem dX10_look_66 : decode cX10_look 66 = .ok (.if_icmp .ne 4, 3) := by decide +kernel
theorem dX10_look_69 : decode cX10_look 69 = .ok (.return_, 1) := by decide +kernel
theorem dX10_look_70 : decode cX10_look 70 = .ok (.aload_n 0, 1) := by decide +kernel
theorem dX10_look_71 : decode cX10_look 71 = .ok (.getfield 45, 3) := by decide +kernel
theorem dX10_look_74 : decode cX10_look 74 = .ok (.aload_n 0, 1) := by decide +kernel
theorem dX10_look_75 : decode cX10_look 75 = .ok (.getfield 112, 3) := by decide +kernel
theorem dX10_look_78 : decode cX10_look 78 = .ok (.iaload, 1) := by decide +kernel
theorem dX10_look_79 : decode cX10_look 79 = .ok (.istore_n 2, 1) := by decide +kernel
theorem dX10_look_80 : decode cX10_look 80 = .ok (.aload_n 0, 1) := by decide +kernel
theorem dX10_look_81 : decode cX10_look 81 = .ok (.iload_n 2, 1) := by decide +kernel
theorem dX10_look_82 : decode cX10_look 82 = .ok (.invokestatic 124, 3) := by decide +kernel
theorem dX10_look_85 : decode cX10_look 85 = .ok (.ifCond .eq 7, 3) := by decide +kernel
theorem dX10_look_88 : decode cX10_look 88 = .ok (.iconst 1, 1) := by decide +kernel
theorem dX10_look_89 : decode cX10_look 89 = .ok (.goto 25, 3) := by decide +kernel
theorem dX10_look_92 : decode cX10_look 92 = .ok (.iload_n 2, 1) := by decide +kernel
theorem dX10_look_93 : decode cX10_look 93 = .ok (.invokestatic 128, 3) := by decide +kernel
theorem dX10_look_96 : decode cX10_look 96 = .ok (.ifCond .eq 7, 3) := by decide +kernel
theorem dX10_look_99 : decode cX10_look 99 = .ok (.iconst 2, 1) := by decide +kernel
theorem dX10_look_100 : decode cX10_look 100 = .ok (.goto 14, 3) := by decide +kernel
theorem dX10_look_103 : decode cX10_look 103 = .ok (.iload_n 2, 1) := by decide +kernel
theorem dX10_look_104 : decode cX10_look 104 = .ok (.bipush 59, 2) := by decide +kernel
theorem dX10_look_106 : decode cX10_look 106 = .ok (.if_icmp .ne 7, 3) := by decide +kernel
theorem dX10_look_109 : decode cX10_look 109 = .ok (.iconst 3, 1) := by decide +kernel
theorem dX10_look_110 : decode cX10_look 110 = .ok (.goto 4, 3) := by decide +kernel
theorem dX10_look_113 : decode cX10_look 113 = .ok (.iconst 4, 1) := by decide +kernel
theorem dX10_look_114 : decode cX10_look 114 = .ok (.putfield 118, 3) := by decide +kernel
theorem dX10_look_117 : decode cX10_look 117 = .ok (.aload_n 0, 1) := by decide +kernel
theorem dX10_look_118 : decode cX10_look 118 = .ok (.iconst 1, 1) := by decide +kernel
theorem dX10_look_119 : decode cX10_look 119 = .ok (.putfield 115, 3) := by decide +kernel
theorem dX10_look_122 : decode cX10_look 122 = .ok (.aload_n 0, 1) := by decide +kernel
theorem dX10_look_123 : decode cX10_look 123 = .ok (.getfield 118, 3) := by decide +kernel
theorem dX10_look_126 : decode cX10_look 126 = .ok (.iconst 3, 1) := by decide +kernel
theorem dX10_look_127 : decode cX10_look 127 = .ok (.if_icmp .ge 7, 3) := by decide +kernel
theorem dX10_look_130 : decode cX10_look 130 = .ok (.iconst 1, 1) := by decide +kernel
theorem dX10_look_131 : decode cX10_look 131 = .ok (.goto 4, 3) := by decide +kernel
theorem dX10_look_134 : decode cX10_look 134 = .ok (.iconst 0, 1) := by decide +kernel
theorem dX10_look_135 : decode cX10_look 135 = .ok (.istore_n 3, 1) := by decide +kernel
theorem dX10_look_136 : decode cX10_look 136 = .ok (.iload_n 3, 1) := by decide +kernel
theorem dX10_look_137 : decode cX10_look 137 = .ok (.ifCond .eq 78, 3) := by decide +kernel
theorem dX10_look_140 : decode cX10_look 140 = .ok (.aload_n 0, 1) := by decide +kernel
theorem dX10_look_141 : decode cX10_look 141 = .ok (.getfield 112, 3) := by decide +kernel
theorem dX10_look_144 : decode cX10_look 144 = .ok (.aload_n 0, 1) := by decide +kernel
theorem dX10_look_145 : decode cX10_look 145 = .ok (.getfield 115, 3) := by decide +kernel
theorem dX10_look_148 : decode cX10_look 148 = .ok (.iadd, 1) := by decide +kernel
theorem dX10_look_149 : decode cX10_look 149 = .ok (.aload_n 0, 1) := by decide +kernel
theorem dX10_look_150 : decode cX10_look 150 = .ok (.getfield 98, 3) := by decide +kernel
theorem dX10_look_153 : decode cX10_look 153 = .ok (.if_icmp .ge 62, 3) := by decide +kernel
theorem dX10_look_156 : decode cX10_look 156 = .ok (.aload_n 0, 1) := by decide +kernel
theorem dX10_look_157 : decode cX10_look 157 = .ok (.getfield 45, 3) := by decide +kernel
theorem dX10_look_160 : decode cX10_look 160 = .ok (.aload_n 0, 1) := by decide +kernel
theorem dX10_look_161 : decode cX10_look 161 = .ok (.getfield 112, 3) := by decide +kernel
theorem dX10_look_164 : decode cX10_look 164 = .ok (.aload_n 0, 1) := by decide +kernel
theorem dX10_look_165 : decode cX10_look 165 = .ok (.getfield 115, 3) := by decide +kernel
theorem dX10_look_168 : decode cX10_look 168 = .ok (.iadd, 1) := by decide +kernel
theorem dX10_look_169 : decode cX10_look 169 = .ok (.iaload, 1) := by decide +kernel
theorem dX10_look_170 : decode cX10_look 170 = .ok (.istore 4, 2) := by decide +kernel
theorem dX10_look_172 : decode cX10_look 172 = .ok (.aload_n 0, 1) := by decide +kernel
theorem dX10_look_173 : decode cX10_look 173 = .ok (.getfield 118, 3) := by decide +kernel
theorem dX10_look_176 : decode cX10_look 176 = .ok (.iconst 1, 1) := by decide +kernel
theorem dX10_look_177 : decode cX10_look 177 = .ok (.if_icmp .ne 11, 3) := by decide +kernel
theorem dX10_look_180 : decode cX10_look 180 = .ok (.iload 4, 2) := by decide +kernel
theorem dX10_look_182 : decode cX10_look 182 = .ok (.invokestatic 124, 3) := by decide +kernel
theorem dX10_look_185 : decode cX10_look 185 = .ok (.goto 8, 3) := by decide +kernel
theorem dX10_look_188 : decode cX10_look 188 = .ok (.iload 4, 2) := by decide +kernel
theorem dX10_look_190 : decode cX10_look 190 = .ok (.invokestatic 128, 3) := by decide +kernel
theorem dX10_look_193 : decode cX10_look 193 = .ok (.istore_n 3, 1) := by decide +kernel
theorem dX10_look_194 : decode cX10_look 194 = .ok (.aload_n 0, 1) := by decide +kernel
theorem dX10_look_195 : decode cX10_look 195 = .ok (.dup, 1) := by decide +kernel
theorem dX10_look_196 : decode cX10_look 196 = .ok (.getfield 115, 3) := by decide +kernel
theorem dX10_look_199 : decode cX10_look 199 = .ok (.iload_n 3, 1) := by decide +kernel
theorem dX10_look_200 : decode cX10_look 200 = .ok (.ifCond .eq 7, 3) := by decide +kernel
theorem dX10_look_203 : decode cX10_look 203 = .ok (.iconst 1, 1) := by decide +kernel
theorem dX10_look_204 : decode cX10_look 204 = .ok (.goto 4, 3) := by decide +kernel
theorem dX10_look_207 : decode cX10_look 207 = .ok (.iconst 0, 1) := by decide +kernel
theorem dX10_look_208 : decode cX10_look 208 = .ok (.iadd, 1) := by decide +kernel
theorem dX10_look_209 : decode cX10_look 209 = .ok (.putfield 115, 3) := by decide +kernel
theorem dX10_look_212 : decode cX10_look 212 = .ok (.goto (-76), 3) := by decide +kernel
theorem dX10_look_215 : decode cX10_look 215 = .ok (.iconst 0, 1) := by decide +kernel
theorem dX10_look_216 : decode cX10_look 216 = .ok (.istore 4, 2) := by decide +kernel
theorem dX10_look_218 : decode cX10_look 218 = .ok (.iload 4, 2) := by decide +kernel
theorem dX10_look_220 : decode cX10_look 220 = .ok (.aload_n 0, 1) := by decide +kernel
theorem dX10_look_221 : decode cX10_look 221 = .ok (.getfield 115, 3) := by decide +kernel
theorem dX10_look_224 : decode cX10_look 224 = .ok (.if_icmp .ge 58, 3) := by decide +kernel
theorem dX10_look_227 : decode cX10_look 227 = .ok (.aload_n 0, 1) := by decide +kernel
theorem dX10_look_228 : decode cX10_look 228 = .ok (.getfield 118, 3) := by decide +kernel
theorem dX10_look_231 : decode cX10_look 231 = .ok (.iconst 2, 1) := by decide +kernel
theorem dX10_look_232 : decode cX10_look 232 = .ok (.if_icmp .ne 50, 3) := by decide +kernel
theorem dX10_look_235 : decode cX10_look 235 = .ok (.aload_n 0, 1) := by decide +kernel
theorem dX10_look_236 : decode cX10_look 236 = .ok (.aload_n 0, 1) := by decide +kernel
theorem dX10_look_237 : decode cX10_look 237 = .ok (.getfield 115, 3) := by decide +kernel
theorem dX10_look_240 : decode cX10_look 240 = .ok (.iconst 3, 1) := by decide +kernel
theorem dX10_look_241 : decode cX10_look 241 = .ok (.if_icmp .le 9, 3) := by decide +kernel
theorem dX10_look_244 : decode cX10_look 244 = .ok (.sipush 1000, 3) := by decide +kernel
theorem dX10_look_247 : decode cX10_look 247 = .ok (.goto 26, 3) := by decide +kernel
theorem dX10_look_250 : decode cX10_look 250 = .ok (.bipush 10, 2) := by decide +kernel
theorem dX10_look_252 : decode cX10_look 252 = .ok (.aload_n 0, 1) := by decide +kernel
theorem dX10_look_253 : decode cX10_look 253 = .ok (.getfield 121, 3) := by decide +kernel
theorem dX10_look_256 : decode cX10_look 256 = .ok (.imul, 1) := by decide +kernel
theorem dX10_look_257 : decode cX10_look 257 = .ok (.aload_n 0, 1) := by decide +kernel
theorem dX10_look_258 : decode cX10_look 258 = .ok (.getfield 45, 3) := by decide +kernel
theorem dX10_look_261 : decode cX10_look 261 = .ok (.aload_n 0, 1) := by decide +kernel
theorem dX10_look_262 : decode cX10_look 262 = .ok (.getfield 112, 3) := by decide +kernel
theorem dX10_look_265 : decode cX10_look 265 = .ok (.iload 4, 2) := by decide +kernel
theorem dX10_look_267 : decode cX10_look 267 = .ok (.iadd, 1) := by decide +kernel
theorem dX10_look_268 : decode cX10_look 268 = .ok (.iaload, 1) := by decide +kernel
theorem dX10_look_269 : decode cX10_look 269 = .ok (.iadd, 1) := by decide +kernel
theorem dX10_look_270 : decode cX10_look 270 = .ok (.bipush 48, 2) := by decide +kernel
theorem dX10_look_272 : decode cX10_look 272 = .ok (.isub, 1) := by decide +kernel
theorem dX10_look_273 : decode cX10_look 273 = .ok (.putfield 121, 3) := by decide +kernel
theorem dX10_look_276 : decode cX10_look 276 = .ok (.iinc 4 1, 3) := by decide +kernel
theorem dX10_look_279 : decode cX10_look 279 = .ok (.goto (-61), 3) := by decide +kernel
theorem dX10_look_282 : decode cX10_look 282 = .ok (.return_, 1) := by decide +kernel
theorem dX10_goOn_0 : decode cX10_goOn 0 = .ok (.aload_n 0, 1) := by decide +kernel
theorem dX10_goOn_1 : decode cX10_goOn 1 = .ok (.aload_n 0, 1) := by decide +kernel
theorem dX10_goOn_2 : decode cX10_goOn 2 = .ok (.getfield 112, 3) := by decide +kernel
theorem dX10_goOn_5 : decode cX10_goOn 5 = .ok (.aload_n 0, 1) := by decide +kernel
theorem dX10_goOn_6 : decode cX10_goOn 6 = .ok (.getfield 115, 3) := by decide +kernel
theorem dX10_goOn_9 : decode cX10_goOn 9 = .ok (.iadd, 1) := by decide +kernel
theorem dX10_goOn_10 : decode cX10_goOn 10 = .ok (.invokevirtual 131, 3) := by decide +kernel
theorem dX10_goOn_13 : decode cX10_goOn 13 = .ok (.return_, 1) := by decide +kernel
theorem dX10_isWord_0 : decode cX10_isWord 0 = .ok (.iload 4, 2) := by decide +kernel
theorem dX10_isWord_2 : decode cX10_isWord 2 = .ok (.ifCond .ne 7, 3) := by decide +kernel
theorem dX10_isWord_5 : decode cX10_isWord 5 = .ok (.iconst 3, 1) := by decide +kernel
theorem dX10_isWord_6 : decode cX10_isWord 6 = .ok (.goto 23, 3) := by decide +kernel
theorem dX10_isWord_9 : decode cX10_isWord 9 = .ok (.iload 5, 2) := by decide +kernel
theorem dX10_isWord_11 : decode cX10_isWord 11 = .ok (.ifCond .ne 7, 3) := by decide +kernel
theorem dX10_isWord_14 : decode cX10_isWord 14 = .ok (.iconst 4, 1) := by decide +kernel
theorem dX10_isWord_15 : decode cX10_isWord 15 = .ok (.goto 14, 3) := by decide +kernel
theorem dX10_isWord_18 : decode cX10_isWord 18 = .ok (.iload 6, 2) := by decide +kernel
theorem dX10_isWord_20 : decode cX10_isWord 20 = .ok (.ifCond .ne 7, 3) := by decide +kernel
theorem dX10_isWord_23 : decode cX10_isWord 23 = .ok (.iconst 5, 1) := by decide +kernel
theorem dX10_isWord_24 : decode cX10_isWord 24 = .ok (.goto 5, 3) := by decide +kernel
theorem dX10_isWord_27 : decode cX10_isWord 27 = .ok (.bipush 6, 2) := by decide +kernel
theorem dX10_isWord_29 : decode cX10_isWord 29 = .ok (.istore 7, 2) := by decide +kernel
theorem dX10_isWord_31 : decode cX10_isWord 31 = .ok (.aload_n 0, 1) := by decide +kernel
theorem dX10_isWord_32 : decode cX10_isWord 32 = .ok (.getfield 118, 3) := by decide +kernel
theorem dX10_isWord_35 : decode cX10_isWord 35 = .ok (.iconst 1, 1) := by decide +kernel
theorem dX10_isWord_36 : decode cX10_isWord 36 = .ok (.if_icmp .ne 16, 3) := by decide +kernel
theorem dX10_isWord_39 : decode cX10_isWord 39 = .ok (.aload_n 0, 1) := by decide +kernel
theorem dX10_isWord_40 : decode cX10_isWord 40 = .ok (.getfield 115, 3) := by decide +kernel
theorem dX10_isWord_43 : decode cX10_isWord 43 = .ok (.iload 7, 2) := by decide +kernel
theorem dX10_isWord_45 : decode cX10_isWord 45 = .ok (.if_icmp .ne 7, 3) := by decide +kernel
theorem dX10_isWord_48 : decode cX10_isWord 48 = .ok (.iconst 1, 1) := by decide +kernel
theorem dX10_isWord_49 : decode cX10_isWord 49 = .ok (.goto 4, 3) := by decide +kernel
theorem dX10_isWord_52 : decode cX10_isWord 52 = .ok (.iconst 0, 1) := by decide +kernel
theorem dX10_isWord_53 : decode cX10_isWord 53 = .ok (.istore 8, 2) := by decide +kernel
theorem dX10_isWord_55 : decode cX10_isWord 55 = .ok (.iconst 0, 1) := by decide +kernel
theorem dX10_isWord_56 : decode cX10_isWord 56 = .ok (.istore 9, 2) := by decide +kernel
theorem dX10_isWord_58 : decode cX10_isWord 58 = .ok (.iload 9, 2) := by decide +kernel
theorem dX10_isWord_60 : decode cX10_isWord 60 = .ok (.iload 7, 2) := by decide +kernel
theorem dX10_isWord_62 : decode cX10_isWord 62 = .ok (.if_icmp .ge 89, 3) := by decide +kernel
theorem dX10_isWord_65 : decode cX10_isWord 65 = .ok (.iload 8, 2) := by decide +kernel
theorem dX10_isWord_67 : decode cX10_isWord 67 = .ok (.ifCond .eq 84, 3) := by decide +kernel
theorem dX10_isWord_70 : decode cX10_isWord 70 = .ok (.aload_n 0, 1) := by decide +kernel
theorem dX10_isWord_71 : decode cX10_isWord 71 = .ok (.getfield 45, 3) := by decide +kernel
theorem dX10_isWord_74 : decode cX10_isWord 74 = .ok (.aload_n 0, 1) := by decide +kernel
theorem dX10_isWord_75 : decode cX10_isWord 75 = .ok (.getfield 112, 3) := by decide +kernel
theorem dX10_isWord_78 : decode cX10_isWord 78 = .ok (.iload 9, 2) := by decide +kernel
theorem dX10_isWord_80 : decode cX10_isWord 80 = .ok (.iadd, 1) := by decide +kernel
theorem dX10_isWord_81 : decode cX10_isWord 81 = .ok (.iaload, 1) := by decide +kernel
theorem dX10_isWord_82 : decode cX10_isWord 82 = .ok (.iload 9, 2) := by decide +kernel
theorem dX10_isWord_84 : decode cX10_isWord 84 = .ok (.ifCond .ne 7, 3) := by decide +kernel
theorem dX10_isWord_87 : decode cX10_isWord 87 = .ok (.iload_n 1, 1) := by decide +kernel
theorem dX10_isWord_88 : decode cX10_isWord 88 = .ok (.goto 47, 3) := by decide +kernel
theorem dX10_isWord_91 : decode cX10_isWord 91 = .ok (.iload 9, 2) := by decide +kernel
theorem dX10_isWord_93 : decode cX10_isWord 93 = .ok (.iconst 1, 1) := by decide +kernel
theorem dX10_isWord_94 : decode cX10_isWord 94 = .ok (.if_icmp .ne 7, 3) := by decide +kernel
theorem dX10_isWord_97 : decode cX10_isWord 97 = .ok (.iload_n 2, 1) := by decide +kernel
theorem dX10_isWord_98 : decode cX10_isWord 98 = .ok (.goto 37, 3) := by decide +kernel
theorem dX10_isWord_101 : decode cX10_isWord 101 = .ok (.iload 9, 2) := by decide +kernel
theorem dX10_isWord_103 : decode cX10_isWord 103 = .ok (.iconst 2, 1) := by decide +kernel
theorem dX10_isWord_104 : decode cX10_isWord 104 = .ok (.if_icmp .ne 7, 3) := by decide +kernel
theorem dX10_isWord_107 : decode cX10_isWord 107 = .ok (.iload_n 3, 1) := by decide +kernel
theorem dX10_isWord_108 : decode cX10_isWord 108 = .ok (.goto 27, 3) := by decide +kernel
theorem dX10_isWord_111 : decode cX10_isWord 111 = .ok (.iload 9, 2) := by decide +kernel
theorem dX10_isWord_113 : decode cX10_isWord 113 = .ok (.iconst 3, 1) := by decide +kernel
theorem dX10_isWord_114 : decode cX10_isWord 114 = .ok (.if_icmp .ne 8, 3) := by decide +kernel
theorem dX10_isWord_117 : decode cX10_isWord 117 = .ok (.iload 4, 2) := by decide +kernel
theorem dX10_isWord_119 : decode cX10_isWord 119 = .ok (.goto 16, 3) := by decide +kernel
theorem dX10_isWord_122 : decode cX10_isWord 122 = .ok (.iload 9, 2) := by decide +kernel
theorem dX10_isWord_124 : decode cX10_isWord 124 = .ok (.iconst 4, 1) := by decide +kernel
theorem dX10_isWord_125 : decode cX10_isWord 125 = .ok (.if_icmp .ne 8, 3) := by decide +kernel
theorem dX10_isWord_128 : decode cX10_isWord 128 = .ok (.iload 5, 2) := by decide +kernel
theorem dX10_isWord_130 : decode cX10_isWord 130 = .ok (.goto 5, 3) := by decide +kernel
theorem dX10_isWord_133 : decode cX10_isWord 133 = .ok (.iload 6, 2) := by decide +kernel
theorem dX10_isWord_135 : decode cX10_isWord 135 = .ok (.if_icmp .ne 7, 3) := by decide +kernel
theorem dX10_isWord_138 : decode cX10_isWord 138 = .ok (.iconst 1, 1) := by decide +kernel
theorem dX10_isWord_139 : decode cX10_isWord 139 = .ok (.goto 4, 3) := by decide +kernel
theorem dX10_isWord_142 : decode cX10_isWord 142 = .ok (.iconst 0, 1) := by decide +kernel
theorem dX10_isWord_143 : decode cX10_isWord 143 = .ok (.istore 8, 2) := by decide +kernel
theorem dX10_isWord_145 : decode cX10_isWord 145 = .ok (.iinc 9 1, 3) := by decide +kernel
theorem dX10_isWord_148 : decode cX10_isWord 148 = .ok (.goto (-90), 3) := by decide +kernel
theorem dX10_isWord_151 : decode cX10_isWord 151 = .ok (.iload 8, 2) := by decide +kernel
theorem dX10_isWord_153 : decode cX10_isWord 153 = .ok (.ireturn, 1) := by decide +kernel
theorem dX10_faults_0 : decode cX10_faults 0 = .ok (.aload_n 0, 1) := by decide +kernel
theorem dX10_faults_1 : decode cX10_faults 1 = .ok (.iload_n 1, 1) := by decide +kernel
theorem dX10_faults_2 : decode cX10_faults 2 = .ok (.putfield 135, 3) := by decide +kernel
theorem dX10_faults_5 : decode cX10_faults 5 = .ok (.iconst 0, 1) := by decide +kernel
theorem dX10_faults_6 : decode cX10_faults 6 = .ok (.ireturn, 1) := by decide +kernel
theorem dX10_takes_0 : decode cX10_takes 0 = .ok (.aload_n 0, 1) := by decide +kernel
theorem dX10_takes_1 : decode cX10_takes 1 = .ok (.getfield 118, 3) := by decide +kernel
theorem dX10_takes_4 : decode cX10_takes 4 = .ok (.iconst 2, 1) := by decide +kernel
theorem dX10_takes_5 : decode cX10_takes 5 = .ok (.if_icmp .eq 9, 3) := by decide +kernel
theorem dX10_takes_8 : decode cX10_takes 8 = .ok (.aload_n 0, 1) := by decide +kernel
theorem dX10_takes_9 : decode cX10_takes 9 = .ok (.iconst 1, 1) := by decide +kernel
theorem dX10_takes_10 : decode cX10_takes 10 = .ok (.invokevirtual 138, 3) := by decide +kernel
theorem dX10_takes_13 : decode cX10_takes 13 = .ok (.ireturn, 1) := by decide +kernel
theorem dX10_takes_14 : decode cX10_takes 14 = .ok (.aload_n 0, 1) := by decide +kernel
theorem dX10_takes_15 : decode cX10_takes 15 = .ok (.getfield 121, 3) := by decide +kernel
theorem dX10_takes_18 : decode cX10_takes 18 = .ok (.i2l, 1) := by decide +kernel
theorem dX10_takes_19 : decode cX10_takes 19 = .ok (.iload_n 1, 1) := by decide +kernel
theorem dX10_takes_20 : decode cX10_takes 20 = .ok (.i2l, 1) := by decide +kernel
theorem dX10_takes_21 : decode cX10_takes 21 = .ok (.iload_n 2, 1) := by decide +kernel
theorem dX10_takes_22 : decode cX10_takes 22 = .ok (.i2l, 1) := by decide +kernel
theorem dX10_takes_23 : decode cX10_takes 23 = .ok (.invokestatic 91, 3) := by decide +kernel
theorem dX10_takes_26 : decode cX10_takes 26 = .ok (.ifCond .ne 9, 3) := by decide +kernel
theorem dX10_takes_29 : decode cX10_takes 29 = .ok (.aload_n 0, 1) := by decide +kernel
theorem dX10_takes_30 : decode cX10_takes 30 = .ok (.iconst 2, 1) := by decide +kernel
theorem dX10_takes_31 : decode cX10_takes 31 = .ok (.invokevirtual 138, 3) := by decide +kernel
theorem dX10_takes_34 : decode cX10_takes 34 = .ok (.ireturn, 1) := by decide +kernel
theorem dX10_takes_35 : decode cX10_takes 35 = .ok (.aload_n 0, 1) := by decide +kernel
theorem dX10_takes_36 : decode cX10_takes 36 = .ok (.aload_n 0, 1) := by decide +kernel
theorem dX10_takes_37 : decode cX10_takes 37 = .ok (.getfield 121, 3) := by decide +kernel
theorem dX10_takes_40 : decode cX10_takes 40 = .ok (.putfield 141, 3) := by decide +kernel
theorem dX10_takes_43 : decode cX10_takes 43 = .ok (.aload_n 0, 1) := by decide +kernel
theorem dX10_takes_44 : decode cX10_takes 44 = .ok (.invokevirtual 144, 3) := by decide +kernel
theorem dX10_takes_47 : decode cX10_takes 47 = .ok (.iconst 1, 1) := by decide +kernel
theorem dX10_takes_48 : decode cX10_takes 48 = .ok (.ireturn, 1) := by decide +kernel
theorem dX10_stops_0 : decode cX10_stops 0 = .ok (.aload_n 0, 1) := by decide +kernel
theorem dX10_stops_1 : decode cX10_stops 1 = .ok (.getfield 118, 3) := by decide +kernel
theorem dX10_stops_4 : decode cX10_stops 4 = .ok (.iconst 3, 1) := by decide +kernel
theorem dX10_stops_5 : decode cX10_stops 5 = .ok (.if_icmp .eq 9, 3) := by decide +kernel
theorem dX10_stops_8 : decode cX10_stops 8 = .ok (.aload_n 0, 1) := by decide +kernel
theorem dX10_stops_9 : decode cX10_stops 9 = .ok (.iconst 1, 1) := by decide +kernel
theorem dX10_stops_10 : decode cX10_stops 10 = .ok (.invokevirtual 138, 3) := by decide +kernel
theorem dX10_stops_13 : decode cX10_stops 13 = .ok (.ireturn, 1) := by decide +kernel
theorem dX10_stops_14 : decode cX10_stops 14 = .ok (.aload_n 0, 1) := by decide +kernel
theorem dX10_stops_15 : decode cX10_stops 15 = .ok (.invokevirtual 144, 3) := by decide +kernel
theorem dX10_stops_18 : decode cX10_stops 18 = .ok (.iconst 1, 1) := by decide +kernel
theorem dX10_stops_19 : decode cX10_stops 19 = .ok (.ireturn, 1) := by decide +kernel
theorem dX10_takesX_0 : decode cX10_takesX 0 = .ok (.aload_n 0, 1) := by decide +kernel
theorem dX10_takesX_1 : decode cX10_takesX 1 = .ok (.iconst 0, 1) := by decide +kernel
theorem dX10_takesX_2 : decode cX10_takesX 2 = .ok (.aload_n 0, 1) := by decide +kernel
theorem dX10_takesX_3 : decode cX10_takesX 3 = .ok (.getfield 147, 3) := by decide +kernel
theorem dX10_takesX_6 : decode cX10_takesX 6 = .ok (.iconst 1, 1) := by decide +kernel
theorem dX10_takesX_7 : decode cX10_takesX 7 = .ok (.isub, 1) := by decide +kernel
theorem dX10_takesX_8 : decode cX10_takesX 8 = .ok (.invokevirtual 150, 3) := by decide +kernel
theorem dX10_takesX_11 : decode cX10_takesX 11 = .ok (.ireturn, 1) := by decide +kernel
theorem dX10_seesY_0 : decode cX10_seesY 0 = .ok (.aload_n 0, 1) := by decide +kernel
theorem dX10_seesY_1 : decode cX10_seesY 1 = .ok (.getfield 118, 3) := by decide +kernel
theorem dX10_seesY_4 : decode cX10_seesY 4 = .ok (.iconst 2, 1) := by decide +kernel
theorem dX10_seesY_5 : decode cX10_seesY 5 = .ok (.if_icmp .eq 9, 3) := by decide +kernel
theorem dX10_seesY_8 : decode cX10_seesY 8 = .ok (.aload_n 0, 1) := by decide +kernel
theorem dX10_seesY_9 : decode cX10_seesY 9 = .ok (.iconst 1, 1) := by decide +kernel
theorem dX10_seesY_10 : decode cX10_seesY 10 = .ok (.invokevirtual 138, 3) := by decide +kernel
theorem dX10_seesY_13 : decode cX10_seesY 13 = .ok (.ireturn, 1) := by decide +kernel
theorem dX10_seesY_14 : decode cX10_seesY 14 = .ok (.aload_n 0, 1) := by decide +kernel
theorem dX10_seesY_15 : decode cX10_seesY 15 = .ok (.getfield 121, 3) := by decide +kernel
theorem dX10_seesY_18 : decode cX10_seesY 18 = .ok (.i2l, 1) := by decide +kernel
theorem dX10_seesY_19 : decode cX10_seesY 19 = .ok (.lconst 0, 1) := by decide +kernel
theorem dX10_seesY_20 : decode cX10_seesY 20 = .ok (.aload_n 0, 1) := by decide +kernel
theorem dX10_seesY_21 : decode cX10_seesY 21 = .ok (.getfield 154, 3) := by decide +kernel
theorem dX10_seesY_24 : decode cX10_seesY 24 = .ok (.iconst 1, 1) := by decide +kernel
theorem dX10_seesY_25 : decode cX10_seesY 25 = .ok (.isub, 1) := by decide +kernel
theorem dX10_seesY_26 : decode cX10_seesY 26 = .ok (.i2l, 1) := by decide +kernel
theorem dX10_seesY_27 : decode cX10_seesY 27 = .ok (.invokestatic 91, 3) := by decide +kernel
theorem dX10_seesY_30 : decode cX10_seesY 30 = .ok (.ifCond .ne 9, 3) := by decide +kernel
theorem dX10_seesY_33 : decode cX10_seesY 33 = .ok (.aload_n 0, 1) := by decide +kernel
theorem dX10_seesY_34 : decode cX10_seesY 34 = .ok (.iconst 2, 1) := by decide +kernel
theorem dX10_seesY_35 : decode cX10_seesY 35 = .ok (.invokevirtual 138, 3) := by decide +kernel
theorem dX10_seesY_38 : decode cX10_seesY 38 = .ok (.ireturn, 1) := by decide +kernel
theorem dX10_seesY_39 : decode cX10_seesY 39 = .ok (.aload_n 0, 1) := by decide +kernel
theorem dX10_seesY_40 : decode cX10_seesY 40 = .ok (.aload_n 0, 1) := by decide +kernel
theorem dX10_seesY_41 : decode cX10_seesY 41 = .ok (.getfield 147, 3) := by decide +kernel
theorem dX10_seesY_44 : decode cX10_seesY 44 = .ok (.aload_n 0, 1) := by decide +kernel
theorem dX10_seesY_45 : decode cX10_seesY 45 = .ok (.getfield 121, 3) := by decide +kernel
theorem dX10_seesY_48 : decode cX10_seesY 48 = .ok (.imul, 1) := by decide +kernel
theorem dX10_seesY_49 : decode cX10_seesY 49 = .ok (.iload_n 1, 1) := by decide +kernel
theorem dX10_seesY_50 : decode cX10_seesY 50 = .ok (.iadd, 1) := by decide +kernel
theorem dX10_seesY_51 : decode cX10_seesY 51 = .ok (.putfield 157, 3) := by decide +kernel
theorem dX10_seesY_54 : decode cX10_seesY 54 = .ok (.iconst 1, 1) := by decide +kernel
theorem dX10_seesY_55 : decode cX10_seesY 55 = .ok (.ireturn, 1) := by decide +kernel
theorem dX10_readsMeadow_0 : decode cX10_readsMeadow 0 = .ok (.aload_n 0, 1) := by decide +kernel
theorem dX10_readsMeadow_1 : decode cX10_readsMeadow 1 = .ok (.bipush 109, 2) := by decide +kernel
theorem dX10_readsMeadow_3 : decode cX10_readsMeadow 3 = .ok (.bipush 101, 2) := by decide +kernel
theorem dX10_readsMeadow_5 : decode cX10_readsMeadow 5 = .ok (.bipush 97, 2) := by decide +kernel
theorem dX10_readsMeadow_7 : decode cX10_readsMeadow 7 = .ok (.bipush 100, 2) := by decide +kernel
theorem dX10_readsMeadow_9 : decode cX10_readsMeadow 9 = .ok (.bipush 111, 2) := by decide +kernel
theorem dX10_readsMeadow_11 : decode cX10_readsMeadow 11 = .ok (.bipush 119, 2) := by decide +kernel
theorem dX10_readsMeadow_13 : decode cX10_readsMeadow 13 = .ok (.invokevirtual 160, 3) := by decide +kernel
theorem dX10_readsMeadow_16 : decode cX10_readsMeadow 16 = .ok (.ifCond .ne 9, 3) := by decide +kernel
theorem dX10_readsMeadow_19 : decode cX10_readsMeadow 19 = .ok (.aload_n 0, 1) := by decide +kernel
theorem dX10_readsMeadow_20 : decode cX10_readsMeadow 20 = .ok (.iconst 1, 1) := by decide +kernel
theorem dX10_readsMeadow_21 : decode cX10_readsMeadow 21 = .ok (.invokevirtual 138, 3) := by decide +kernel
theorem dX10_readsMeadow_24 : decode cX10_readsMeadow 24 = .ok (.ireturn, 1) := by decide +kernel
theorem dX10_readsMeadow_25 : decode cX10_readsMeadow 25 = .ok (.aload_n 0, 1) := by decide +kernel
theorem dX10_readsMeadow_26 : decode cX10_readsMeadow 26 = .ok (.invokevirtual 144, 3) := by decide +kernel
theorem dX10_readsMeadow_29 : decode cX10_readsMeadow 29 = .ok (.aload_n 0, 1) := by decide +kernel
theorem dX10_readsMeadow_30 : decode cX10_readsMeadow 30 = .ok (.iconst 1, 1) := by decide +kernel
theorem dX10_readsMeadow_31 : decode cX10_readsMeadow 31 = .ok (.bipush 9, 2) := by decide +kernel
theorem dX10_readsMeadow_33 : decode cX10_readsMeadow 33 = .ok (.invokevirtual 150, 3) := by decide +kernel
theorem dX10_readsMeadow_36 : decode cX10_readsMeadow 36 = .ok (.ifCond .ne 5, 3) := by decide +kernel
theorem dX10_readsMeadow_39 : decode cX10_readsMeadow 39 = .ok (.iconst 0, 1) := by decide +kernel
theorem dX10_readsMeadow_40 : decode cX10_readsMeadow 40 = .ok (.ireturn, 1) := by decide +kernel
theorem dX10_readsMeadow_41 : decode cX10_readsMeadow 41 = .ok (.aload_n 0, 1) := by decide +kernel
theorem dX10_readsMeadow_42 : decode cX10_readsMeadow 42 = .ok (.aload_n 0, 1) := by decide +kernel
theorem dX10_readsMeadow_43 : decode cX10_readsMeadow 43 = .ok (.getfield 141, 3) := by decide +kernel
theorem dX10_readsMeadow_46 : decode cX10_readsMeadow 46 = .ok (.putfield 147, 3) := by decide +kernel
theorem dX10_readsMeadow_49 : decode cX10_readsMeadow 49 = .ok (.aload_n 0, 1) := by decide +kernel
theorem dX10_readsMeadow_50 : decode cX10_readsMeadow 50 = .ok (.getfield 118, 3) := by decide +kernel
theorem dX10_readsMeadow_53 : decode cX10_readsMeadow 53 = .ok (.iconst 2, 1) := by decide +kernel
theorem dX10_readsMeadow_54 : decode cX10_readsMeadow 54 = .ok (.if_icmp .ne 38, 3) := by decide +kernel
theorem dX10_readsMeadow_57 : decode cX10_readsMeadow 57 = .ok (.aload_n 0, 1) := by decide +kernel
theorem dX10_readsMeadow_58 : decode cX10_readsMeadow 58 = .ok (.getfield 121, 3) := by decide +kernel
theorem dX10_readsMeadow_61 : decode cX10_readsMeadow 61 = .ok (.i2l, 1) := by decide +kernel
theorem dX10_readsMeadow_62 : decode cX10_readsMeadow 62 = .ok (.lconst 1, 1) := by decide +kernel
theorem dX10_readsMeadow_63 : decode cX10_readsMeadow 63 = .ok (.ldc2_w 164, 3) := by decide +kernel
theorem dX10_readsMeadow_66 : decode cX10_readsMeadow 66 = .ok (.invokestatic 91, 3) := by decide +kernel
theorem dX10_readsMeadow_69 : decode cX10_readsMeadow 69 = .ok (.ifCond .eq 23, 3) := by decide +kernel
theorem dX10_readsMeadow_72 : decode cX10_readsMeadow 72 = .ok (.aload_n 0, 1) := by decide +kernel
theorem dX10_readsMeadow_73 : decode cX10_readsMeadow 73 = .ok (.getfield 147, 3) := by decide +kernel
theorem dX10_readsMeadow_76 : decode cX10_readsMeadow 76 = .ok (.aload_n 0, 1) := by decide +kernel
theorem dX10_readsMeadow_77 : decode cX10_readsMeadow 77 = .ok (.getfield 121, 3) := by decide +kernel
theorem dX10_readsMeadow_80 : decode cX10_readsMeadow 80 = .ok (.imul, 1) := by decide +kernel
theorem dX10_readsMeadow_81 : decode cX10_readsMeadow 81 = .ok (.bipush 40, 2) := by decide +kernel
theorem dX10_readsMeadow_83 : decode cX10_readsMeadow 83 = .ok (.if_icmp .le 9, 3) := by decide +kernel
theorem dX10_readsMeadow_86 : decode cX10_readsMeadow 86 = .ok (.aload_n 0, 1) := by decide +kernel
theorem dX10_readsMeadow_87 : decode cX10_readsMeadow 87 = .ok (.iconst 2, 1) := by decide +kernel
theorem dX10_readsMeadow_88 : decode cX10_readsMeadow 88 = .ok (.invokevirtual 138, 3) := by decide +kernel
theorem dX10_readsMeadow_91 : decode cX10_readsMeadow 91 = .ok (.ireturn, 1) := by decide +kernel
theorem dX10_readsMeadow_92 : decode cX10_readsMeadow 92 = .ok (.aload_n 0, 1) := by decide +kernel
theorem dX10_readsMeadow_93 : decode cX10_readsMeadow 93 = .ok (.iconst 1, 1) := by decide +kernel
theorem dX10_readsMeadow_94 : decode cX10_readsMeadow 94 = .ok (.bipush 9, 2) := by decide +kernel
theorem dX10_readsMeadow_96 : decode cX10_readsMeadow 96 = .ok (.invokevirtual 150, 3) := by decide +kernel
theorem dX10_readsMeadow_99 : decode cX10_readsMeadow 99 = .ok (.ifCond .ne 5, 3) := by decide +kernel
theorem dX10_readsMeadow_102 : decode cX10_readsMeadow 102 = .ok (.iconst 0, 1) := by decide +kernel
theorem dX10_readsMeadow_103 : decode cX10_readsMeadow 103 = .ok (.ireturn, 1) := by decide +kernel
theorem dX10_readsMeadow_104 : decode cX10_readsMeadow 104 = .ok (.aload_n 0, 1) := by decide +kernel
theorem dX10_readsMeadow_105 : decode cX10_readsMeadow 105 = .ok (.aload_n 0, 1) := by decide +kernel
theorem dX10_readsMeadow_106 : decode cX10_readsMeadow 106 = .ok (.getfield 141, 3) := by decide +kernel
theorem dX10_readsMeadow_109 : decode cX10_readsMeadow 109 = .ok (.putfield 154, 3) := by decide +kernel
theorem dX10_readsMeadow_112 : decode cX10_readsMeadow 112 = .ok (.aload_n 0, 1) := by decide +kernel
theorem dX10_readsMeadow_113 : decode cX10_readsMeadow 113 = .ok (.invokevirtual 166, 3) := by decide +kernel
theorem dX10_readsMeadow_116 : decode cX10_readsMeadow 116 = .ok (.ireturn, 1) := by decide +kernel
theorem dX10_readsGrass_0 : decode cX10_readsGrass 0 = .ok (.aload_n 0, 1) := by decide +kernel
theorem dX10_readsGrass_1 : decode cX10_readsGrass 1 = .ok (.getfield 170, 3) := by decide +kernel
theorem dX10_readsGrass_4 : decode cX10_readsGrass 4 = .ok (.bipush 20, 2) := by decide +kernel
theorem dX10_readsGrass_6 : decode cX10_readsGrass 6 = .ok (.if_icmp .ne 9, 3) := by decide +kernel
theorem dX10_readsGrass_9 : decode cX10_readsGrass 9 = .ok (.aload_n 0, 1) := by decide +kernel
theorem dX10_readsGrass_10 : decode cX10_readsGrass 10 = .ok (.iconst 3, 1) := by decide +kernel
theorem dX10_readsGrass_11 : decode cX10_readsGrass 11 = .ok (.invokevirtual 138, 3) := by decide +kernel
theorem dX10_readsGrass_14 : decode cX10_readsGrass 14 = .ok (.ireturn, 1) := by decide +kernel
theorem dX10_readsGrass_15 : decode cX10_readsGrass 15 = .ok (.aload_n 0, 1) := by decide +kernel
theorem dX10_readsGrass_16 : decode cX10_readsGrass 16 = .ok (.dup, 1) := by decide +kernel
theorem dX10_readsGrass_17 : decode cX10_readsGrass 17 = .ok (.getfield 170, 3) := by decide +kernel
theorem dX10_readsGrass_20 : decode cX10_readsGrass 20 = .ok (.iconst 1, 1) := by decide +kernel
theorem dX10_readsGrass_21 : decode cX10_readsGrass 21 = .ok (.iadd, 1) := by decide +kernel
theorem dX10_readsGrass_22 : decode cX10_readsGrass 22 = .ok (.putfield 170, 3) := by decide +kernel
theorem dX10_readsGrass_25 : decode cX10_readsGrass 25 = .ok (.aload_n 0, 1) := by decide +kernel
theorem dX10_readsGrass_26 : decode cX10_readsGrass 26 = .ok (.invokevirtual 144, 3) := by decide +kernel
theorem dX10_readsGrass_29 : decode cX10_readsGrass 29 = .ok (.aload_n 0, 1) := by decide +kernel
theorem dX10_readsGrass_30 : decode cX10_readsGrass 30 = .ok (.invokevirtual 173, 3) := by decide +kernel
theorem dX10_readsGrass_33 : decode cX10_readsGrass 33 = .ok (.ifCond .eq 14, 3) := by decide +kernel
theorem dX10_readsGrass_36 : decode cX10_readsGrass 36 = .ok (.aload_n 0, 1) := by decide +kernel
theorem dX10_readsGrass_37 : decode cX10_readsGrass 37 = .ok (.aload_n 0, 1) := by decide +kernel
theorem dX10_readsGrass_38 : decode cX10_readsGrass 38 = .ok (.getfield 141, 3) := by decide +kernel
theorem dX10_readsGrass_41 : decode cX10_readsGrass 41 = .ok (.invokevirtual 176, 3) := by decide +kernel
theorem dX10_readsGrass_44 : decode cX10_readsGrass 44 = .ok (.ifCond .ne 5, 3) := by decide +kernel
theorem dX10_readsGrass_47 : decode cX10_readsGrass 47 = .ok (.iconst 0, 1) := by decide +kernel
theorem dX10_readsGrass_48 : decode cX10_readsGrass 48 = .ok (.ireturn, 1) := by decide +kernel
theorem dX10_readsGrass_49 : decode cX10_readsGrass 49 = .ok (.aload_n 0, 1) := by decide +kernel
theorem dX10_readsGrass_50 : decode cX10_readsGrass 50 = .ok (.getfield 60, 3) := by decide +kernel
theorem dX10_readsGrass_53 : decode cX10_readsGrass 53 = .ok (.aload_n 0, 1) := by decide +kernel
theorem dX10_readsGrass_54 : decode cX10_readsGrass 54 = .ok (.getfield 157, 3) := by decide +kernel
theorem dX10_readsGrass_57 : decode cX10_readsGrass 57 = .ok (.baload, 1) := by decide +kernel
theorem dX10_readsGrass_58 : decode cX10_readsGrass 58 = .ok (.ifCond .eq 9, 3) := by decide +kernel
theorem dX10_readsGrass_61 : decode cX10_readsGrass 61 = .ok (.aload_n 0, 1) := by decide +kernel
theorem dX10_readsGrass_62 : decode cX10_readsGrass 62 = .ok (.iconst 4, 1) := by decide +kernel
theorem dX10_readsGrass_63 : decode cX10_readsGrass 63 = .ok (.invokevirtual 138, 3) := by decide +kernel
theorem dX10_readsGrass_66 : decode cX10_readsGrass 66 = .ok (.ireturn, 1) := by decide +kernel
theorem dX10_readsGrass_67 : decode cX10_readsGrass 67 = .ok (.aload_n 0, 1) := by decide +kernel
theorem dX10_readsGrass_68 : decode cX10_readsGrass 68 = .ok (.getfield 60, 3) := by decide +kernel
theorem dX10_readsGrass_71 : decode cX10_readsGrass 71 = .ok (.aload_n 0, 1) := by decide +kernel
theorem dX10_readsGrass_72 : decode cX10_readsGrass 72 = .ok (.getfield 157, 3) := by decide +kernel
theorem dX10_readsGrass_75 : decode cX10_readsGrass 75 = .ok (.iconst 1, 1) := by decide +kernel
theorem dX10_readsGrass_76 : decode cX10_readsGrass 76 = .ok (.bastore, 1) := by decide +kernel
theorem dX10_readsGrass_77 : decode cX10_readsGrass 77 = .ok (.aload_n 0, 1) := by decide +kernel
theorem dX10_readsGrass_78 : decode cX10_readsGrass 78 = .ok (.getfield 157, 3) := by decide +kernel
theorem dX10_readsGrass_81 : decode cX10_readsGrass 81 = .ok (.istore_n 1, 1) := by decide +kernel
theorem dX10_readsGrass_82 : decode cX10_readsGrass 82 = .ok (.aload_n 0, 1) := by decide +kernel
theorem dX10_readsGrass_83 : decode cX10_readsGrass 83 = .ok (.invokevirtual 144, 3) := by decide +kernel
theorem dX10_readsGrass_86 : decode cX10_readsGrass 86 = .ok (.aload_n 0, 1) := by decide +kernel
theorem dX10_readsGrass_87 : decode cX10_readsGrass 87 = .ok (.iconst 0, 1) := by decide +kernel
theorem dX10_readsGrass_88 : decode cX10_readsGrass 88 = .ok (.bipush 9, 2) := by decide +kernel
theorem dX10_readsGrass_90 : decode cX10_readsGrass 90 = .ok (.invokevirtual 150, 3) := by decide +kernel
theorem dX10_readsGrass_93 : decode cX10_readsGrass 93 = .ok (.ifCond .ne 5, 3) := by decide +kernel
theorem dX10_readsGrass_96 : decode cX10_readsGrass 96 = .ok (.iconst 0, 1) := by decide +kernel
theorem dX10_readsGrass_97 : decode cX10_readsGrass 97 = .ok (.ireturn, 1) := by decide +kernel
theorem dX10_readsGrass_98 : decode cX10_readsGrass 98 = .ok (.aload_n 0, 1) := by decide +kernel
theorem dX10_readsGrass_99 : decode cX10_readsGrass 99 = .ok (.getfield 51, 3) := by decide +kernel
theorem dX10_readsGrass_102 : decode cX10_readsGrass 102 = .ok (.iload_n 1, 1) := by decide +kernel
theorem dX10_readsGrass_103 : decode cX10_readsGrass 103 = .ok (.aload_n 0, 1) := by decide +kernel
theorem dX10_readsGrass_104 : decode cX10_readsGrass 104 = .ok (.getfield 141, 3) := by decide +kernel
theorem dX10_readsGrass_107 : decode cX10_readsGrass 107 = .ok (.iastore, 1) := by decide +kernel
theorem dX10_readsGrass_108 : decode cX10_readsGrass 108 = .ok (.aload_n 0, 1) := by decide +kernel
theorem dX10_readsGrass_109 : decode cX10_readsGrass 109 = .ok (.invokevirtual 166, 3) := by decide +kernel
theorem dX10_readsGrass_112 : decode cX10_readsGrass 112 = .ok (.ireturn, 1) := by decide +kernel
theorem dX10_readsTithe_0 : decode cX10_readsTithe 0 = .ok (.aload_n 0, 1) := by decide +kernel
theorem dX10_readsTithe_1 : decode cX10_readsTithe 1 = .ok (.getfield 179, 3) := by decide +kernel
theorem dX10_readsTithe_4 : decode cX10_readsTithe 4 = .ok (.bipush 20, 2) := by decide +kernel
theorem dX10_readsTithe_6 : decode cX10_readsTithe 6 = .ok (.if_icmp .ne 9, 3) := by decide +kernel
theorem dX10_readsTithe_9 : decode cX10_readsTithe 9 = .ok (.aload_n 0, 1) := by decide +kernel
theorem dX10_readsTithe_10 : decode cX10_readsTithe 10 = .ok (.iconst 3, 1) := by decide +kernel
theorem dX10_readsTithe_11 : decode cX10_readsTithe 11 = .ok (.invokevirtual 138, 3) := by decide +kernel
theorem dX10_readsTithe_14 : decode cX10_readsTithe 14 = .ok (.ireturn, 1) := by decide +kernel
theorem dX10_readsTithe_15 : decode cX10_readsTithe 15 = .ok (.aload_n 0, 1) := by decide +kernel
theorem dX10_readsTithe_16 : decode cX10_readsTithe 16 = .ok (.dup, 1) := by decide +kernel
theorem dX10_readsTithe_17 : decode cX10_readsTithe 17 = .ok (.getfield 179, 3) := by decide +kernel
theorem dX10_readsTithe_20 : decode cX10_readsTithe 20 = .ok (.iconst 1, 1) := by decide +kernel
theorem dX10_readsTithe_21 : decode cX10_readsTithe 21 = .ok (.iadd, 1) := by decide +kernel
theorem dX10_readsTithe_22 : decode cX10_readsTithe 22 = .ok (.putfield 179, 3) := by decide +kernel
theorem dX10_readsTithe_25 : decode cX10_readsTithe 25 = .ok (.aload_n 0, 1) := by decide +kernel
theorem dX10_readsTithe_26 : decode cX10_readsTithe 26 = .ok (.invokevirtual 144, 3) := by decide +kernel
theorem dX10_readsTithe_29 : decode cX10_readsTithe 29 = .ok (.aload_n 0, 1) := by decide +kernel
theorem dX10_readsTithe_30 : decode cX10_readsTithe 30 = .ok (.invokevirtual 173, 3) := by decide +kernel
theorem dX10_readsTithe_33 : decode cX10_readsTithe 33 = .ok (.ifCond .eq 14, 3) := by decide +kernel
theorem dX10_readsTithe_36 : decode cX10_readsTithe 36 = .ok (.aload_n 0, 1) := by decide +kernel
theorem dX10_readsTithe_37 : decode cX10_readsTithe 37 = .ok (.aload_n 0, 1) := by decide +kernel
theorem dX10_readsTithe_38 : decode cX10_readsTithe 38 = .ok (.getfield 141, 3) := by decide +kernel
theorem dX10_readsTithe_41 : decode cX10_readsTithe 41 = .ok (.invokevirtual 176, 3) := by decide +kernel
theorem dX10_readsTithe_44 : decode cX10_readsTithe 44 = .ok (.ifCond .ne 5, 3) := by decide +kernel
theorem dX10_readsTithe_47 : decode cX10_readsTithe 47 = .ok (.iconst 0, 1) := by decide +kernel
theorem dX10_readsTithe_48 : decode cX10_readsTithe 48 = .ok (.ireturn, 1) := by decide +kernel
theorem dX10_readsTithe_49 : decode cX10_readsTithe 49 = .ok (.aload_n 0, 1) := by decide +kernel
theorem dX10_readsTithe_50 : decode cX10_readsTithe 50 = .ok (.getfield 63, 3) := by decide +kernel
theorem dX10_readsTithe_53 : decode cX10_readsTithe 53 = .ok (.aload_n 0, 1) := by decide +kernel
theorem dX10_readsTithe_54 : decode cX10_readsTithe 54 = .ok (.getfield 157, 3) := by decide +kernel
theorem dX10_readsTithe_57 : decode cX10_readsTithe 57 = .ok (.baload, 1) := by decide +kernel
theorem dX10_readsTithe_58 : decode cX10_readsTithe 58 = .ok (.ifCond .eq 9, 3) := by decide +kernel
theorem dX10_readsTithe_61 : decode cX10_readsTithe 61 = .ok (.aload_n 0, 1) := by decide +kernel
theorem dX10_readsTithe_62 : decode cX10_readsTithe 62 = .ok (.iconst 4, 1) := by decide +kernel
theorem dX10_readsTithe_63 : decode cX10_readsTithe 63 = .ok (.invokevirtual 138, 3) := by decide +kernel
theorem dX10_readsTithe_66 : decode cX10_readsTithe 66 = .ok (.ireturn, 1) := by decide +kernel
theorem dX10_readsTithe_67 : decode cX10_readsTithe 67 = .ok (.aload_n 0, 1) := by decide +kernel
theorem dX10_readsTithe_68 : decode cX10_readsTithe 68 = .ok (.getfield 63, 3) := by decide +kernel
theorem dX10_readsTithe_71 : decode cX10_readsTithe 71 = .ok (.aload_n 0, 1) := by decide +kernel
theorem dX10_readsTithe_72 : decode cX10_readsTithe 72 = .ok (.getfield 157, 3) := by decide +kernel
theorem dX10_readsTithe_75 : decode cX10_readsTithe 75 = .ok (.iconst 1, 1) := by decide +kernel
theorem dX10_readsTithe_76 : decode cX10_readsTithe 76 = .ok (.bastore, 1) := by decide +kernel
theorem dX10_readsTithe_77 : decode cX10_readsTithe 77 = .ok (.aload_n 0, 1) := by decide +kernel
theorem dX10_readsTithe_78 : decode cX10_readsTithe 78 = .ok (.getfield 157, 3) := by decide +kernel
theorem dX10_readsTithe_81 : decode cX10_readsTithe 81 = .ok (.istore_n 1, 1) := by decide +kernel
theorem dX10_readsTithe_82 : decode cX10_readsTithe 82 = .ok (.aload_n 0, 1) := by decide +kernel
theorem dX10_readsTithe_83 : decode cX10_readsTithe 83 = .ok (.invokevirtual 144, 3) := by decide +kernel
theorem dX10_readsTithe_86 : decode cX10_readsTithe 86 = .ok (.aload_n 0, 1) := by decide +kernel
theorem dX10_readsTithe_87 : decode cX10_readsTithe 87 = .ok (.iconst 0, 1) := by decide +kernel
theorem dX10_readsTithe_88 : decode cX10_readsTithe 88 = .ok (.bipush 99, 2) := by decide +kernel
theorem dX10_readsTithe_90 : decode cX10_readsTithe 90 = .ok (.invokevirtual 150, 3) := by decide +kernel
theorem dX10_readsTithe_93 : decode cX10_readsTithe 93 = .ok (.ifCond .ne 5, 3) := by decide +kernel
theorem dX10_readsTithe_96 : decode cX10_readsTithe 96 = .ok (.iconst 0, 1) := by decide +kernel
theorem dX10_readsTithe_97 : decode cX10_readsTithe 97 = .ok (.ireturn, 1) := by decide +kernel
theorem dX10_readsTithe_98 : decode cX10_readsTithe 98 = .ok (.aload_n 0, 1) := by decide +kernel
theorem dX10_readsTithe_99 : decode cX10_readsTithe 99 = .ok (.getfield 54, 3) := by decide +kernel
theorem dX10_readsTithe_102 : decode cX10_readsTithe 102 = .ok (.iload_n 1, 1) := by decide +kernel
theorem dX10_readsTithe_103 : decode cX10_readsTithe 103 = .ok (.aload_n 0, 1) := by decide +kernel
theorem dX10_readsTithe_104 : decode cX10_readsTithe 104 = .ok (.getfield 141, 3) := by decide +kernel
theorem dX10_readsTithe_107 : decode cX10_readsTithe 107 = .ok (.iastore, 1) := by decide +kernel
theorem dX10_readsTithe_108 : decode cX10_readsTithe 108 = .ok (.aload_n 0, 1) := by decide +kernel
theorem dX10_readsTithe_109 : decode cX10_readsTithe 109 = .ok (.invokevirtual 166, 3) := by decide +kernel
theorem dX10_readsTithe_112 : decode cX10_readsTithe 112 = .ok (.ireturn, 1) := by decide +kernel
theorem dX10_readsThing_0 : decode cX10_readsThing 0 = .ok (.aload_n 0, 1) := by decide +kernel
theorem dX10_readsThing_1 : decode cX10_readsThing 1 = .ok (.getfield 182, 3) := by decide +kernel
theorem dX10_readsThing_4 : decode cX10_readsThing 4 = .ok (.bipush 15, 2) := by decide +kernel
theorem dX10_readsThing_6 : decode cX10_readsThing 6 = .ok (.if_icmp .ne 9, 3) := by decide +kernel
theorem dX10_readsThing_9 : decode cX10_readsThing 9 = .ok (.aload_n 0, 1) := by decide +kernel
theorem dX10_readsThing_10 : decode cX10_readsThing 10 = .ok (.iconst 3, 1) := by decide +kernel
theorem dX10_readsThing_11 : decode cX10_readsThing 11 = .ok (.invokevirtual 138, 3) := by decide +kernel
theorem dX10_readsThing_14 : decode cX10_readsThing 14 = .ok (.ireturn, 1) := by decide +kernel
theorem dX10_readsThing_15 : decode cX10_readsThing 15 = .ok (.aload_n 0, 1) := by decide +kernel
theorem dX10_readsThing_16 : decode cX10_readsThing 16 = .ok (.dup, 1) := by decide +kernel
theorem dX10_readsThing_17 : decode cX10_readsThing 17 = .ok (.getfield 182, 3) := by decide +kernel
theorem dX10_readsThing_20 : decode cX10_readsThing 20 = .ok (.iconst 1, 1) := by decide +kernel
theorem dX10_readsThing_21 : decode cX10_readsThing 21 = .ok (.iadd, 1) := by decide +kernel
theorem dX10_readsThing_22 : decode cX10_readsThing 22 = .ok (.putfield 182, 3) := by decide +kernel
theorem dX10_readsThing_25 : decode cX10_readsThing 25 = .ok (.aload_n 0, 1) := by decide +kernel
theorem dX10_readsThing_26 : decode cX10_readsThing 26 = .ok (.invokevirtual 144, 3) := by decide +kernel
theorem dX10_readsThing_29 : decode cX10_readsThing 29 = .ok (.aload_n 0, 1) := by decide +kernel
theorem dX10_readsThing_30 : decode cX10_readsThing 30 = .ok (.bipush 115, 2) := by decide +kernel
theorem dX10_readsThing_32 : decode cX10_readsThing 32 = .ok (.bipush 104, 2) := by decide +kernel
theorem dX10_readsThing_34 : decode cX10_readsThing 34 = .ok (.bipush 97, 2) := by decide +kernel
theorem dX10_readsThing_36 : decode cX10_readsThing 36 = .ok (.bipush 100, 2) := by decide +kernel
theorem dX10_readsThing_38 : decode cX10_readsThing 38 = .ok (.bipush 101, 2) := by decide +kernel
theorem dX10_readsThing_40 : decode cX10_readsThing 40 = .ok (.iconst 0, 1) := by decide +kernel
theorem dX10_readsThing_41 : decode cX10_readsThing 41 = .ok (.invokevirtual 160, 3) := by decide +kernel
theorem dX10_readsThing_44 : decode cX10_readsThing 44 = .ok (.ifCond .eq 7, 3) := by decide +kernel
theorem dX10_readsThing_47 : decode cX10_readsThing 47 = .ok (.iconst 0, 1) := by decide +kernel
theorem dX10_readsThing_48 : decode cX10_readsThing 48 = .ok (.goto 48, 3) := by decide +kernel
theorem dX10_readsThing_51 : decode cX10_readsThing 51 = .ok (.aload_n 0, 1) := by decide +kernel
theorem dX10_readsThing_52 : decode cX10_readsThing 52 = .ok (.bipush 119, 2) := by decide +kernel
theorem dX10_readsThing_54 : decode cX10_readsThing 54 = .ok (.bipush 97, 2) := by decide +kernel
theorem dX10_readsThing_56 : decode cX10_readsThing 56 = .ok (.bipush 116, 2) := by decide +kernel
theorem dX10_readsThing_58 : decode cX10_readsThing 58 = .ok (.bipush 101, 2) := by decide +kernel
theorem dX10_readsThing_60 : decode cX10_readsThing 60 = .ok (.bipush 114, 2) := by decide +kernel
theorem dX10_readsThing_62 : decode cX10_readsThing 62 = .ok (.iconst 0, 1) := by decide +kernel
theorem dX10_readsThing_63 : decode cX10_readsThing 63 = .ok (.invokevirtual 160, 3) := by decide +kernel
theorem dX10_readsThing_66 : decode cX10_readsThing 66 = .ok (.ifCond .eq 7, 3) := by decide +kernel
theorem dX10_readsThing_69 : decode cX10_readsThing 69 = .ok (.iconst 1, 1) := by decide +kernel
theorem dX10_readsThing_70 : decode cX10_readsThing 70 = .ok (.goto 26, 3) := by decide +kernel
theorem dX10_readsThing_73 : decode cX10_readsThing 73 = .ok (.aload_n 0, 1) := by decide +kernel
theorem dX10_readsThing_74 : decode cX10_readsThing 74 = .ok (.bipush 102, 2) := by decide +kernel
theorem dX10_readsThing_76 : decode cX10_readsThing 76 = .ok (.bipush 108, 2) := by decide +kernel
theorem dX10_readsThing_78 : decode cX10_readsThing 78 = .ok (.bipush 105, 2) := by decide +kernel
theorem dX10_readsThing_80 : decode cX10_readsThing 80 = .ok (.bipush 101, 2) := by decide +kernel
theorem dX10_readsThing_82 : decode cX10_readsThing 82 = .ok (.bipush 115, 2) := by decide +kernel
theorem dX10_readsThing_84 : decode cX10_readsThing 84 = .ok (.iconst 0, 1) := by decide +kernel
theorem dX10_readsThing_85 : decode cX10_readsThing 85 = .ok (.invokevirtual 160, 3) := by decide +kernel
theorem dX10_readsThing_88 : decode cX10_readsThing 88 = .ok (.ifCond .eq 7, 3) := by decide +kernel
theorem dX10_readsThing_91 : decode cX10_readsThing 91 = .ok (.iconst 2, 1) := by decide +kernel
theorem dX10_readsThing_92 : decode cX10_readsThing 92 = .ok (.goto 4, 3) := by decide +kernel
theorem dX10_readsThing_95 : decode cX10_readsThing 95 = .ok (.iconst (-1), 1) := by decide +kernel
theorem dX10_readsThing_96 : decode cX10_readsThing 96 = .ok (.istore_n 1, 1) := by decide +kernel
theorem dX10_readsThing_97 : decode cX10_readsThing 97 = .ok (.iload_n 1, 1) := by decide +kernel
theorem dX10_readsThing_98 : decode cX10_readsThing 98 = .ok (.iconst (-1), 1) := by decide +kernel
theorem dX10_readsThing_99 : decode cX10_readsThing 99 = .ok (.if_icmp .ne 9, 3) := by decide +kernel
theorem dX10_readsThing_102 : decode cX10_readsThing 102 = .ok (.aload_n 0, 1) := by decide +kernel
theorem dX10_readsThing_103 : decode cX10_readsThing 103 = .ok (.iconst 1, 1) := by decide +kernel
theorem dX10_readsThing_104 : decode cX10_readsThing 104 = .ok (.invokevirtual 138, 3) := by decide +kernel
theorem dX10_readsThing_107 : decode cX10_readsThing 107 = .ok (.ireturn, 1) := by decide +kernel
theorem dX10_readsThing_108 : decode cX10_readsThing 108 = .ok (.aload_n 0, 1) := by decide +kernel
theorem dX10_readsThing_109 : decode cX10_readsThing 109 = .ok (.invokevirtual 144, 3) := by decide +kernel
theorem dX10_readsThing_112 : decode cX10_readsThing 112 = .ok (.aload_n 0, 1) := by decide +kernel
theorem dX10_readsThing_113 : decode cX10_readsThing 113 = .ok (.invokevirtual 173, 3) := by decide +kernel
theorem dX10_readsThing_116 : decode cX10_readsThing 116 = .ok (.ifCond .eq 14, 3) := by decide +kernel
theorem dX10_readsThing_119 : decode cX10_readsThing 119 = .ok (.aload_n 0, 1) := by decide +kernel
theorem dX10_readsThing_120 : decode cX10_readsThing 120 = .ok (.aload_n 0, 1) := by decide +kernel
theorem dX10_readsThing_121 : decode cX10_readsThing 121 = .ok (.getfield 141, 3) := by decide +kernel
theorem dX10_readsThing_124 : decode cX10_readsThing 124 = .ok (.invokevirtual 176, 3) := by decide +kernel
theorem dX10_readsThing_127 : decode cX10_readsThing 127 = .ok (.ifCond .ne 5, 3) := by decide +kernel
theorem dX10_readsThing_130 : decode cX10_readsThing 130 = .ok (.iconst 0, 1) := by decide +kernel
theorem dX10_readsThing_131 : decode cX10_readsThing 131 = .ok (.ireturn, 1) := by decide +kernel
theorem dX10_readsThing_132 : decode cX10_readsThing 132 = .ok (.aload_n 0, 1) := by decide +kernel
theorem dX10_readsThing_133 : decode cX10_readsThing 133 = .ok (.getfield 57, 3) := by decide +kernel
theorem dX10_readsThing_136 : decode cX10_readsThing 136 = .ok (.aload_n 0, 1) := by decide +kernel
theorem dX10_readsThing_137 : decode cX10_readsThing 137 = .ok (.getfield 157, 3) := by decide +kernel
theorem dX10_readsThing_140 : decode cX10_readsThing 140 = .ok (.iaload, 1) := by decide +kernel
theorem dX10_readsThing_141 : decode cX10_readsThing 141 = .ok (.iload_n 1, 1) := by decide +kernel
theorem dX10_readsThing_142 : decode cX10_readsThing 142 = .ok (.ishr, 1) := by decide +kernel
theorem dX10_readsThing_143 : decode cX10_readsThing 143 = .ok (.iconst 1, 1) := by decide +kernel
theorem dX10_readsThing_144 : decode cX10_readsThing 144 = .ok (.iand, 1) := by decide +kernel
theorem dX10_readsThing_145 : decode cX10_readsThing 145 = .ok (.iconst 1, 1) := by decide +kernel
theorem dX10_readsThing_146 : decode cX10_readsThing 146 = .ok (.if_icmp .ne 9, 3) := by decide +kernel
theorem dX10_readsThing_149 : decode cX10_readsThing 149 = .ok (.aload_n 0, 1) := by decide +kernel
theorem dX10_readsThing_150 : decode cX10_readsThing 150 = .ok (.iconst 4, 1) := by decide +kernel
theorem dX10_readsThing_151 : decode cX10_readsThing 151 = .ok (.invokevirtual 138, 3) := by decide +kernel
theorem dX10_readsThing_154 : decode cX10_readsThing 154 = .ok (.ireturn, 1) := by decide +kernel
theorem dX10_readsThing_155 : decode cX10_readsThing 155 = .ok (.aload_n 0, 1) := by decide +kernel
theorem dX10_readsThing_156 : decode cX10_readsThing 156 = .ok (.getfield 57, 3) := by decide +kernel
theorem dX10_readsThing_159 : decode cX10_readsThing 159 = .ok (.aload_n 0, 1) := by decide +kernel
theorem dX10_readsThing_160 : decode cX10_readsThing 160 = .ok (.getfield 157, 3) := by decide +kernel
theorem dX10_readsThing_163 : decode cX10_readsThing 163 = .ok (.dup2, 1) := by decide +kernel
theorem dX10_readsThing_164 : decode cX10_readsThing 164 = .ok (.iaload, 1) := by decide +kernel
theorem dX10_readsThing_165 : decode cX10_readsThing 165 = .ok (.iconst 1, 1) := by decide +kernel
theorem dX10_readsThing_166 : decode cX10_readsThing 166 = .ok (.iload_n 1, 1) := by decide +kernel
theorem dX10_readsThing_167 : decode cX10_readsThing 167 = .ok (.ishl, 1) := by decide +kernel
theorem dX10_readsThing_168 : decode cX10_readsThing 168 = .ok (.ior, 1) := by decide +kernel
theorem dX10_readsThing_169 : decode cX10_readsThing 169 = .ok (.iastore, 1) := by decide +kernel
theorem dX10_readsThing_170 : decode cX10_readsThing 170 = .ok (.aload_n 0, 1) := by decide +kernel
theorem dX10_readsThing_171 : decode cX10_readsThing 171 = .ok (.invokevirtual 144, 3) := by decide +kernel
theorem dX10_readsThing_174 : decode cX10_readsThing 174 = .ok (.aload_n 0, 1) := by decide +kernel
theorem dX10_readsThing_175 : decode cX10_readsThing 175 = .ok (.invokevirtual 166, 3) := by decide +kernel
theorem dX10_readsThing_178 : decode cX10_readsThing 178 = .ok (.ireturn, 1) := by decide +kernel
theorem dX10_readsCow_0 : decode cX10_readsCow 0 = .ok (.aload_n 0, 1) := by decide +kernel
theorem dX10_readsCow_1 : decode cX10_readsCow 1 = .ok (.getfield 185, 3) := by decide +kernel
theorem dX10_readsCow_4 : decode cX10_readsCow 4 = .ok (.ifCond .eq 9, 3) := by decide +kernel
theorem dX10_readsCow_7 : decode cX10_readsCow 7 = .ok (.aload_n 0, 1) := by decide +kernel
theorem dX10_readsCow_8 : decode cX10_readsCow 8 = .ok (.iconst 3, 1) := by decide +kernel
theorem dX10_readsCow_9 : decode cX10_readsCow 9 = .ok (.invokevirtual 138, 3) := by decide +kernel
theorem dX10_readsCow_12 : decode cX10_readsCow 12 = .ok (.ireturn, 1) := by decide +kernel
theorem dX10_readsCow_13 : decode cX10_readsCow 13 = .ok (.aload_n 0, 1) := by decide +kernel
theorem dX10_readsCow_14 : decode cX10_readsCow 14 = .ok (.iconst 1, 1) := by decide +kernel
theorem dX10_readsCow_15 : decode cX10_readsCow 15 = .ok (.putfield 185, 3) := by decide +kernel
theorem dX10_readsCow_18 : decode cX10_readsCow 18 = .ok (.aload_n 0, 1) := by decide +kernel
theorem dX10_readsCow_19 : decode cX10_readsCow 19 = .ok (.invokevirtual 144, 3) := by decide +kernel
theorem dX10_readsCow_22 : decode cX10_readsCow 22 = .ok (.aload_n 0, 1) := by decide +kernel
theorem dX10_readsCow_23 : decode cX10_readsCow 23 = .ok (.invokevirtual 173, 3) := by decide +kernel
theorem dX10_readsCow_26 : decode cX10_readsCow 26 = .ok (.ifCond .eq 14, 3) := by decide +kernel
theorem dX10_readsCow_29 : decode cX10_readsCow 29 = .ok (.aload_n 0, 1) := by decide +kernel
theorem dX10_readsCow_30 : decode cX10_readsCow 30 = .ok (.aload_n 0, 1) := by decide +kernel
theorem dX10_readsCow_31 : decode cX10_readsCow 31 = .ok (.getfield 141, 3) := by decide +kernel
theorem dX10_readsCow_34 : decode cX10_readsCow 34 = .ok (.invokevirtual 176, 3) := by decide +kernel
theorem dX10_readsCow_37 : decode cX10_readsCow 37 = .ok (.ifCond .ne 5, 3) := by decide +kernel
theorem dX10_readsCow_40 : decode cX10_readsCow 40 = .ok (.iconst 0, 1) := by decide +kernel
theorem dX10_readsCow_41 : decode cX10_readsCow 41 = .ok (.ireturn, 1) := by decide +kernel
theorem dX10_readsCow_42 : decode cX10_readsCow 42 = .ok (.aload_n 0, 1) := by decide +kernel
theorem dX10_readsCow_43 : decode cX10_readsCow 43 = .ok (.aload_n 0, 1) := by decide +kernel
theorem dX10_readsCow_44 : decode cX10_readsCow 44 = .ok (.getfield 157, 3) := by decide +kernel
theorem dX10_readsCow_47 : decode cX10_readsCow 47 = .ok (.putfield 189, 3) := by decide +kernel
theorem dX10_readsCow_50 : decode cX10_readsCow 50 = .ok (.aload_n 0, 1) := by decide +kernel
theorem dX10_readsCow_51 : decode cX10_readsCow 51 = .ok (.invokevirtual 144, 3) := by decide +kernel
theorem dX10_readsCow_54 : decode cX10_readsCow 54 = .ok (.aload_n 0, 1) := by decide +kernel
theorem dX10_readsCow_55 : decode cX10_readsCow 55 = .ok (.iconst 1, 1) := by decide +kernel
theorem dX10_readsCow_56 : decode cX10_readsCow 56 = .ok (.bipush 8, 2) := by decide +kernel
theorem dX10_readsCow_58 : decode cX10_readsCow 58 = .ok (.invokevirtual 150, 3) := by decide +kernel
theorem dX10_readsCow_61 : decode cX10_readsCow 61 = .ok (.ifCond .ne 5, 3) := by decide +kernel
theorem dX10_readsCow_64 : decode cX10_readsCow 64 = .ok (.iconst 0, 1) := by decide +kernel
theorem dX10_readsCow_65 : decode cX10_readsCow 65 = .ok (.ireturn, 1) := by decide +kernel
theorem dX10_readsCow_66 : decode cX10_readsCow 66 = .ok (.aload_n 0, 1) := by decide +kernel
theorem dX10_readsCow_67 : decode cX10_readsCow 67 = .ok (.aload_n 0, 1) := by decide +kernel
theorem dX10_readsCow_68 : decode cX10_readsCow 68 = .ok (.getfield 141, 3) := by decide +kernel
theorem dX10_readsCow_71 : decode cX10_readsCow 71 = .ok (.putfield 192, 3) := by decide +kernel
theorem dX10_readsCow_74 : decode cX10_readsCow 74 = .ok (.aload_n 0, 1) := by decide +kernel
theorem dX10_readsCow_75 : decode cX10_readsCow 75 = .ok (.invokevirtual 166, 3) := by decide +kernel
theorem dX10_readsCow_78 : decode cX10_readsCow 78 = .ok (.ireturn, 1) := by decide +kernel
theorem dX10_readsLikes_0 : decode cX10_readsLikes 0 = .ok (.aload_n 0, 1) := by decide +kernel
theorem dX10_readsLikes_1 : decode cX10_readsLikes 1 = .ok (.getfield 195, 3) := by decide +kernel
theorem dX10_readsLikes_4 : decode cX10_readsLikes 4 = .ok (.ifCond .eq 9, 3) := by decide +kernel
theorem dX10_readsLikes_7 : decode cX10_readsLikes 7 = .ok (.aload_n 0, 1) := by decide +kernel
theorem dX10_readsLikes_8 : decode cX10_readsLikes 8 = .ok (.iconst 3, 1) := by decide +kernel
theorem dX10_readsLikes_9 : decode cX10_readsLikes 9 = .ok (.invokevirtual 138, 3) := by decide +kernel
theorem dX10_readsLikes_12 : decode cX10_readsLikes 12 = .ok (.ireturn, 1) := by decide +kernel
theorem dX10_readsLikes_13 : decode cX10_readsLikes 13 = .ok (.aload_n 0, 1) := by decide +kernel
theorem dX10_readsLikes_14 : decode cX10_readsLikes 14 = .ok (.iconst 1, 1) := by decide +kernel
theorem dX10_readsLikes_15 : decode cX10_readsLikes 15 = .ok (.putfield 195, 3) := by decide +kernel
theorem dX10_readsLikes_18 : decode cX10_readsLikes 18 = .ok (.aload_n 0, 1) := by decide +kernel
theorem dX10_readsLikes_19 : decode cX10_readsLikes 19 = .ok (.invokevirtual 144, 3) := by decide +kernel
theorem dX10_readsLikes_22 : decode cX10_readsLikes 22 = .ok (.iconst 0, 1) := by decide +kernel
theorem dX10_readsLikes_23 : decode cX10_readsLikes 23 = .ok (.istore_n 1, 1) := by decide +kernel
theorem dX10_readsLikes_24 : decode cX10_readsLikes 24 = .ok (.iload_n 1, 1) := by decide +kernel
theorem dX10_readsLikes_25 : decode cX10_readsLikes 25 = .ok (.iconst 4, 1) := by decide +kernel
theorem dX10_readsLikes_26 : decode cX10_readsLikes 26 = .ok (.if_icmp .ge 31, 3) := by decide +kernel
theorem dX10_readsLikes_29 : decode cX10_readsLikes 29 = .ok (.aload_n 0, 1) := by decide +kernel
theorem dX10_readsLikes_30 : decode cX10_readsLikes 30 = .ok (.iconst 0, 1) := by decide +kernel
theorem dX10_readsLikes_31 : decode cX10_readsLikes 31 = .ok (.bipush 9, 2) := by decide +kernel
theorem dX10_readsLikes_33 : decode cX10_readsLikes 33 = .ok (.invokevirtual 150, 3) := by decide +kernel
theorem dX10_readsLikes_36 : decode cX10_readsLikes 36 = .ok (.ifCond .ne 5, 3) := by decide +kernel
theorem dX10_readsLikes_39 : decode cX10_readsLikes 39 = .ok (.iconst 0, 1) := by decide +kernel
theorem dX10_readsLikes_40 : decode cX10_readsLikes 40 = .ok (.ireturn, 1) := by decide +kernel
theorem dX10_readsLikes_41 : decode cX10_readsLikes 41 = .ok (.aload_n 0, 1) := by decide +kernel
theorem dX10_readsLikes_42 : decode cX10_readsLikes 42 = .ok (.getfield 66, 3) := by decide +kernel
theorem dX10_readsLikes_45 : decode cX10_readsLikes 45 = .ok (.iload_n 1, 1) := by decide +kernel
theorem dX10_readsLikes_46 : decode cX10_readsLikes 46 = .ok (.aload_n 0, 1) := by decide +kernel
theorem dX10_readsLikes_47 : decode cX10_readsLikes 47 = .ok (.getfield 141, 3) := by decide +kernel
theorem dX10_readsLikes_50 : decode cX10_readsLikes 50 = .ok (.iastore, 1) := by decide +kernel
theorem dX10_readsLikes_51 : decode cX10_readsLikes 51 = .ok (.iinc 1 1, 3) := by decide +kernel
theorem dX10_readsLikes_54 : decode cX10_readsLikes 54 = .ok (.goto (-30), 3) := by decide +kernel
theorem dX10_readsLikes_57 : decode cX10_readsLikes 57 = .ok (.aload_n 0, 1) := by decide +kernel
theorem dX10_readsLikes_58 : decode cX10_readsLikes 58 = .ok (.invokevirtual 166, 3) := by decide +kernel
theorem dX10_readsLikes_61 : decode cX10_readsLikes 61 = .ok (.ireturn, 1) := by decide +kernel
theorem dX10_readsItem_0 : decode cX10_readsItem 0 = .ok (.aload_n 0, 1) := by decide +kernel
theorem dX10_readsItem_1 : decode cX10_readsItem 1 = .ok (.bipush 103, 2) := by decide +kernel
theorem dX10_readsItem_3 : decode cX10_readsItem 3 = .ok (.bipush 114, 2) := by decide +kernel
theorem dX10_readsItem_5 : decode cX10_readsItem 5 = .ok (.bipush 97, 2) := by decide +kernel
theorem dX10_readsItem_7 : decode cX10_readsItem 7 = .ok (.bipush 115, 2) := by decide +kernel
theorem dX10_readsItem_9 : decode cX10_readsItem 9 = .ok (.bipush 115, 2) := by decide +kernel
theorem dX10_readsItem_11 : decode cX10_readsItem 11 = .ok (.iconst 0, 1) := by decide +kernel
theorem dX10_readsItem_12 : decode cX10_readsItem 12 = .ok (.invokevirtual 160, 3) := by decide +kernel
theorem dX10_readsItem_15 : decode cX10_readsItem 15 = .ok (.ifCond .eq 8, 3) := by decide +kernel
theorem dX10_readsItem_18 : decode cX10_readsItem 18 = .ok (.aload_n 0, 1) := by decide +kernel
theorem dX10_readsItem_19 : decode cX10_readsItem 19 = .ok (.invokevirtual 198, 3) := by decide +kernel
theorem dX10_readsItem_22 : decode cX10_readsItem 22 = .ok (.ireturn, 1) := by decide +kernel
theorem dX10_readsItem_23 : decode cX10_readsItem 23 = .ok (.aload_n 0, 1) := by decide +kernel
theorem dX10_readsItem_24 : decode cX10_readsItem 24 = .ok (.bipush 116, 2) := by decide +kernel
theorem dX10_readsItem_26 : decode cX10_readsItem 26 = .ok (.bipush 104, 2) := by decide +kernel
theorem dX10_readsItem_28 : decode cX10_readsItem 28 = .ok (.bipush 105, 2) := by decide +kernel
theorem dX10_readsItem_30 : decode cX10_readsItem 30 = .ok (.bipush 110, 2) := by decide +kernel
theorem dX10_readsItem_32 : decode cX10_readsItem 32 = .ok (.bipush 103, 2) := by decide +kernel
theorem dX10_readsItem_34 : decode cX10_readsItem 34 = .ok (.iconst 0, 1) := by decide +kernel
theorem dX10_readsItem_35 : decode cX10_readsItem 35 = .ok (.invokevirtual 160, 3) := by decide +kernel
theorem dX10_readsItem_38 : decode cX10_readsItem 38 = .ok (.ifCond .eq 8, 3) := by decide +kernel
theorem dX10_readsItem_41 : decode cX10_readsItem 41 = .ok (.aload_n 0, 1) := by decide +kernel
theorem dX10_readsItem_42 : decode cX10_readsItem 42 = .ok (.invokevirtual 201, 3) := by decide +kernel
theorem dX10_readsItem_45 : decode cX10_readsItem 45 = .ok (.ireturn, 1) := by decide +kernel
theorem dX10_readsItem_46 : decode cX10_readsItem 46 = .ok (.aload_n 0, 1) := by decide +kernel
theorem dX10_readsItem_47 : decode cX10_readsItem 47 = .ok (.bipush 116, 2) := by decide +kernel
theorem dX10_readsItem_49 : decode cX10_readsItem 49 = .ok (.bipush 105, 2) := by decide +kernel
theorem dX10_readsItem_51 : decode cX10_readsItem 51 = .ok (.bipush 116, 2) := by decide +kernel
theorem dX10_readsItem_53 : decode cX10_readsItem 53 = .ok (.bipush 104, 2) := by decide +kernel
theorem dX10_readsItem_55 : decode cX10_readsItem 55 = .ok (.bipush 101, 2) := by decide +kernel
theorem dX10_readsItem_57 : decode cX10_readsItem 57 = .ok (.iconst 0, 1) := by decide +kernel
theorem dX10_readsItem_58 : decode cX10_readsItem 58 = .ok (.invokevirtual 160, 3) := by decide +kernel
theorem dX10_readsItem_61 : decode cX10_readsItem 61 = .ok (.ifCond .eq 8, 3) := by decide +kernel
theorem dX10_readsItem_64 : decode cX10_readsItem 64 = .ok (.aload_n 0, 1) := by decide +kernel
theorem dX10_readsItem_65 : decode cX10_readsItem 65 = .ok (.invokevirtual 204, 3) := by decide +kernel
theorem dX10_readsItem_68 : decode cX10_readsItem 68 = .ok (.ireturn, 1) := by decide +kernel
theorem dX10_readsItem_69 : decode cX10_readsItem 69 = .ok (.aload_n 0, 1) := by decide +kernel
theorem dX10_readsItem_70 : decode cX10_readsItem 70 = .ok (.bipush 99, 2) := by decide +kernel
theorem dX10_readsItem_72 : decode cX10_readsItem 72 = .ok (.bipush 111, 2) := by decide +kernel
theorem dX10_readsItem_74 : decode cX10_readsItem 74 = .ok (.bipush 119, 2) := by decide +kernel
theorem dX10_readsItem_76 : decode cX10_readsItem 76 = .ok (.iconst 0, 1) := by decide +kernel
theorem dX10_readsItem_77 : decode cX10_readsItem 77 = .ok (.iconst 0, 1) := by decide +kernel
theorem dX10_readsItem_78 : decode cX10_readsItem 78 = .ok (.iconst 0, 1) := by decide +kernel
theorem dX10_readsItem_79 : decode cX10_readsItem 79 = .ok (.invokevirtual 160, 3) := by decide +kernel
theorem dX10_readsItem_82 : decode cX10_readsItem 82 = .ok (.ifCond .eq 8, 3) := by decide +kernel
theorem dX10_readsItem_85 : decode cX10_readsItem 85 = .ok (.aload_n 0, 1) := by decide +kernel
theorem dX10_readsItem_86 : decode cX10_readsItem 86 = .ok (.invokevirtual 207, 3) := by decide +kernel
theorem dX10_readsItem_89 : decode cX10_readsItem 89 = .ok (.ireturn, 1) := by decide +kernel
theorem dX10_readsItem_90 : decode cX10_readsItem 90 = .ok (.aload_n 0, 1) := by decide +kernel
theorem dX10_readsItem_91 : decode cX10_readsItem 91 = .ok (.bipush 108, 2) := by decide +kernel
theorem dX10_readsItem_93 : decode cX10_readsItem 93 = .ok (.bipush 105, 2) := by decide +kernel
theorem dX10_readsItem_95 : decode cX10_readsItem 95 = .ok (.bipush 107, 2) := by decide +kernel
theorem dX10_readsItem_97 : decode cX10_readsItem 97 = .ok (.bipush 101, 2) := by decide +kernel
theorem dX10_readsItem_99 : decode cX10_readsItem 99 = .ok (.bipush 115, 2) := by decide +kernel
theorem dX10_readsItem_101 : decode cX10_readsItem 101 = .ok (.iconst 0, 1) := by decide +kernel
theorem dX10_readsItem_102 : decode cX10_readsItem 102 = .ok (.invokevirtual 160, 3) := by decide +kernel
theorem dX10_readsItem_105 : decode cX10_readsItem 105 = .ok (.ifCond .eq 8, 3) := by decide +kernel
theorem dX10_readsItem_108 : decode cX10_readsItem 108 = .ok (.aload_n 0, 1) := by decide +kernel
theorem dX10_readsItem_109 : decode cX10_readsItem 109 = .ok (.invokevirtual 210, 3) := by decide +kernel
theorem dX10_readsItem_112 : decode cX10_readsItem 112 = .ok (.ireturn, 1) := by decide +kernel
theorem dX10_readsItem_113 : decode cX10_readsItem 113 = .ok (.aload_n 0, 1) := by decide +kernel
theorem dX10_readsItem_114 : decode cX10_readsItem 114 = .ok (.aload_n 0, 1) := by decide +kernel
theorem dX10_readsItem_115 : decode cX10_readsItem 115 = .ok (.bipush 109, 2) := by decide +kernel
theorem dX10_readsItem_117 : decode cX10_readsItem 117 = .ok (.bipush 101, 2) := by decide +kernel
theorem dX10_readsItem_119 : decode cX10_readsItem 119 = .ok (.bipush 97, 2) := by decide +kernel
theorem dX10_readsItem_121 : decode cX10_readsItem 121 = .ok (.bipush 100, 2) := by decide +kernel
theorem dX10_readsItem_123 : decode cX10_readsItem 123 = .ok (.bipush 111, 2) := by decide +kernel
theorem dX10_readsItem_125 : decode cX10_readsItem 125 = .ok (.bipush 119, 2) := by decide +kernel
theorem dX10_readsItem_127 : decode cX10_readsItem 127 = .ok (.invokevirtual 160, 3) := by decide +kernel
theorem dX10_readsItem_130 : decode cX10_readsItem 130 = .ok (.ifCond .eq 7, 3) := by decide +kernel
theorem dX10_readsItem_133 : decode cX10_readsItem 133 = .ok (.iconst 3, 1) := by decide +kernel
theorem dX10_readsItem_134 : decode cX10_readsItem 134 = .ok (.goto 4, 3) := by decide +kernel
theorem dX10_readsItem_137 : decode cX10_readsItem 137 = .ok (.iconst 1, 1) := by decide +kernel
theorem dX10_readsItem_138 : decode cX10_readsItem 138 = .ok (.invokevirtual 138, 3) := by decide +kernel
theorem dX10_readsItem_141 : decode cX10_readsItem 141 = .ok (.ireturn, 1) := by decide +kernel
theorem dX10_readsNothing_0 : decode cX10_readsNothing 0 = .ok (.aload_n 0, 1) := by decide +kernel
theorem dX10_readsNothing_1 : decode cX10_readsNothing 1 = .ok (.iconst 0, 1) := by decide +kernel
theorem dX10_readsNothing_2 : decode cX10_readsNothing 2 = .ok (.putfield 147, 3) := by decide +kernel
theorem dX10_readsNothing_5 : decode cX10_readsNothing 5 = .ok (.aload_n 0, 1) := by decide +kernel
theorem dX10_readsNothing_6 : decode cX10_readsNothing 6 = .ok (.iconst 0, 1) := by decide +kernel
theorem dX10_readsNothing_7 : decode cX10_readsNothing 7 = .ok (.putfield 154, 3) := by decide +kernel
theorem dX10_readsNothing_10 : decode cX10_readsNothing 10 = .ok (.iconst 0, 1) := by decide +kernel
theorem dX10_readsNothing_11 : decode cX10_readsNothing 11 = .ok (.istore_n 1, 1) := by decide +kernel
theorem dX10_readsNothing_12 : decode cX10_readsNothing 12 = .ok (.iload_n 1, 1) := by decide +kernel
theorem dX10_readsNothing_13 : decode cX10_readsNothing 13 = .ok (.bipush 40, 2) := by decide +kernel
theorem dX10_readsNothing_15 : decode cX10_readsNothing 15 = .ok (.if_icmp .ge 44, 3) := by decide +kernel
theorem dX10_readsNothing_18 : decode cX10_readsNothing 18 = .ok (.aload_n 0, 1) := by decide +kernel
theorem dX10_readsNothing_19 : decode cX10_readsNothing 19 = .ok (.getfield 51, 3) := by decide +kernel
theorem dX10_readsNothing_22 : decode cX10_readsNothing 22 = .ok (.iload_n 1, 1) := by decide +kernel
theorem dX10_readsNothing_23 : decode cX10_readsNothing 23 = .ok (.iconst 1, 1) := by decide +kernel
theorem dX10_readsNothing_24 : decode cX10_readsNothing 24 = .ok (.iastore, 1) := by decide +kernel
theorem dX10_readsNothing_25 : decode cX10_readsNothing 25 = .ok (.aload_n 0, 1) := by decide +kernel
theorem dX10_readsNothing_26 : decode cX10_readsNothing 26 = .ok (.getfield 54, 3) := by decide +kernel
theorem dX10_readsNothing_29 : decode cX10_readsNothing 29 = .ok (.iload_n 1, 1) := by decide +kernel
theorem dX10_readsNothing_30 : decode cX10_readsNothing 30 = .ok (.iconst 1, 1) := by decide +kernel
theorem dX10_readsNothing_31 : decode cX10_readsNothing 31 = .ok (.iastore, 1) := by decide +kernel
theorem dX10_readsNothing_32 : decode cX10_readsNothing 32 = .ok (.aload_n 0, 1) := by decide +kernel
theorem dX10_readsNothing_33 : decode cX10_readsNothing 33 = .ok (.getfield 57, 3) := by decide +kernel
theorem dX10_readsNothing_36 : decode cX10_readsNothing 36 = .ok (.iload_n 1, 1) := by decide +kernel
theorem dX10_readsNothing_37 : decode cX10_readsNothing 37 = .ok (.iconst 0, 1) := by decide +kernel
theorem dX10_readsNothing_38 : decode cX10_readsNothing 38 = .ok (.iastore, 1) := by decide +kernel
theorem dX10_readsNothing_39 : decode cX10_readsNothing 39 = .ok (.aload_n 0, 1) := by decide +kernel
theorem dX10_readsNothing_40 : decode cX10_readsNothing 40 = .ok (.getfield 60, 3) := by decide +kernel
theorem dX10_readsNothing_43 : decode cX10_readsNothing 43 = .ok (.iload_n 1, 1) := by decide +kernel
theorem dX10_readsNothing_44 : decode cX10_readsNothing 44 = .ok (.iconst 0, 1) := by decide +kernel
theorem dX10_readsNothing_45 : decode cX10_readsNothing 45 = .ok (.bastore, 1) := by decide +kernel
theorem dX10_readsNothing_46 : decode cX10_readsNothing 46 = .ok (.aload_n 0, 1) := by decide +kernel
theorem dX10_readsNothing_47 : decode cX10_readsNothing 47 = .ok (.getfield 63, 3) := by decide +kernel
theorem dX10_readsNothing_50 : decode cX10_readsNothing 50 = .ok (.iload_n 1, 1) := by decide +kernel
theorem dX10_readsNothing_51 : decode cX10_readsNothing 51 = .ok (.iconst 0, 1) := by decide +kernel
theorem dX10_readsNothing_52 : decode cX10_readsNothing 52 = .ok (.bastore, 1) := by decide +kernel
theorem dX10_readsNothing_53 : decode cX10_readsNothing 53 = .ok (.iinc 1 1, 3) := by decide +kernel
theorem dX10_readsNothing_56 : decode cX10_readsNothing 56 = .ok (.goto (-44), 3) := by decide +kernel
theorem dX10_readsNothing_59 : decode cX10_readsNothing 59 = .ok (.aload_n 0, 1) := by decide +kernel
theorem dX10_readsNothing_60 : decode cX10_readsNothing 60 = .ok (.iconst 0, 1) := by decide +kernel
theorem dX10_readsNothing_61 : decode cX10_readsNothing 61 = .ok (.putfield 189, 3) := by decide +kernel
theorem dX10_readsNothing_64 : decode cX10_readsNothing 64 = .ok (.aload_n 0, 1) := by decide +kernel
theorem dX10_readsNothing_65 : decode cX10_readsNothing 65 = .ok (.iconst 4, 1) := by decide +kernel
theorem dX10_readsNothing_66 : decode cX10_readsNothing 66 = .ok (.putfield 192, 3) := by decide +kernel
theorem dX10_readsNothing_69 : decode cX10_readsNothing 69 = .ok (.aload_n 0, 1) := by decide +kernel
theorem dX10_readsNothing_70 : decode cX10_readsNothing 70 = .ok (.getfield 66, 3) := by decide +kernel
theorem dX10_readsNothing_73 : decode cX10_readsNothing 73 = .ok (.iconst 0, 1) := by decide +kernel
theorem dX10_readsNothing_74 : decode cX10_readsNothing 74 = .ok (.iconst 2, 1) := by decide +kernel
theorem dX10_readsNothing_75 : decode cX10_readsNothing 75 = .ok (.iastore, 1) := by decide +kernel
theorem dX10_readsNothing_76 : decode cX10_readsNothing 76 = .ok (.aload_n 0, 1) := by decide +kernel
theorem dX10_readsNothing_77 : decode cX10_readsNothing 77 = .ok (.getfield 66, 3) := by decide +kernel
theorem dX10_readsNothing_80 : decode cX10_readsNothing 80 = .ok (.iconst 1, 1) := by decide +kernel
theorem dX10_readsNothing_81 : decode cX10_readsNothing 81 = .ok (.iconst 3, 1) := by decide +kernel
theorem dX10_readsNothing_82 : decode cX10_readsNothing 82 = .ok (.iastore, 1) := by decide +kernel
theorem dX10_readsNothing_83 : decode cX10_readsNothing 83 = .ok (.aload_n 0, 1) := by decide +kernel
theorem dX10_readsNothing_84 : decode cX10_readsNothing 84 = .ok (.getfield 66, 3) := by decide +kernel
theorem dX10_readsNothing_87 : decode cX10_readsNothing 87 = .ok (.iconst 2, 1) := by decide +kernel
theorem dX10_readsNothing_88 : decode cX10_readsNothing 88 = .ok (.iconst 3, 1) := by decide +kernel
theorem dX10_readsNothing_89 : decode cX10_readsNothing 89 = .ok (.iastore, 1) := by decide +kernel
theorem dX10_readsNothing_90 : decode cX10_readsNothing 90 = .ok (.aload_n 0, 1) := by decide +kernel
theorem dX10_readsNothing_91 : decode cX10_readsNothing 91 = .ok (.getfield 66, 3) := by decide +kernel
theorem dX10_readsNothing_94 : decode cX10_readsNothing 94 = .ok (.iconst 3, 1) := by decide +kernel
theorem dX10_readsNothing_95 : decode cX10_readsNothing 95 = .ok (.iconst 4, 1) := by decide +kernel
theorem dX10_readsNothing_96 : decode cX10_readsNothing 96 = .ok (.iastore, 1) := by decide +kernel
theorem dX10_readsNothing_97 : decode cX10_readsNothing 97 = .ok (.aload_n 0, 1) := by decide +kernel
theorem dX10_readsNothing_98 : decode cX10_readsNothing 98 = .ok (.iconst 0, 1) := by decide +kernel
theorem dX10_readsNothing_99 : decode cX10_readsNothing 99 = .ok (.putfield 170, 3) := by decide +kernel
theorem dX10_readsNothing_102 : decode cX10_readsNothing 102 = .ok (.aload_n 0, 1) := by decide +kernel
theorem dX10_readsNothing_103 : decode cX10_readsNothing 103 = .ok (.iconst 0, 1) := by decide +kernel
theorem dX10_readsNothing_104 : decode cX10_readsNothing 104 = .ok (.putfield 182, 3) := by decide +kernel
theorem dX10_readsNothing_107 : decode cX10_readsNothing 107 = .ok (.aload_n 0, 1) := by decide +kernel
theorem dX10_readsNothing_108 : decode cX10_readsNothing 108 = .ok (.iconst 0, 1) := by decide +kernel
theorem dX10_readsNothing_109 : decode cX10_readsNothing 109 = .ok (.putfield 179, 3) := by decide +kernel
theorem dX10_readsNothing_112 : decode cX10_readsNothing 112 = .ok (.aload_n 0, 1) := by decide +kernel
theorem dX10_readsNothing_113 : decode cX10_readsNothing 113 = .ok (.iconst 0, 1) := by decide +kernel
theorem dX10_readsNothing_114 : decode cX10_readsNothing 114 = .ok (.putfield 185, 3) := by decide +kernel
theorem dX10_readsNothing_117 : decode cX10_readsNothing 117 = .ok (.aload_n 0, 1) := by decide +kernel
theorem dX10_readsNothing_118 : decode cX10_readsNothing 118 = .ok (.iconst 0, 1) := by decide +kernel
theorem dX10_readsNothing_119 : decode cX10_readsNothing 119 = .ok (.putfield 195, 3) := by decide +kernel
theorem dX10_readsNothing_122 : decode cX10_readsNothing 122 = .ok (.aload_n 0, 1) := by decide +kernel
theorem dX10_readsNothing_123 : decode cX10_readsNothing 123 = .ok (.iconst 0, 1) := by decide +kernel
theorem dX10_readsNothing_124 : decode cX10_readsNothing 124 = .ok (.putfield 135, 3) := by decide +kernel
theorem dX10_readsNothing_127 : decode cX10_readsNothing 127 = .ok (.return_, 1) := by decide +kernel
theorem dX10_readsAll_0 : decode cX10_readsAll 0 = .ok (.aload_n 0, 1) := by decide +kernel
theorem dX10_readsAll_1 : decode cX10_readsAll 1 = .ok (.invokevirtual 213, 3) := by decide +kernel
theorem dX10_readsAll_4 : decode cX10_readsAll 4 = .ok (.aload_n 0, 1) := by decide +kernel
theorem dX10_readsAll_5 : decode cX10_readsAll 5 = .ok (.iconst 0, 1) := by decide +kernel
theorem dX10_readsAll_6 : decode cX10_readsAll 6 = .ok (.invokevirtual 131, 3) := by decide +kernel
theorem dX10_readsAll_9 : decode cX10_readsAll 9 = .ok (.aload_n 0, 1) := by decide +kernel
theorem dX10_readsAll_10 : decode cX10_readsAll 10 = .ok (.getfield 118, 3) := by decide +kernel
theorem dX10_readsAll_13 : decode cX10_readsAll 13 = .ok (.ifCond .ne 5, 3) := by decide +kernel
theorem dX10_readsAll_16 : decode cX10_readsAll 16 = .ok (.iconst 1, 1) := by decide +kernel
theorem dX10_readsAll_17 : decode cX10_readsAll 17 = .ok (.ireturn, 1) := by decide +kernel
theorem dX10_readsAll_18 : decode cX10_readsAll 18 = .ok (.aload_n 0, 1) := by decide +kernel
theorem dX10_readsAll_19 : decode cX10_readsAll 19 = .ok (.invokevirtual 216, 3) := by decide +kernel
theorem dX10_readsAll_22 : decode cX10_readsAll 22 = .ok (.istore_n 1, 1) := by decide +kernel
theorem dX10_readsAll_23 : decode cX10_readsAll 23 = .ok (.iload_n 1, 1) := by decide +kernel
theorem dX10_readsAll_24 : decode cX10_readsAll 24 = .ok (.ifCond .eq 18, 3) := by decide +kernel
theorem dX10_readsAll_27 : decode cX10_readsAll 27 = .ok (.aload_n 0, 1) := by decide +kernel
theorem dX10_readsAll_28 : decode cX10_readsAll 28 = .ok (.getfield 118, 3) := by decide +kernel
theorem dX10_readsAll_31 : decode cX10_readsAll 31 = .ok (.ifCond .eq 11, 3) := by decide +kernel
theorem dX10_readsAll_34 : decode cX10_readsAll 34 = .ok (.aload_n 0, 1) := by decide +kernel
theorem dX10_readsAll_35 : decode cX10_readsAll 35 = .ok (.invokevirtual 219, 3) := by decide +kernel
theorem dX10_readsAll_38 : decode cX10_readsAll 38 = .ok (.istore_n 1, 1) := by decide +kernel
theorem dX10_readsAll_39 : decode cX10_readsAll 39 = .ok (.goto (-16), 3) := by decide +kernel
theorem dX10_readsAll_42 : decode cX10_readsAll 42 = .ok (.iload_n 1, 1) := by decide +kernel
theorem dX10_readsAll_43 : decode cX10_readsAll 43 = .ok (.ireturn, 1) := by decide +kernel
theorem dX10_meadow_0 : decode cX10_meadow 0 = .ok (.aload_n 0, 1) := by decide +kernel
theorem dX10_meadow_1 : decode cX10_meadow 1 = .ok (.invokevirtual 222, 3) := by decide +kernel
theorem dX10_meadow_4 : decode cX10_meadow 4 = .ok (.istore_n 1, 1) := by decide +kernel
theorem dX10_meadow_5 : decode cX10_meadow 5 = .ok (.aload_n 0, 1) := by decide +kernel
theorem dX10_meadow_6 : decode cX10_meadow 6 = .ok (.iload_n 1, 1) := by decide +kernel
theorem dX10_meadow_7 : decode cX10_meadow 7 = .ok (.ifCond .eq 7, 3) := by decide +kernel
theorem dX10_meadow_10 : decode cX10_meadow 10 = .ok (.iconst (-1), 1) := by decide +kernel
theorem dX10_meadow_11 : decode cX10_meadow 11 = .ok (.goto 7, 3) := by decide +kernel
theorem dX10_meadow_14 : decode cX10_meadow 14 = .ok (.aload_n 0, 1) := by decide +kernel
theorem dX10_meadow_15 : decode cX10_meadow 15 = .ok (.getfield 112, 3) := by decide +kernel
theorem dX10_meadow_18 : decode cX10_meadow 18 = .ok (.putfield 48, 3) := by decide +kernel
theorem dX10_meadow_21 : decode cX10_meadow 21 = .ok (.aload_n 0, 1) := by decide +kernel
theorem dX10_meadow_22 : decode cX10_meadow 22 = .ok (.iconst 0, 1) := by decide +kernel
theorem dX10_meadow_23 : decode cX10_meadow 23 = .ok (.putfield 98, 3) := by decide +kernel
theorem dX10_meadow_26 : decode cX10_meadow 26 = .ok (.iload_n 1, 1) := by decide +kernel
theorem dX10_meadow_27 : decode cX10_meadow 27 = .ok (.ifCond .ne 11, 3) := by decide +kernel
theorem dX10_meadow_30 : decode cX10_meadow 30 = .ok (.bipush (-10), 2) := by decide +kernel
theorem dX10_meadow_32 : decode cX10_meadow 32 = .ok (.aload_n 0, 1) := by decide +kernel
theorem dX10_meadow_33 : decode cX10_meadow 33 = .ok (.getfield 135, 3) := by decide +kernel
theorem dX10_meadow_36 : decode cX10_meadow 36 = .ok (.isub, 1) := by decide +kernel
theorem dX10_meadow_37 : decode cX10_meadow 37 = .ok (.ireturn, 1) := by decide +kernel
theorem dX10_meadow_38 : decode cX10_meadow 38 = .ok (.aload_n 0, 1) := by decide +kernel
theorem dX10_meadow_39 : decode cX10_meadow 39 = .ok (.aload_n 0, 1) := by decide +kernel
theorem dX10_meadow_40 : decode cX10_meadow 40 = .ok (.getfield 147, 3) := by decide +kernel
theorem dX10_meadow_43 : decode cX10_meadow 43 = .ok (.putfield 85, 3) := by decide +kernel
theorem dX10_meadow_46 : decode cX10_meadow 46 = .ok (.aload_n 0, 1) := by decide +kernel
theorem dX10_meadow_47 : decode cX10_meadow 47 = .ok (.aload_n 0, 1) := by decide +kernel
theorem dX10_meadow_48 : decode cX10_meadow 48 = .ok (.getfield 154, 3) := by decide +kernel
theorem dX10_meadow_51 : decode cX10_meadow 51 = .ok (.putfield 88, 3) := by decide +kernel
theorem dX10_meadow_54 : decode cX10_meadow 54 = .ok (.aload_n 0, 1) := by decide +kernel
theorem dX10_meadow_55 : decode cX10_meadow 55 = .ok (.aload_n 0, 1) := by decide +kernel
theorem dX10_meadow_56 : decode cX10_meadow 56 = .ok (.getfield 192, 3) := by decide +kernel
theorem dX10_meadow_59 : decode cX10_meadow 59 = .ok (.putfield 26, 3) := by decide +kernel
theorem dX10_meadow_62 : decode cX10_meadow 62 = .ok (.iconst 0, 1) := by decide +kernel
theorem dX10_meadow_63 : decode cX10_meadow 63 = .ok (.istore_n 2, 1) := by decide +kernel
theorem dX10_meadow_64 : decode cX10_meadow 64 = .ok (.iload_n 2, 1) := by decide +kernel
theorem dX10_meadow_65 : decode cX10_meadow 65 = .ok (.bipush 40, 2) := by decide +kernel
theorem dX10_meadow_67 : decode cX10_meadow 67 = .ok (.if_icmp .ge 62, 3) := by decide +kernel
theorem dX10_meadow_70 : decode cX10_meadow 70 = .ok (.aload_n 0, 1) := by decide +kernel
theorem dX10_meadow_71 : decode cX10_meadow 71 = .ok (.getfield 20, 3) := by decide +kernel
theorem dX10_meadow_74 : decode cX10_meadow 74 = .ok (.iload_n 2, 1) := by decide +kernel
theorem dX10_meadow_75 : decode cX10_meadow 75 = .ok (.aload_n 0, 1) := by decide +kernel
theorem dX10_meadow_76 : decode cX10_meadow 76 = .ok (.getfield 57, 3) := by decide +kernel
theorem dX10_meadow_79 : decode cX10_meadow 79 = .ok (.iload_n 2, 1) := by decide +kernel
theorem dX10_meadow_80 : decode cX10_meadow 80 = .ok (.iaload, 1) := by decide +kernel
theorem dX10_meadow_81 : decode cX10_meadow 81 = .ok (.iastore, 1) := by decide +kernel
theorem dX10_meadow_82 : decode cX10_meadow 82 = .ok (.aload_n 0, 1) := by decide +kernel
theorem dX10_meadow_83 : decode cX10_meadow 83 = .ok (.getfield 23, 3) := by decide +kernel
theorem dX10_meadow_86 : decode cX10_meadow 86 = .ok (.iload_n 2, 1) := by decide +kernel
theorem dX10_meadow_87 : decode cX10_meadow 87 = .ok (.aload_n 0, 1) := by decide +kernel
theorem dX10_meadow_88 : decode cX10_meadow 88 = .ok (.getfield 54, 3) := by decide +kernel
theorem dX10_meadow_91 : decode cX10_meadow 91 = .ok (.iload_n 2, 1) := by decide +kernel
theorem dX10_meadow_92 : decode cX10_meadow 92 = .ok (.iaload, 1) := by decide +kernel
theorem dX10_meadow_93 : decode cX10_meadow 93 = .ok (.iastore, 1) := by decide +kernel
theorem dX10_meadow_94 : decode cX10_meadow 94 = .ok (.aload_n 0, 1) := by decide +kernel
theorem dX10_meadow_95 : decode cX10_meadow 95 = .ok (.getfield 7, 3) := by decide +kernel
theorem dX10_meadow_98 : decode cX10_meadow 98 = .ok (.iconst 0, 1) := by decide +kernel
theorem dX10_meadow_99 : decode cX10_meadow 99 = .ok (.iload_n 2, 1) := by decide +kernel
theorem dX10_meadow_100 : decode cX10_meadow 100 = .ok (.iadd, 1) := by decide +kernel
theorem dX10_meadow_101 : decode cX10_meadow 101 = .ok (.aload_n 0, 1) := by decide +kernel
theorem dX10_meadow_102 : decode cX10_meadow 102 = .ok (.getfield 51, 3) := by decide +kernel
theorem dX10_meadow_105 : decode cX10_meadow 105 = .ok (.iload_n 2, 1) := by decide +kernel
theorem dX10_meadow_106 : decode cX10_meadow 106 = .ok (.iaload, 1) := by decide +kernel
theorem dX10_meadow_107 : decode cX10_meadow 107 = .ok (.iastore, 1) := by decide +kernel
theorem dX10_meadow_108 : decode cX10_meadow 108 = .ok (.aload_n 0, 1) := by decide +kernel
theorem dX10_meadow_109 : decode cX10_meadow 109 = .ok (.getfield 7, 3) := by decide +kernel
theorem dX10_meadow_112 : decode cX10_meadow 112 = .ok (.bipush 40, 2) := by decide +kernel
theorem dX10_meadow_114 : decode cX10_meadow 114 = .ok (.iload_n 2, 1) := by decide +kernel
theorem dX10_meadow_115 : decode cX10_meadow 115 = .ok (.iadd, 1) := by decide +kernel
theorem dX10_meadow_116 : decode cX10_meadow 116 = .ok (.aload_n 0, 1) := by decide +kernel
theorem dX10_meadow_117 : decode cX10_meadow 117 = .ok (.getfield 51, 3) := by decide +kernel
theorem dX10_meadow_120 : decode cX10_meadow 120 = .ok (.iload_n 2, 1) := by decide +kernel
theorem dX10_meadow_121 : decode cX10_meadow 121 = .ok (.iaload, 1) := by decide +kernel
theorem dX10_meadow_122 : decode cX10_meadow 122 = .ok (.iastore, 1) := by decide +kernel
theorem dX10_meadow_123 : decode cX10_meadow 123 = .ok (.iinc 2 1, 3) := by decide +kernel
theorem dX10_meadow_126 : decode cX10_meadow 126 = .ok (.goto (-62), 3) := by decide +kernel
theorem dX10_meadow_129 : decode cX10_meadow 129 = .ok (.iconst 0, 1) := by decide +kernel
theorem dX10_meadow_130 : decode cX10_meadow 130 = .ok (.istore_n 2, 1) := by decide +kernel
theorem dX10_meadow_131 : decode cX10_meadow 131 = .ok (.iload_n 2, 1) := by decide +kernel
theorem dX10_meadow_132 : decode cX10_meadow 132 = .ok (.iconst 4, 1) := by decide +kernel
theorem dX10_meadow_133 : decode cX10_meadow 133 = .ok (.if_icmp .ge 21, 3) := by decide +kernel
theorem dX10_meadow_136 : decode cX10_meadow 136 = .ok (.aload_n 0, 1) := by decide +kernel
theorem dX10_meadow_137 : decode cX10_meadow 137 = .ok (.getfield 30, 3) := by decide +kernel
theorem dX10_meadow_140 : decode cX10_meadow 140 = .ok (.iload_n 2, 1) := by decide +kernel
theorem dX10_meadow_141 : decode cX10_meadow 141 = .ok (.aload_n 0, 1) := by decide +kernel
theorem dX10_meadow_142 : decode cX10_meadow 142 = .ok (.getfield 66, 3) := by decide +kernel
theorem dX10_meadow_145 : decode cX10_meadow 145 = .ok (.iload_n 2, 1) := by decide +kernel
theorem dX10_meadow_146 : decode cX10_meadow 146 = .ok (.iaload, 1) := by decide +kernel
theorem dX10_meadow_147 : decode cX10_meadow 147 = .ok (.iastore, 1) := by decide +kernel
theorem dX10_meadow_148 : decode cX10_meadow 148 = .ok (.iinc 2 1, 3) := by decide +kernel
theorem dX10_meadow_151 : decode cX10_meadow 151 = .ok (.goto (-20), 3) := by decide +kernel
theorem dX10_meadow_154 : decode cX10_meadow 154 = .ok (.aload_n 0, 1) := by decide +kernel
theorem dX10_meadow_155 : decode cX10_meadow 155 = .ok (.getfield 7, 3) := by decide +kernel
theorem dX10_meadow_158 : decode cX10_meadow 158 = .ok (.bipush 80, 2) := by decide +kernel
theorem dX10_meadow_160 : decode cX10_meadow 160 = .ok (.aload_n 0, 1) := by decide +kernel
theorem dX10_meadow_161 : decode cX10_meadow 161 = .ok (.invokevirtual 225, 3) := by decide +kernel
theorem dX10_meadow_164 : decode cX10_meadow 164 = .ok (.ifCond .ne 7, 3) := by decide +kernel
theorem dX10_meadow_167 : decode cX10_meadow 167 = .ok (.iconst (-1), 1) := by decide +kernel
theorem dX10_meadow_168 : decode cX10_meadow 168 = .ok (.goto 7, 3) := by decide +kernel
theorem dX10_meadow_171 : decode cX10_meadow 171 = .ok (.aload_n 0, 1) := by decide +kernel
theorem dX10_meadow_172 : decode cX10_meadow 172 = .ok (.getfield 189, 3) := by decide +kernel
theorem dX10_meadow_175 : decode cX10_meadow 175 = .ok (.iastore, 1) := by decide +kernel
theorem dX10_meadow_176 : decode cX10_meadow 176 = .ok (.aload_n 0, 1) := by decide +kernel
theorem dX10_meadow_177 : decode cX10_meadow 177 = .ok (.getfield 7, 3) := by decide +kernel
theorem dX10_meadow_180 : decode cX10_meadow 180 = .ok (.bipush 81, 2) := by decide +kernel
theorem dX10_meadow_182 : decode cX10_meadow 182 = .ok (.iconst (-1), 1) := by decide +kernel
theorem dX10_meadow_183 : decode cX10_meadow 183 = .ok (.iastore, 1) := by decide +kernel
theorem dX10_meadow_184 : decode cX10_meadow 184 = .ok (.aload_n 0, 1) := by decide +kernel
theorem dX10_meadow_185 : decode cX10_meadow 185 = .ok (.getfield 7, 3) := by decide +kernel
theorem dX10_meadow_188 : decode cX10_meadow 188 = .ok (.bipush 82, 2) := by decide +kernel
theorem dX10_meadow_190 : decode cX10_meadow 190 = .ok (.iconst (-1), 1) := by decide +kernel
theorem dX10_meadow_191 : decode cX10_meadow 191 = .ok (.iastore, 1) := by decide +kernel
theorem dX10_meadow_192 : decode cX10_meadow 192 = .ok (.aload_n 0, 1) := by decide +kernel
theorem dX10_meadow_193 : decode cX10_meadow 193 = .ok (.getfield 7, 3) := by decide +kernel
theorem dX10_meadow_196 : decode cX10_meadow 196 = .ok (.bipush 83, 2) := by decide +kernel
theorem dX10_meadow_198 : decode cX10_meadow 198 = .ok (.iconst 0, 1) := by decide +kernel
theorem dX10_meadow_199 : decode cX10_meadow 199 = .ok (.iastore, 1) := by decide +kernel
theorem dX10_meadow_200 : decode cX10_meadow 200 = .ok (.aload_n 0, 1) := by decide +kernel
theorem dX10_meadow_201 : decode cX10_meadow 201 = .ok (.getfield 7, 3) := by decide +kernel
theorem dX10_meadow_204 : decode cX10_meadow 204 = .ok (.bipush 84, 2) := by decide +kernel
theorem dX10_meadow_206 : decode cX10_meadow 206 = .ok (.iconst 0, 1) := by decide +kernel
theorem dX10_meadow_207 : decode cX10_meadow 207 = .ok (.iastore, 1) := by decide +kernel
theorem dX10_meadow_208 : decode cX10_meadow 208 = .ok (.aload_n 0, 1) := by decide +kernel
theorem dX10_meadow_209 : decode cX10_meadow 209 = .ok (.getfield 7, 3) := by decide +kernel
theorem dX10_meadow_212 : decode cX10_meadow 212 = .ok (.bipush 85, 2) := by decide +kernel
theorem dX10_meadow_214 : decode cX10_meadow 214 = .ok (.iconst 0, 1) := by decide +kernel
theorem dX10_meadow_215 : decode cX10_meadow 215 = .ok (.iastore, 1) := by decide +kernel
theorem dX10_meadow_216 : decode cX10_meadow 216 = .ok (.aload_n 0, 1) := by decide +kernel
theorem dX10_meadow_217 : decode cX10_meadow 217 = .ok (.iconst 0, 1) := by decide +kernel
theorem dX10_meadow_218 : decode cX10_meadow 218 = .ok (.putfield 229, 3) := by decide +kernel
theorem dX10_meadow_221 : decode cX10_meadow 221 = .ok (.aload_n 0, 1) := by decide +kernel
theorem dX10_meadow_222 : decode cX10_meadow 222 = .ok (.iconst 0, 1) := by decide +kernel
theorem dX10_meadow_223 : decode cX10_meadow 223 = .ok (.putfield 232, 3) := by decide +kernel
theorem dX10_meadow_226 : decode cX10_meadow 226 = .ok (.aload_n 0, 1) := by decide +kernel
theorem dX10_meadow_227 : decode cX10_meadow 227 = .ok (.getfield 16, 3) := by decide +kernel
theorem dX10_meadow_230 : decode cX10_meadow 230 = .ok (.iconst 0, 1) := by decide +kernel
theorem dX10_meadow_231 : decode cX10_meadow 231 = .ok (.iconst 0, 1) := by decide +kernel
theorem dX10_meadow_232 : decode cX10_meadow 232 = .ok (.bastore, 1) := by decide +kernel
theorem dX10_meadow_233 : decode cX10_meadow 233 = .ok (.aload_n 0, 1) := by decide +kernel
theorem dX10_meadow_234 : decode cX10_meadow 234 = .ok (.getfield 16, 3) := by decide +kernel
theorem dX10_meadow_237 : decode cX10_meadow 237 = .ok (.iconst 1, 1) := by decide +kernel
theorem dX10_meadow_238 : decode cX10_meadow 238 = .ok (.iconst 0, 1) := by decide +kernel
theorem dX10_meadow_239 : decode cX10_meadow 239 = .ok (.bastore, 1) := by decide +kernel
theorem dX10_meadow_240 : decode cX10_meadow 240 = .ok (.aload_n 0, 1) := by decide +kernel
theorem dX10_meadow_241 : decode cX10_meadow 241 = .ok (.invokevirtual 225, 3) := by decide +kernel
theorem dX10_meadow_244 : decode cX10_meadow 244 = .ok (.ireturn, 1) := by decide +kernel
theorem dX10_fault_0 : decode cX10_fault 0 = .ok (.aload_n 0, 1) := by decide +kernel
theorem dX10_fault_1 : decode cX10_fault 1 = .ok (.getfield 48, 3) := by decide +kernel
theorem dX10_fault_4 : decode cX10_fault 4 = .ok (.ireturn, 1) := by decide +kernel
theorem dX10_told_0 : decode cX10_told 0 = .ok (.iload_n 1, 1) := by decide +kernel
theorem dX10_told_1 : decode cX10_told 1 = .ok (.tableswitch 165 0 12 #[67, 72, 77, 82, 90, 95, 107, 119, 131, 139, 147, 155, 160], 67) := by decide +kernel
theorem dX10_told_68 : decode cX10_told 68 = .ok (.aload_n 0, 1) := by decide +kernel
theorem dX10_told_69 : decode cX10_told 69 = .ok (.getfield 85, 3) := by decide +kernel
theorem dX10_told_72 : decode cX10_told 72 = .ok (.ireturn, 1) := by decide +kernel
theorem dX10_told_73 : decode cX10_told 73 = .ok (.aload_n 0, 1) := by decide +kernel
theorem dX10_told_74 : decode cX10_told 74 = .ok (.getfield 88, 3) := by decide +kernel
theorem dX10_told_77 : decode cX10_told 77 = .ok (.ireturn, 1) := by decide +kernel
theorem dX10_told_78 : decode cX10_told 78 = .ok (.aload_n 0, 1) := by decide +kernel
theorem dX10_told_79 : decode cX10_told 79 = .ok (.getfield 98, 3) := by decide +kernel
theorem dX10_told_82 : decode cX10_told 82 = .ok (.ireturn, 1) := by decide +kernel
theorem dX10_told_83 : decode cX10_told 83 = .ok (.aload_n 0, 1) := by decide +kernel
theorem dX10_told_84 : decode cX10_told 84 = .ok (.getfield 7, 3) := by decide +kernel
theorem dX10_told_87 : decode cX10_told 87 = .ok (.bipush 86, 2) := by decide +kernel
theorem dX10_told_89 : decode cX10_told 89 = .ok (.iaload, 1) := by decide +kernel
theorem dX10_told_90 : decode cX10_told 90 = .ok (.ireturn, 1) := by decide +kernel
theorem dX10_told_91 : decode cX10_told 91 = .ok (.aload_n 0, 1) := by decide +kernel
theorem dX10_told_92 : decode cX10_told 92 = .ok (.getfield 26, 3) := by decide +kernel
theorem dX10_told_95 : decode cX10_told 95 = .ok (.ireturn, 1) := by decide +kernel
theorem dX10_told_96 : decode cX10_told 96 = .ok (.aload_n 0, 1) := by decide +kernel
theorem dX10_told_97 : decode cX10_told 97 = .ok (.aload_n 0, 1) := by decide +kernel
theorem dX10_told_98 : decode cX10_told 98 = .ok (.getfield 7, 3) := by decide +kernel
theorem dX10_told_101 : decode cX10_told 101 = .ok (.bipush 80, 2) := by decide +kernel
theorem dX10_told_103 : decode cX10_told 103 = .ok (.iaload, 1) := by decide +kernel
theorem dX10_told_104 : decode cX10_told 104 = .ok (.invokevirtual 235, 3) := by decide +kernel
theorem dX10_told_107 : decode cX10_told 107 = .ok (.ireturn, 1) := by decide +kernel
theorem dX10_told_108 : decode cX10_told 108 = .ok (.aload_n 0, 1) := by decide +kernel
theorem dX10_told_109 : decode cX10_told 109 = .ok (.aload_n 0, 1) := by decide +kernel
theorem dX10_told_110 : decode cX10_told 110 = .ok (.getfield 7, 3) := by decide +kernel
theorem dX10_told_113 : decode cX10_told 113 = .ok (.bipush 81, 2) := by decide +kernel
theorem dX10_told_115 : decode cX10_told 115 = .ok (.iaload, 1) := by decide +kernel
theorem dX10_told_116 : decode cX10_told 116 = .ok (.invokevirtual 235, 3) := by decide +kernel
theorem dX10_told_119 : decode cX10_told 119 = .ok (.ireturn, 1) := by decide +kernel
theorem dX10_told_120 : decode cX10_told 120 = .ok (.aload_n 0, 1) := by decide +kernel
theorem dX10_told_121 : decode cX10_told 121 = .ok (.aload_n 0, 1) := by decide +kernel
theorem dX10_told_122 : decode cX10_told 122 = .ok (.getfield 7, 3) := by decide +kernel
theorem dX10_told_125 : decode cX10_told 125 = .ok (.bipush 82, 2) := by decide +kernel
theorem dX10_told_127 : decode cX10_told 127 = .ok (.iaload, 1) := by decide +kernel
theorem dX10_told_128 : decode cX10_told 128 = .ok (.invokevirtual 235, 3) := by decide +kernel
theorem dX10_told_131 : decode cX10_told 131 = .ok (.ireturn, 1) := by decide +kernel
theorem dX10_told_132 : decode cX10_told 132 = .ok (.aload_n 0, 1) := by decide +kernel
theorem dX10_told_133 : decode cX10_told 133 = .ok (.getfield 7, 3) := by decide +kernel
theorem dX10_told_136 : decode cX10_told 136 = .ok (.bipush 85, 2) := by decide +kernel
theorem dX10_told_138 : decode cX10_told 138 = .ok (.iaload, 1) := by decide +kernel
theorem dX10_told_139 : decode cX10_told 139 = .ok (.ireturn, 1) := by decide +kernel
theorem dX10_told_140 : decode cX10_told 140 = .ok (.aload_n 0, 1) := by decide +kernel
theorem dX10_told_141 : decode cX10_told 141 = .ok (.getfield 7, 3) := by decide +kernel
theorem dX10_told_144 : decode cX10_told 144 = .ok (.bipush 83, 2) := by decide +kernel
theorem dX10_told_146 : decode cX10_told 146 = .ok (.iaload, 1) := by decide +kernel
theorem dX10_told_147 : decode cX10_told 147 = .ok (.ireturn, 1) := by decide +kernel
theorem dX10_told_148 : decode cX10_told 148 = .ok (.aload_n 0, 1) := by decide +kernel
theorem dX10_told_149 : decode cX10_told 149 = .ok (.getfield 7, 3) := by decide +kernel
theorem dX10_told_152 : decode cX10_told 152 = .ok (.bipush 84, 2) := by decide +kernel
theorem dX10_told_154 : decode cX10_told 154 = .ok (.iaload, 1) := by decide +kernel
theorem dX10_told_155 : decode cX10_told 155 = .ok (.ireturn, 1) := by decide +kernel
theorem dX10_told_156 : decode cX10_told 156 = .ok (.aload_n 0, 1) := by decide +kernel
theorem dX10_told_157 : decode cX10_told 157 = .ok (.getfield 229, 3) := by decide +kernel
theorem dX10_told_160 : decode cX10_told 160 = .ok (.ireturn, 1) := by decide +kernel
theorem dX10_told_161 : decode cX10_told 161 = .ok (.aload_n 0, 1) := by decide +kernel
theorem dX10_told_162 : decode cX10_told 162 = .ok (.getfield 232, 3) := by decide +kernel
theorem dX10_told_165 : decode cX10_told 165 = .ok (.ireturn, 1) := by decide +kernel
theorem dX10_told_166 : decode cX10_told 166 = .ok (.ldc 97, 2) := by decide +kernel
theorem dX10_told_168 : decode cX10_told 168 = .ok (.ireturn, 1) := by decide +kernel
theorem dX10_liking_0 : decode cX10_liking 0 = .ok (.iconst 1, 1) := by decide +kernel
theorem dX10_liking_1 : decode cX10_liking 1 = .ok (.aload_n 0, 1) := by decide +kernel
theorem dX10_liking_2 : decode cX10_liking 2 = .ok (.getfield 30, 3) := by decide +kernel
theorem dX10_liking_5 : decode cX10_liking 5 = .ok (.iconst 0, 1) := by decide +kernel
theorem dX10_liking_6 : decode cX10_liking 6 = .ok (.iaload, 1) := by decide +kernel
theorem dX10_liking_7 : decode cX10_liking 7 = .ok (.aload_n 0, 1) := by decide +kernel
theorem dX10_liking_8 : decode cX10_liking 8 = .ok (.getfield 7, 3) := by decide +kernel
theorem dX10_liking_11 : decode cX10_liking 11 = .ok (.iconst 0, 1) := by decide +kernel
theorem dX10_liking_12 : decode cX10_liking 12 = .ok (.iload_n 1, 1) := by decide +kernel
theorem dX10_liking_13 : decode cX10_liking 13 = .ok (.iadd, 1) := by decide +kernel
theorem dX10_liking_14 : decode cX10_liking 14 = .ok (.iaload, 1) := by decide +kernel
theorem dX10_liking_15 : decode cX10_liking 15 = .ok (.imul, 1) := by decide +kernel
theorem dX10_liking_16 : decode cX10_liking 16 = .ok (.iadd, 1) := by decide +kernel
theorem dX10_liking_17 : decode cX10_liking 17 = .ok (.istore_n 2, 1) := by decide +kernel
theorem dX10_liking_18 : decode cX10_liking 18 = .ok (.iload_n 2, 1) := by decide +kernel
theorem dX10_liking_19 : decode cX10_liking 19 = .ok (.aload_n 0, 1) := by decide +kernel
theorem dX10_liking_20 : decode cX10_liking 20 = .ok (.getfield 20, 3) := by decide +kernel
theorem dX10_liking_23 : decode cX10_liking 23 = .ok (.iload_n 1, 1) := by decide +kernel
theorem dX10_liking_24 : decode cX10_liking 24 = .ok (.iaload, 1) := by decide +kernel
theorem dX10_liking_25 : decode cX10_liking 25 = .ok (.iconst 0, 1) := by decide +kernel
theorem dX10_liking_26 : decode cX10_liking 26 = .ok (.ishr, 1) := by decide +kernel
theorem dX10_liking_27 : decode cX10_liking 27 = .ok (.iconst 1, 1) := by decide +kernel
theorem dX10_liking_28 : decode cX10_liking 28 = .ok (.iand, 1) := by decide +kernel
theorem dX10_liking_29 : decode cX10_liking 29 = .ok (.aload_n 0, 1) := by decide +kernel
theorem dX10_liking_30 : decode cX10_liking 30 = .ok (.getfield 30, 3) := by decide +kernel
theorem dX10_liking_33 : decode cX10_liking 33 = .ok (.iconst 1, 1) := by decide +kernel
theorem dX10_liking_34 : decode cX10_liking 34 = .ok (.iaload, 1) := by decide +kernel
theorem dX10_liking_35 : decode cX10_liking 35 = .ok (.imul, 1) := by decide +kernel
theorem dX10_liking_36 : decode cX10_liking 36 = .ok (.aload_n 0, 1) := by decide +kernel
theorem dX10_liking_37 : decode cX10_liking 37 = .ok (.getfield 20, 3) := by decide +kernel
theorem dX10_liking_40 : decode cX10_liking 40 = .ok (.iload_n 1, 1) := by decide +kernel
theorem dX10_liking_41 : decode cX10_liking 41 = .ok (.iaload, 1) := by decide +kernel
theorem dX10_liking_42 : decode cX10_liking 42 = .ok (.iconst 1, 1) := by decide +kernel
theorem dX10_liking_43 : decode cX10_liking 43 = .ok (.ishr, 1) := by decide +kernel
theorem dX10_liking_44 : decode cX10_liking 44 = .ok (.iconst 1, 1) := by decide +kernel
theorem dX10_liking_45 : decode cX10_liking 45 = .ok (.iand, 1) := by decide +kernel
theorem dX10_liking_46 : decode cX10_liking 46 = .ok (.aload_n 0, 1) := by decide +kernel
theorem dX10_liking_47 : decode cX10_liking 47 = .ok (.getfield 30, 3) := by decide +kernel
theorem dX10_liking_50 : decode cX10_liking 50 = .ok (.iconst 2, 1) := by decide +kernel
theorem dX10_liking_51 : decode cX10_liking 51 = .ok (.iaload, 1) := by decide +kernel
theorem dX10_liking_52 : decode cX10_liking 52 = .ok (.imul, 1) := by decide +kernel
theorem dX10_liking_53 : decode cX10_liking 53 = .ok (.iadd, 1) := by decide +kernel
theorem dX10_liking_54 : decode cX10_liking 54 = .ok (.aload_n 0, 1) := by decide +kernel
theorem dX10_liking_55 : decode cX10_liking 55 = .ok (.getfield 20, 3) := by decide +kernel
theorem dX10_liking_58 : decode cX10_liking 58 = .ok (.iload_n 1, 1) := by decide +kernel
theorem dX10_liking_59 : decode cX10_liking 59 = .ok (.iaload, 1) := by decide +kernel
theorem dX10_liking_60 : decode cX10_liking 60 = .ok (.iconst 2, 1) := by decide +kernel
theorem dX10_liking_61 : decode cX10_liking 61 = .ok (.ishr, 1) := by decide +kernel
theorem dX10_liking_62 : decode cX10_liking 62 = .ok (.iconst 1, 1) := by decide +kernel
theorem dX10_liking_63 : decode cX10_liking 63 = .ok (.iand, 1) := by decide +kernel
theorem dX10_liking_64 : decode cX10_liking 64 = .ok (.aload_n 0, 1) := by decide +kernel
theorem dX10_liking_65 : decode cX10_liking 65 = .ok (.getfield 30, 3) := by decide +kernel
theorem dX10_liking_68 : decode cX10_liking 68 = .ok (.iconst 3, 1) := by decide +kernel
theorem dX10_liking_69 : decode cX10_liking 69 = .ok (.iaload, 1) := by decide +kernel
theorem dX10_liking_70 : decode cX10_liking 70 = .ok (.imul, 1) := by decide +kernel
theorem dX10_liking_71 : decode cX10_liking 71 = .ok (.isub, 1) := by decide +kernel
theorem dX10_liking_72 : decode cX10_liking 72 = .ok (.iadd, 1) := by decide +kernel
theorem dX10_liking_73 : decode cX10_liking 73 = .ok (.istore_n 2, 1) := by decide +kernel
theorem dX10_liking_74 : decode cX10_liking 74 = .ok (.iload_n 2, 1) := by decide +kernel
theorem dX10_liking_75 : decode cX10_liking 75 = .ok (.iconst 1, 1) := by decide +kernel
theorem dX10_liking_76 : decode cX10_liking 76 = .ok (.if_icmp .ge 7, 3) := by decide +kernel
theorem dX10_liking_79 : decode cX10_liking 79 = .ok (.iconst 1, 1) := by decide +kernel
theorem dX10_liking_80 : decode cX10_liking 80 = .ok (.goto 4, 3) := by decide +kernel
theorem dX10_liking_83 : decode cX10_liking 83 = .ok (.iload_n 2, 1) := by decide +kernel
theorem dX10_liking_84 : decode cX10_liking 84 = .ok (.aload_n 0, 1) := by decide +kernel
theorem dX10_liking_85 : decode cX10_liking 85 = .ok (.getfield 7, 3) := by decide +kernel
theorem dX10_liking_88 : decode cX10_liking 88 = .ok (.bipush 82, 2) := by decide +kernel
theorem dX10_liking_90 : decode cX10_liking 90 = .ok (.iaload, 1) := by decide +kernel
theorem dX10_liking_91 : decode cX10_liking 91 = .ok (.iload_n 1, 1) := by decide +kernel
theorem dX10_liking_92 : decode cX10_liking 92 = .ok (.if_icmp .ne 8, 3) := by decide +kernel
theorem dX10_liking_95 : decode cX10_liking 95 = .ok (.bipush 20, 2) := by decide +kernel
theorem dX10_liking_97 : decode cX10_liking 97 = .ok (.goto 4, 3) := by decide +kernel
theorem dX10_liking_100 : decode cX10_liking 100 = .ok (.iconst 0, 1) := by decide +kernel
theorem dX10_liking_101 : decode cX10_liking 101 = .ok (.iadd, 1) := by decide +kernel
theorem dX10_liking_102 : decode cX10_liking 102 = .ok (.ireturn, 1) := by decide +kernel
theorem dX10_way_0 : decode cX10_way 0 = .ok (.iload_n 1, 1) := by decide +kernel
theorem dX10_way_1 : decode cX10_way 1 = .ok (.aload_n 0, 1) := by decide +kernel
theorem dX10_way_2 : decode cX10_way 2 = .ok (.getfield 85, 3) := by decide +kernel
theorem dX10_way_5 : decode cX10_way 5 = .ok (.irem, 1) := by decide +kernel
theorem dX10_way_6 : decode cX10_way 6 = .ok (.iload_n 2, 1) := by decide +kernel
theorem dX10_way_7 : decode cX10_way 7 = .ok (.iconst 2, 1) := by decide +kernel
theorem dX10_way_8 : decode cX10_way 8 = .ok (.if_icmp .ne 7, 3) := by decide +kernel
theorem dX10_way_11 : decode cX10_way 11 = .ok (.iconst 1, 1) := by decide +kernel
theorem dX10_way_12 : decode cX10_way 12 = .ok (.goto 13, 3) := by decide +kernel
theorem dX10_way_15 : decode cX10_way 15 = .ok (.iload_n 2, 1) := by decide +kernel
theorem dX10_way_16 : decode cX10_way 16 = .ok (.iconst 4, 1) := by decide +kernel
theorem dX10_way_17 : decode cX10_way 17 = .ok (.if_icmp .ne 7, 3) := by decide +kernel
theorem dX10_way_20 : decode cX10_way 20 = .ok (.iconst (-1), 1) := by decide +kernel
theorem dX10_way_21 : decode cX10_way 21 = .ok (.goto 4, 3) := by decide +kernel
theorem dX10_way_24 : decode cX10_way 24 = .ok (.iconst 0, 1) := by decide +kernel
theorem dX10_way_25 : decode cX10_way 25 = .ok (.iadd, 1) := by decide +kernel
theorem dX10_way_26 : decode cX10_way 26 = .ok (.istore_n 3, 1) := by decide +kernel
theorem dX10_way_27 : decode cX10_way 27 = .ok (.iload_n 1, 1) := by decide +kernel
theorem dX10_way_28 : decode cX10_way 28 = .ok (.aload_n 0, 1) := by decide +kernel
theorem dX10_way_29 : decode cX10_way 29 = .ok (.getfield 85, 3) := by decide +kernel
theorem dX10_way_32 : decode cX10_way 32 = .ok (.idiv, 1) := by decide +kernel
theorem dX10_way_33 : decode cX10_way 33 = .ok (.iload_n 2, 1) := by decide +kernel
theorem dX10_way_34 : decode cX10_way 34 = .ok (.iconst 1, 1) := by decide +kernel
theorem dX10_way_35 : decode cX10_way 35 = .ok (.if_icmp .ne 7, 3) := by decide +kernel
theorem dX10_way_38 : decode cX10_way 38 = .ok (.iconst (-1), 1) := by decide +kernel
theorem dX10_way_39 : decode cX10_way 39 = .ok (.goto 13, 3) := by decide +kernel
theorem dX10_way_42 : decode cX10_way 42 = .ok (.iload_n 2, 1) := by decide +kernel
theorem dX10_way_43 : decode cX10_way 43 = .ok (.iconst 3, 1) := by decide +kernel
theorem dX10_way_44 : decode cX10_way 44 = .ok (.if_icmp .ne 7, 3) := by decide +kernel
theorem dX10_way_47 : decode cX10_way 47 = .ok (.iconst 1, 1) := by decide +kernel
theorem dX10_way_48 : decode cX10_way 48 = .ok (.goto 4, 3) := by decide +kernel
theorem dX10_way_51 : decode cX10_way 51 = .ok (.iconst 0, 1) := by decide +kernel
theorem dX10_way_52 : decode cX10_way 52 = .ok (.iadd, 1) := by decide +kernel
theorem dX10_way_53 : decode cX10_way 53 = .ok (.istore 4, 2) := by decide +kernel
theorem dX10_way_55 : decode cX10_way 55 = .ok (.aload_n 0, 1) := by decide +kernel
theorem dX10_way_56 : decode cX10_way 56 = .ok (.iload_n 3, 1) := by decide +kernel
theorem dX10_way_57 : decode cX10_way 57 = .ok (.iload 4, 2) := by decide +kernel
theorem dX10_way_59 : decode cX10_way 59 = .ok (.invokevirtual 239, 3) := by decide +kernel
theorem dX10_way_62 : decode cX10_way 62 = .ok (.ifCond .eq 15, 3) := by decide +kernel
theorem dX10_way_65 : decode cX10_way 65 = .ok (.aload_n 0, 1) := by decide +kernel
theorem dX10_way_66 : decode cX10_way 66 = .ok (.getfield 85, 3) := by decide +kernel
theorem dX10_way_69 : decode cX10_way 69 = .ok (.iload 4, 2) := by decide +kernel
theorem dX10_way_71 : decode cX10_way 71 = .ok (.imul, 1) := by decide +kernel
theorem dX10_way_72 : decode cX10_way 72 = .ok (.iload_n 3, 1) := by decide +kernel
theorem dX10_way_73 : decode cX10_way 73 = .ok (.iadd, 1) := by decide +kernel
theorem dX10_way_74 : decode cX10_way 74 = .ok (.goto 4, 3) := by decide +kernel
theorem dX10_way_77 : decode cX10_way 77 = .ok (.iconst (-1), 1) := by decide +kernel
theorem dX10_way_78 : decode cX10_way 78 = .ok (.ireturn, 1) := by decide +kernel
theorem dX10_likings_0 : decode cX10_likings 0 = .ok (.iconst 0, 1) := by decide +kernel
theorem dX10_likings_1 : decode cX10_likings 1 = .ok (.istore_n 2, 1) := by decide +kernel
theorem dX10_likings_2 : decode cX10_likings 2 = .ok (.iconst 0, 1) := by decide +kernel
theorem dX10_likings_3 : decode cX10_likings 3 = .ok (.istore_n 3, 1) := by decide +kernel
theorem dX10_likings_4 : decode cX10_likings 4 = .ok (.iload_n 3, 1) := by decide +kernel
theorem dX10_likings_5 : decode cX10_likings 5 = .ok (.iconst 5, 1) := by decide +kernel
theorem dX10_likings_6 : decode cX10_likings 6 = .ok (.if_icmp .ge 36, 3) := by decide +kernel
theorem dX10_likings_9 : decode cX10_likings 9 = .ok (.aload_n 0, 1) := by decide +kernel
theorem dX10_likings_10 : decode cX10_likings 10 = .ok (.iload_n 1, 1) := by decide +kernel
theorem dX10_likings_11 : decode cX10_likings 11 = .ok (.iload_n 3, 1) := by decide +kernel
theorem dX10_likings_12 : decode cX10_likings 12 = .ok (.invokevirtual 242, 3) := by decide +kernel
theorem dX10_likings_15 : decode cX10_likings 15 = .ok (.istore 4, 2) := by decide +kernel
theorem dX10_likings_17 : decode cX10_likings 17 = .ok (.iload_n 2, 1) := by decide +kernel
theorem dX10_likings_18 : decode cX10_likings 18 = .ok (.iload 4, 2) := by decide +kernel
theorem dX10_likings_20 : decode cX10_likings 20 = .ok (.iconst (-1), 1) := by decide +kernel
theorem dX10_likings_21 : decode cX10_likings 21 = .ok (.if_icmp .ne 7, 3) := by decide +kernel
theorem dX10_likings_24 : decode cX10_likings 24 = .ok (.iconst 0, 1) := by decide +kernel
theorem dX10_likings_25 : decode cX10_likings 25 = .ok (.goto 9, 3) := by decide +kernel
theorem dX10_likings_28 : decode cX10_likings 28 = .ok (.aload_n 0, 1) := by decide +kernel
theorem dX10_likings_29 : decode cX10_likings 29 = .ok (.iload 4, 2) := by decide +kernel
theorem dX10_likings_31 : decode cX10_likings 31 = .ok (.invokevirtual 246, 3) := by decide +kernel
theorem dX10_likings_34 : decode cX10_likings 34 = .ok (.iadd, 1) := by decide +kernel
theorem dX10_likings_35 : decode cX10_likings 35 = .ok (.istore_n 2, 1) := by decide +kernel
theorem dX10_likings_36 : decode cX10_likings 36 = .ok (.iinc 3 1, 3) := by decide +kernel
theorem dX10_likings_39 : decode cX10_likings 39 = .ok (.goto (-35), 3) := by decide +kernel
theorem dX10_likings_42 : decode cX10_likings 42 = .ok (.iload_n 2, 1) := by decide +kernel
theorem dX10_likings_43 : decode cX10_likings 43 = .ok (.ireturn, 1) := by decide +kernel
theorem dX10_isWest_0 : decode cX10_isWest 0 = .ok (.iload_n 1, 1) := by decide +kernel
theorem dX10_isWest_1 : decode cX10_isWest 1 = .ok (.aload_n 0, 1) := by decide +kernel
theorem dX10_isWest_2 : decode cX10_isWest 2 = .ok (.getfield 85, 3) := by decide +kernel
theorem dX10_isWest_5 : decode cX10_isWest 5 = .ok (.irem, 1) := by decide +kernel
theorem dX10_isWest_6 : decode cX10_isWest 6 = .ok (.istore_n 3, 1) := by decide +kernel
theorem dX10_isWest_7 : decode cX10_isWest 7 = .ok (.iload_n 1, 1) := by decide +kernel
theorem dX10_isWest_8 : decode cX10_isWest 8 = .ok (.aload_n 0, 1) := by decide +kernel
theorem dX10_isWest_9 : decode cX10_isWest 9 = .ok (.getfield 85, 3) := by decide +kernel
theorem dX10_isWest_12 : decode cX10_isWest 12 = .ok (.idiv, 1) := by decide +kernel
theorem dX10_isWest_13 : decode cX10_isWest 13 = .ok (.istore 4, 2) := by decide +kernel
theorem dX10_isWest_15 : decode cX10_isWest 15 = .ok (.iload_n 2, 1) := by decide +kernel
theorem dX10_isWest_16 : decode cX10_isWest 16 = .ok (.aload_n 0, 1) := by decide +kernel
theorem dX10_isWest_17 : decode cX10_isWest 17 = .ok (.getfield 85, 3) := by decide +kernel
theorem dX10_isWest_20 : decode cX10_isWest 20 = .ok (.irem, 1) := by decide +kernel
theorem dX10_isWest_21 : decode cX10_isWest 21 = .ok (.istore 5, 2) := by decide +kernel
theorem dX10_isWest_23 : decode cX10_isWest 23 = .ok (.iload_n 2, 1) := by decide +kernel
theorem dX10_isWest_24 : decode cX10_isWest 24 = .ok (.aload_n 0, 1) := by decide +kernel
theorem dX10_isWest_25 : decode cX10_isWest 25 = .ok (.getfield 85, 3) := by decide +kernel
theorem dX10_isWest_28 : decode cX10_isWest 28 = .ok (.idiv, 1) := by decide +kernel
theorem dX10_isWest_29 : decode cX10_isWest 29 = .ok (.istore 6, 2) := by decide +kernel
theorem dX10_isWest_31 : decode cX10_isWest 31 = .ok (.aload_n 0, 1) := by decide +kernel
theorem dX10_isWest_32 : decode cX10_isWest 32 = .ok (.getfield 7, 3) := by decide +kernel
theorem dX10_isWest_35 : decode cX10_isWest 35 = .ok (.bipush 86, 2) := by decide +kernel
theorem dX10_isWest_37 : decode cX10_isWest 37 = .ok (.iaload, 1) := by decide +kernel
theorem dX10_isWest_38 : decode cX10_isWest 38 = .ok (.ifCond .ne 28, 3) := by decide +kernel
theorem dX10_isWest_41 : decode cX10_isWest 41 = .ok (.iload_n 3, 1) := by decide +kernel
theorem dX10_isWest_42 : decode cX10_isWest 42 = .ok (.iload 5, 2) := by decide +kernel
theorem dX10_isWest_44 : decode cX10_isWest 44 = .ok (.if_icmp .lt 16, 3) := by decide +kernel
theorem dX10_isWest_47 : decode cX10_isWest 47 = .ok (.iload_n 3, 1) := by decide +kernel
theorem dX10_isWest_48 : decode cX10_isWest 48 = .ok (.iload 5, 2) := by decide +kernel
theorem dX10_isWest_50 : decode cX10_isWest 50 = .ok (.if_icmp .ne 14, 3) := by decide +kernel
theorem dX10_isWest_53 : decode cX10_isWest 53 = .ok (.iload 4, 2) := by decide +kernel
theorem dX10_isWest_55 : decode cX10_isWest 55 = .ok (.iload 6, 2) := by decide +kernel
theorem dX10_isWest_57 : decode cX10_isWest 57 = .ok (.if_icmp .ge 7, 3) := by decide +kernel
theorem dX10_isWest_60 : decode cX10_isWest 60 = .ok (.iconst 1, 1) := by decide +kernel
theorem dX10_isWest_61 : decode cX10_isWest 61 = .ok (.goto 4, 3) := by decide +kernel
theorem dX10_isWest_64 : decode cX10_isWest 64 = .ok (.iconst 0, 1) := by decide +kernel
theorem dX10_isWest_65 : decode cX10_isWest 65 = .ok (.ireturn, 1) := by decide +kernel
theorem dX10_isWest_66 : decode cX10_isWest 66 = .ok (.aload_n 0, 1) := by decide +kernel
theorem dX10_isWest_67 : decode cX10_isWest 67 = .ok (.getfield 7, 3) := by decide +kernel
theorem dX10_isWest_70 : decode cX10_isWest 70 = .ok (.bipush 86, 2) := by decide +kernel
theorem dX10_isWest_72 : decode cX10_isWest 72 = .ok (.iaload, 1) := by decide +kernel
theorem dX10_isWest_73 : decode cX10_isWest 73 = .ok (.iconst 1, 1) := by decide +kernel
theorem dX10_isWest_74 : decode cX10_isWest 74 = .ok (.if_icmp .ne 31, 3) := by decide +kernel
theorem dX10_isWest_77 : decode cX10_isWest 77 = .ok (.iload 4, 2) := by decide +kernel
theorem dX10_isWest_79 : decode cX10_isWest 79 = .ok (.iload 6, 2) := by decide +kernel
theorem dX10_isWest_81 : decode cX10_isWest 81 = .ok (.if_icmp .lt 16, 3) := by decide +kernel
theorem dX10_isWest_84 : decode cX10_isWest 84 = .ok (.iload 4, 2) := by decide +kernel
theorem dX10_isWest_86 : decode cX10_isWest 86 = .ok (.iload 6, 2) := by decide +kernel
theorem dX10_isWest_88 : decode cX10_isWest 88 = .ok (.if_icmp .ne 13, 3) := by decide +kernel
theorem dX10_isWest_91 : decode cX10_isWest 91 = .ok (.iload_n 3, 1) := by decide +kernel
theorem dX10_isWest_92 : decode cX10_isWest 92 = .ok (.iload 5, 2) := by decide +kernel
theorem dX10_isWest_94 : decode cX10_isWest 94 = .ok (.if_icmp .ge 7, 3) := by decide +kernel
theorem dX10_isWest_97 : decode cX10_isWest 97 = .ok (.iconst 1, 1) := by decide +kernel
theorem dX10_isWest_98 : decode cX10_isWest 98 = .ok (.goto 24, 3) := by decide +kernel
theorem dX10_isWest_101 : decode cX10_isWest 101 = .ok (.iconst 0, 1) := by decide +kernel
theorem dX10_isWest_102 : decode cX10_isWest 102 = .ok (.goto 20, 3) := by decide +kernel
theorem dX10_isWest_105 : decode cX10_isWest 105 = .ok (.iload_n 3, 1) := by decide +kernel
theorem dX10_isWest_106 : decode cX10_isWest 106 = .ok (.iload 4, 2) := by decide +kernel
theorem dX10_isWest_108 : decode cX10_isWest 108 = .ok (.iadd, 1) := by decide +kernel
theorem dX10_isWest_109 : decode cX10_isWest 109 = .ok (.iload 5, 2) := by decide +kernel
theorem dX10_isWest_111 : decode cX10_isWest 111 = .ok (.iload 6, 2) := by decide +kernel
theorem dX10_isWest_113 : decode cX10_isWest 113 = .ok (.iadd, 1) := by decide +kernel
theorem dX10_isWest_114 : decode cX10_isWest 114 = .ok (.if_icmp .ge 7, 3) := by decide +kernel
theorem dX10_isWest_117 : decode cX10_isWest 117 = .ok (.iconst 1, 1) := by decide +kernel
theorem dX10_isWest_118 : decode cX10_isWest 118 = .ok (.goto 4, 3) := by decide +kernel
theorem dX10_isWest_121 : decode cX10_isWest 121 = .ok (.iconst 0, 1) := by decide +kernel
theorem dX10_isWest_122 : decode cX10_isWest 122 = .ok (.ireturn, 1) := by decide +kernel
theorem dX10_tithesOf_0 : decode cX10_tithesOf 0 = .ok (.iconst 0, 1) := by decide +kernel
theorem dX10_tithesOf_1 : decode cX10_tithesOf 1 = .ok (.istore_n 3, 1) := by decide +kernel
theorem dX10_tithesOf_2 : decode cX10_tithesOf 2 = .ok (.iconst 0, 1) := by decide +kernel
theorem dX10_tithesOf_3 : decode cX10_tithesOf 3 = .ok (.istore 4, 2) := by decide +kernel
theorem dX10_tithesOf_5 : decode cX10_tithesOf 5 = .ok (.iload 4, 2) := by decide +kernel
theorem dX10_tithesOf_7 : decode cX10_tithesOf 7 = .ok (.aload_n 0, 1) := by decide +kernel
theorem dX10_tithesOf_8 : decode cX10_tithesOf 8 = .ok (.invokevirtual 225, 3) := by decide +kernel
theorem dX10_tithesOf_11 : decode cX10_tithesOf 11 = .ok (.if_icmp .ge 42, 3) := by decide +kernel
theorem dX10_tithesOf_14 : decode cX10_tithesOf 14 = .ok (.iload_n 3, 1) := by decide +kernel
theorem dX10_tithesOf_15 : decode cX10_tithesOf 15 = .ok (.aload_n 0, 1) := by decide +kernel
theorem dX10_tithesOf_16 : decode cX10_tithesOf 16 = .ok (.iload 4, 2) := by decide +kernel
theorem dX10_tithesOf_18 : decode cX10_tithesOf 18 = .ok (.iload_n 2, 1) := by decide +kernel
theorem dX10_tithesOf_19 : decode cX10_tithesOf 19 = .ok (.invokevirtual 249, 3) := by decide +kernel
theorem dX10_tithesOf_22 : decode cX10_tithesOf 22 = .ok (.iload_n 1, 1) := by decide +kernel
theorem dX10_tithesOf_23 : decode cX10_tithesOf 23 = .ok (.ifCond .ne 7, 3) := by decide +kernel
theorem dX10_tithesOf_26 : decode cX10_tithesOf 26 = .ok (.iconst 1, 1) := by decide +kernel
theorem dX10_tithesOf_27 : decode cX10_tithesOf 27 = .ok (.goto 4, 3) := by decide +kernel
theorem dX10_tithesOf_30 : decode cX10_tithesOf 30 = .ok (.iconst 0, 1) := by decide +kernel
theorem dX10_tithesOf_31 : decode cX10_tithesOf 31 = .ok (.if_icmp .ne 13, 3) := by decide +kernel
theorem dX10_tithesOf_34 : decode cX10_tithesOf 34 = .ok (.aload_n 0, 1) := by decide +kernel
theorem dX10_tithesOf_35 : decode cX10_tithesOf 35 = .ok (.getfield 23, 3) := by decide +kernel
theorem dX10_tithesOf_38 : decode cX10_tithesOf 38 = .ok (.iload 4, 2) := by decide +kernel
theorem dX10_tithesOf_40 : decode cX10_tithesOf 40 = .ok (.iaload, 1) := by decide +kernel
theorem dX10_tithesOf_41 : decode cX10_tithesOf 41 = .ok (.goto 4, 3) := by decide +kernel
theorem dX10_tithesOf_44 : decode cX10_tithesOf 44 = .ok (.iconst 0, 1) := by decide +kernel
theorem dX10_tithesOf_45 : decode cX10_tithesOf 45 = .ok (.iadd, 1) := by decide +kernel
theorem dX10_tithesOf_46 : decode cX10_tithesOf 46 = .ok (.istore_n 3, 1) := by decide +kernel
theorem dX10_tithesOf_47 : decode cX10_tithesOf 47 = .ok (.iinc 4 1, 3) := by decide +kernel
theorem dX10_tithesOf_50 : decode cX10_tithesOf 50 = .ok (.goto (-45), 3) := by decide +kernel
theorem dX10_tithesOf_53 : decode cX10_tithesOf 53 = .ok (.iload_n 3, 1) := by decide +kernel
theorem dX10_tithesOf_54 : decode cX10_tithesOf 54 = .ok (.ireturn, 1) := by decide +kernel
theorem dX10_cell_0 : decode cX10_cell 0 = .ok (.aload_n 0, 1) := by decide +kernel
theorem dX10_cell_1 : decode cX10_cell 1 = .ok (.iload_n 1, 1) := by decide +kernel
theorem dX10_cell_2 : decode cX10_cell 2 = .ok (.iload_n 2, 1) := by decide +kernel
theorem dX10_cell_3 : decode cX10_cell 3 = .ok (.invokevirtual 239, 3) := by decide +kernel
theorem dX10_cell_6 : decode cX10_cell 6 = .ok (.ifCond .ne 6, 3) := by decide +kernel
theorem dX10_cell_9 : decode cX10_cell 9 = .ok (.ldc 252, 2) := by decide +kernel
theorem dX10_cell_11 : decode cX10_cell 11 = .ok (.ireturn, 1) := by decide +kernel
theorem dX10_cell_12 : decode cX10_cell 12 = .ok (.aload_n 0, 1) := by decide +kernel
theorem dX10_cell_13 : decode cX10_cell 13 = .ok (.getfield 85, 3) := by decide +kernel
theorem dX10_cell_16 : decode cX10_cell 16 = .ok (.iload_n 2, 1) := by decide +kernel
theorem dX10_cell_17 : decode cX10_cell 17 = .ok (.imul, 1) := by decide +kernel
theorem dX10_cell_18 : decode cX10_cell 18 = .ok (.iload_n 1, 1) := by decide +kernel
theorem dX10_cell_19 : decode cX10_cell 19 = .ok (.iadd, 1) := by decide +kernel
theorem dX10_cell_20 : decode cX10_cell 20 = .ok (.istore 4, 2) := by decide +kernel
theorem dX10_cell_22 : decode cX10_cell 22 = .ok (.iload_n 3, 1) := by decide +kernel
theorem dX10_cell_23 : decode cX10_cell 23 = .ok (.tableswitch 77 0 4 #[33, 43, 54, 62, 70], 33) := by decide +kernel
theorem dX10_cell_56 : decode cX10_cell 56 = .ok (.aload_n 0, 1) := by decide +kernel
theorem dX10_cell_57 : decode cX10_cell 57 = .ok (.getfield 7, 3) := by decide +kernel
theorem dX10_cell_60 : decode cX10_cell 60 = .ok (.iconst 0, 1) := by decide +kernel
theorem dX10_cell_61 : decode cX10_cell 61 = .ok (.iload 4, 2) := by decide +kernel
theorem dX10_cell_63 : decode cX10_cell 63 = .ok (.iadd, 1) := by decide +kernel
theorem dX10_cell_64 : decode cX10_cell 64 = .ok (.iaload, 1) := by decide +kernel
theorem dX10_cell_65 : decode cX10_cell 65 = .ok (.ireturn, 1) := by decide +kernel
theorem dX10_cell_66 : decode cX10_cell 66 = .ok (.aload_n 0, 1) := by decide +kernel
theorem dX10_cell_67 : decode cX10_cell 67 = .ok (.getfield 7, 3) := by decide +kernel
theorem dX10_cell_70 : decode cX10_cell 70 = .ok (.bipush 40, 2) := by decide +kernel
theorem dX10_cell_72 : decode cX10_cell 72 = .ok (.iload 4, 2) := by decide +kernel
theorem dX10_cell_74 : decode cX10_cell 74 = .ok (.iadd, 1) := by decide +kernel
theorem dX10_cell_75 : decode cX10_cell 75 = .ok (.iaload, 1) := by decide +kernel
theorem dX10_cell_76 : decode cX10_cell 76 = .ok (.ireturn, 1) := by decide +kernel
theorem dX10_cell_77 : decode cX10_cell 77 = .ok (.aload_n 0, 1) := by decide +kernel
theorem dX10_cell_78 : decode cX10_cell 78 = .ok (.getfield 20, 3) := by decide +kernel
theorem dX10_cell_81 : decode cX10_cell 81 = .ok (.iload 4, 2) := by decide +kernel
theorem dX10_cell_83 : decode cX10_cell 83 = .ok (.iaload, 1) := by decide +kernel
theorem dX10_cell_84 : decode cX10_cell 84 = .ok (.ireturn, 1) := by decide +kernel
theorem dX10_cell_85 : decode cX10_cell 85 = .ok (.aload_n 0, 1) := by decide +kernel
theorem dX10_cell_86 : decode cX10_cell 86 = .ok (.getfield 23, 3) := by decide +kernel
theorem dX10_cell_89 : decode cX10_cell 89 = .ok (.iload 4, 2) := by decide +kernel
theorem dX10_cell_91 : decode cX10_cell 91 = .ok (.iaload, 1) := by decide +kernel
theorem dX10_cell_92 : decode cX10_cell 92 = .ok (.ireturn, 1) := by decide +kernel
theorem dX10_cell_93 : decode cX10_cell 93 = .ok (.aload_n 0, 1) := by decide +kernel
theorem dX10_cell_94 : decode cX10_cell 94 = .ok (.iload 4, 2) := by decide +kernel
theorem dX10_cell_96 : decode cX10_cell 96 = .ok (.invokevirtual 246, 3) := by decide +kernel
theorem dX10_cell_99 : decode cX10_cell 99 = .ok (.ireturn, 1) := by decide +kernel
theorem dX10_cell_100 : decode cX10_cell 100 = .ok (.ldc 97, 2) := by decide +kernel
theorem dX10_cell_102 : decode cX10_cell 102 = .ok (.ireturn, 1) := by decide +kernel
theorem dX10_tithes_0 : decode cX10_tithes 0 = .ok (.iload_n 1, 1) := by decide +kernel
theorem dX10_tithes_1 : decode cX10_tithes 1 = .ok (.invokestatic 253, 3) := by decide +kernel
theorem dX10_tithes_4 : decode cX10_tithes 4 = .ok (.ifCond .eq 28, 3) := by decide +kernel
theorem dX10_tithes_7 : decode cX10_tithes 7 = .ok (.aload_n 0, 1) := by decide +kernel
theorem dX10_tithes_8 : decode cX10_tithes 8 = .ok (.iload_n 2, 1) := by decide +kernel
theorem dX10_tithes_9 : decode cX10_tithes 9 = .ok (.iload_n 3, 1) := by decide +kernel
theorem dX10_tithes_10 : decode cX10_tithes 10 = .ok (.invokevirtual 239, 3) := by decide +kernel
theorem dX10_tithes_13 : decode cX10_tithes 13 = .ok (.ifCond .eq 19, 3) := by decide +kernel
theorem dX10_tithes_16 : decode cX10_tithes 16 = .ok (.aload_n 0, 1) := by decide +kernel
theorem dX10_tithes_17 : decode cX10_tithes 17 = .ok (.iload_n 1, 1) := by decide +kernel
theorem dX10_tithes_18 : decode cX10_tithes 18 = .ok (.aload_n 0, 1) := by decide +kernel
theorem dX10_tithes_19 : decode cX10_tithes 19 = .ok (.getfield 85, 3) := by decide +kernel
theorem dX10_tithes_22 : decode cX10_tithes 22 = .ok (.iload_n 3, 1) := by decide +kernel
theorem dX10_tithes_23 : decode cX10_tithes 23 = .ok (.imul, 1) := by decide +kernel
theorem dX10_tithes_24 : decode cX10_tithes 24 = .ok (.iload_n 2, 1) := by decide +kernel
theorem dX10_tithes_25 : decode cX10_tithes 25 = .ok (.iadd, 1) := by decide +kernel
theorem dX10_tithes_26 : decode cX10_tithes 26 = .ok (.invokevirtual 256, 3) := by decide +kernel
theorem dX10_tithes_29 : decode cX10_tithes 29 = .ok (.goto 5, 3) := by decide +kernel
theorem dX10_tithes_32 : decode cX10_tithes 32 = .ok (.ldc 252, 2) := by decide +kernel
theorem dX10_tithes_34 : decode cX10_tithes 34 = .ok (.ireturn, 1) := by decide +kernel
theorem dX10_draw_0 : decode cX10_draw 0 = .ok (.aload_n 0, 1) := by decide +kernel
theorem dX10_draw_1 : decode cX10_draw 1 = .ok (.getfield 7, 3) := by decide +kernel
theorem dX10_draw_4 : decode cX10_draw 4 = .ok (.bipush 87, 2) := by decide +kernel
theorem dX10_draw_6 : decode cX10_draw 6 = .ok (.aload_n 0, 1) := by decide +kernel
theorem dX10_draw_7 : decode cX10_draw 7 = .ok (.getfield 7, 3) := by decide +kernel
theorem dX10_draw_10 : decode cX10_draw 10 = .ok (.bipush 87, 2) := by decide +kernel
theorem dX10_draw_12 : decode cX10_draw 12 = .ok (.iaload, 1) := by decide +kernel
theorem dX10_draw_13 : decode cX10_draw 13 = .ok (.i2l, 1) := by decide +kernel
theorem dX10_draw_14 : decode cX10_draw 14 = .ok (.ldc2_w 259, 3) := by decide +kernel
theorem dX10_draw_17 : decode cX10_draw 17 = .ok (.lmul, 1) := by decide +kernel
theorem dX10_draw_18 : decode cX10_draw 18 = .ok (.ldc2_w 261, 3) := by decide +kernel
theorem dX10_draw_21 : decode cX10_draw 21 = .ok (.ladd, 1) := by decide +kernel
theorem dX10_draw_22 : decode cX10_draw 22 = .ok (.ldc2_w 263, 3) := by decide +kernel
theorem dX10_draw_25 : decode cX10_draw 25 = .ok (.lrem, 1) := by decide +kernel
theorem dX10_draw_26 : decode cX10_draw 26 = .ok (.l2i, 1) := by decide +kernel
theorem dX10_draw_27 : decode cX10_draw 27 = .ok (.iastore, 1) := by decide +kernel
theorem dX10_draw_28 : decode cX10_draw 28 = .ok (.aload_n 0, 1) := by decide +kernel
theorem dX10_draw_29 : decode cX10_draw 29 = .ok (.getfield 7, 3) := by decide +kernel
theorem dX10_draw_32 : decode cX10_draw 32 = .ok (.bipush 87, 2) := by decide +kernel
theorem dX10_draw_34 : decode cX10_draw 34 = .ok (.iaload, 1) := by decide +kernel
theorem dX10_draw_35 : decode cX10_draw 35 = .ok (.ldc_w 265, 3) := by decide +kernel
theorem dX10_draw_38 : decode cX10_draw 38 = .ok (.idiv, 1) := by decide +kernel
theorem dX10_draw_39 : decode cX10_draw 39 = .ok (.iload_n 1, 1) := by decide +kernel
theorem dX10_draw_40 : decode cX10_draw 40 = .ok (.irem, 1) := by decide +kernel
theorem dX10_draw_41 : decode cX10_draw 41 = .ok (.ireturn, 1) := by decide +kernel
theorem dX10_goHour_0 : decode cX10_goHour 0 = .ok (.aload_n 0, 1) := by decide +kernel
theorem dX10_goHour_1 : decode cX10_goHour 1 = .ok (.aload_n 0, 1) := by decide +kernel
theorem dX10_goHour_2 : decode cX10_goHour 2 = .ok (.iload_n 1, 1) := by decide +kernel
theorem dX10_goHour_3 : decode cX10_goHour 3 = .ok (.invokevirtual 266, 3) := by decide +kernel
theorem dX10_goHour_6 : decode cX10_goHour 6 = .ok (.invokevirtual 269, 3) := by decide +kernel
theorem dX10_goHour_9 : decode cX10_goHour 9 = .ok (.istore_n 2, 1) := by decide +kernel
theorem dX10_goHour_10 : decode cX10_goHour 10 = .ok (.iconst 0, 1) := by decide +kernel
theorem dX10_goHour_11 : decode cX10_goHour 11 = .ok (.istore_n 3, 1) := by decide +kernel
theorem dX10_goHour_12 : decode cX10_goHour 12 = .ok (.aload_n 0, 1) := by decide +kernel
theorem dX10_goHour_13 : decode cX10_goHour 13 = .ok (.iload_n 1, 1) := by decide +kernel
theorem dX10_goHour_14 : decode cX10_goHour 14 = .ok (.iconst 0, 1) := by decide +kernel
theorem dX10_goHour_15 : decode cX10_goHour 15 = .ok (.invokevirtual 242, 3) := by decide +kernel
theorem dX10_goHour_18 : decode cX10_goHour 18 = .ok (.istore 4, 2) := by decide +kernel
theorem dX10_goHour_20 : decode cX10_goHour 20 = .ok (.aload_n 0, 1) := by decide +kernel
theorem dX10_goHour_21 : decode cX10_goHour 21 = .ok (.iload 4, 2) := by decide +kernel
theorem dX10_goHour_23 : decode cX10_goHour 23 = .ok (.invokevirtual 246, 3) := by decide +kernel
theorem dX10_goHour_26 : decode cX10_goHour 26 = .ok (.istore 5, 2) := by decide +kernel
theorem dX10_goHour_28 : decode cX10_goHour 28 = .ok (.iload 5, 2) := by decide +kernel
theorem dX10_goHour_30 : decode cX10_goHour 30 = .ok (.iload_n 2, 1) := by decide +kernel
theorem dX10_goHour_31 : decode cX10_goHour 31 = .ok (.if_icmp .gt 38, 3) := by decide +kernel
theorem dX10_goHour_34 : decode cX10_goHour 34 = .ok (.iinc 3 1, 3) := by decide +kernel
theorem dX10_goHour_37 : decode cX10_goHour 37 = .ok (.aload_n 0, 1) := by decide +kernel
theorem dX10_goHour_38 : decode cX10_goHour 38 = .ok (.iload_n 1, 1) := by decide +kernel
theorem dX10_goHour_39 : decode cX10_goHour 39 = .ok (.iload_n 3, 1) := by decide +kernel
theorem dX10_goHour_40 : decode cX10_goHour 40 = .ok (.invokevirtual 242, 3) := by decide +kernel
theorem dX10_goHour_43 : decode cX10_goHour 43 = .ok (.istore 4, 2) := by decide +kernel
theorem dX10_goHour_45 : decode cX10_goHour 45 = .ok (.iload 5, 2) := by decide +kernel
theorem dX10_goHour_47 : decode cX10_goHour 47 = .ok (.iload 4, 2) := by decide +kernel
theorem dX10_goHour_49 : decode cX10_goHour 49 = .ok (.iconst (-1), 1) := by decide +kernel
theorem dX10_goHour_50 : decode cX10_goHour 50 = .ok (.if_icmp .ne 7, 3) := by decide +kernel
theorem dX10_goHour_53 : decode cX10_goHour 53 = .ok (.iconst 0, 1) := by decide +kernel
theorem dX10_goHour_54 : decode cX10_goHour 54 = .ok (.goto 9, 3) := by decide +kernel
theorem dX10_goHour_57 : decode cX10_goHour 57 = .ok (.aload_n 0, 1) := by decide +kernel
theorem dX10_goHour_58 : decode cX10_goHour 58 = .ok (.iload 4, 2) := by decide +kernel
theorem dX10_goHour_60 : decode cX10_goHour 60 = .ok (.invokevirtual 246, 3) := by decide +kernel
theorem dX10_goHour_63 : decode cX10_goHour 63 = .ok (.iadd, 1) := by decide +kernel
theorem dX10_goHour_64 : decode cX10_goHour 64 = .ok (.istore 5, 2) := by decide +kernel
theorem dX10_goHour_66 : decode cX10_goHour 66 = .ok (.goto (-38), 3) := by decide +kernel
theorem dX10_goHour_69 : decode cX10_goHour 69 = .ok (.aload_n 0, 1) := by decide +kernel
theorem dX10_goHour_70 : decode cX10_goHour 70 = .ok (.getfield 7, 3) := by decide +kernel
theorem dX10_goHour_73 : decode cX10_goHour 73 = .ok (.iconst 0, 1) := by decide +kernel
theorem dX10_goHour_74 : decode cX10_goHour 74 = .ok (.iload 4, 2) := by decide +kernel
theorem dX10_goHour_76 : decode cX10_goHour 76 = .ok (.iadd, 1) := by decide +kernel
theorem dX10_goHour_77 : decode cX10_goHour 77 = .ok (.dup2, 1) := by decide +kernel
theorem dX10_goHour_78 : decode cX10_goHour 78 = .ok (.iaload, 1) := by decide +kernel
theorem dX10_goHour_79 : decode cX10_goHour 79 = .ok (.aload_n 0, 1) := by decide +kernel
theorem dX10_goHour_80 : decode cX10_goHour 80 = .ok (.getfield 7, 3) := by decide +kernel
theorem dX10_goHour_83 : decode cX10_goHour 83 = .ok (.iconst 0, 1) := by decide +kernel
theorem dX10_goHour_84 : decode cX10_goHour 84 = .ok (.iload 4, 2) := by decide +kernel
theorem dX10_goHour_86 : decode cX10_goHour 86 = .ok (.iadd, 1) := by decide +kernel
theorem dX10_goHour_87 : decode cX10_goHour 87 = .ok (.iaload, 1) := by decide +kernel
theorem dX10_goHour_88 : decode cX10_goHour 88 = .ok (.ifCond .le 7, 3) := by decide +kernel
theorem dX10_goHour_91 : decode cX10_goHour 91 = .ok (.iconst 1, 1) := by decide +kernel
theorem dX10_goHour_92 : decode cX10_goHour 92 = .ok (.goto 4, 3) := by decide +kernel
theorem dX10_goHour_95 : decode cX10_goHour 95 = .ok (.iconst 0, 1) := by decide +kernel
theorem dX10_goHour_96 : decode cX10_goHour 96 = .ok (.isub, 1) := by decide +kernel
theorem dX10_goHour_97 : decode cX10_goHour 97 = .ok (.iastore, 1) := by decide +kernel
theorem dX10_goHour_98 : decode cX10_goHour 98 = .ok (.iload 4, 2) := by decide +kernel
theorem dX10_goHour_100 : decode cX10_goHour 100 = .ok (.ireturn, 1) := by decide +kernel
theorem dX10_day_0 : decode cX10_day 0 = .ok (.iload_n 1, 1) := by decide +kernel
theorem dX10_day_1 : decode cX10_day 1 = .ok (.i2l, 1) := by decide +kernel
theorem dX10_day_2 : decode cX10_day 2 = .ok (.lconst 1, 1) := by decide +kernel
theorem dX10_day_3 : decode cX10_day 3 = .ok (.ldc2_w 272, 3) := by decide +kernel
theorem dX10_day_6 : decode cX10_day 6 = .ok (.invokestatic 91, 3) := by decide +kernel
theorem dX10_day_9 : decode cX10_day 9 = .ok (.ifCond .ne 6, 3) := by decide +kernel
theorem dX10_day_12 : decode cX10_day 12 = .ok (.ldc 97, 2) := by decide +kernel
theorem dX10_day_14 : decode cX10_day 14 = .ok (.ireturn, 1) := by decide +kernel
theorem dX10_day_15 : decode cX10_day 15 = .ok (.aload_n 0, 1) := by decide +kernel
theorem dX10_day_16 : decode cX10_day 16 = .ok (.invokevirtual 225, 3) := by decide +kernel
theorem dX10_day_19 : decode cX10_day 19 = .ok (.ifCond .ne 7, 3) := by decide +kernel
theorem dX10_day_22 : decode cX10_day 22 = .ok (.ldc_w 274, 3) := by decide +kernel
theorem dX10_day_25 : decode cX10_day 25 = .ok (.ireturn, 1) := by decide +kernel
theorem dX10_day_26 : decode cX10_day 26 = .ok (.iconst 0, 1) := by decide +kernel
theorem dX10_day_27 : decode cX10_day 27 = .ok (.istore_n 2, 1) := by decide +kernel
theorem dX10_day_28 : decode cX10_day 28 = .ok (.iload_n 2, 1) := by decide +kernel
theorem dX10_day_29 : decode cX10_day 29 = .ok (.iload_n 1, 1) := by decide +kernel
theorem dX10_day_30 : decode cX10_day 30 = .ok (.if_icmp .ge 157, 3) := by decide +kernel
theorem dX10_day_33 : decode cX10_day 33 = .ok (.aload_n 0, 1) := by decide +kernel
theorem dX10_day_34 : decode cX10_day 34 = .ok (.getfield 7, 3) := by decide +kernel
theorem dX10_day_37 : decode cX10_day 37 = .ok (.bipush 80, 2) := by decide +kernel
theorem dX10_day_39 : decode cX10_day 39 = .ok (.iaload, 1) := by decide +kernel
theorem dX10_day_40 : decode cX10_day 40 = .ok (.istore_n 3, 1) := by decide +kernel
theorem dX10_day_41 : decode cX10_day 41 = .ok (.iconst 0, 1) := by decide +kernel
theorem dX10_day_42 : decode cX10_day 42 = .ok (.istore 4, 2) := by decide +kernel
theorem dX10_day_44 : decode cX10_day 44 = .ok (.iload 4, 2) := by decide +kernel
theorem dX10_day_46 : decode cX10_day 46 = .ok (.aload_n 0, 1) := by decide +kernel
theorem dX10_day_47 : decode cX10_day 47 = .ok (.getfield 26, 3) := by decide +kernel
theorem dX10_day_50 : decode cX10_day 50 = .ok (.if_icmp .ge 15, 3) := by decide +kernel
theorem dX10_day_53 : decode cX10_day 53 = .ok (.aload_n 0, 1) := by decide +kernel
theorem dX10_day_54 : decode cX10_day 54 = .ok (.iload_n 3, 1) := by decide +kernel
theorem dX10_day_55 : decode cX10_day 55 = .ok (.invokevirtual 275, 3) := by decide +kernel
theorem dX10_day_58 : decode cX10_day 58 = .ok (.istore_n 3, 1) := by decide +kernel
theorem dX10_day_59 : decode cX10_day 59 = .ok (.iinc 4 1, 3) := by decide +kernel
theorem dX10_day_62 : decode cX10_day 62 = .ok (.goto (-18), 3) := by decide +kernel
theorem dX10_day_65 : decode cX10_day 65 = .ok (.aload_n 0, 1) := by decide +kernel
theorem dX10_day_66 : decode cX10_day 66 = .ok (.getfield 7, 3) := by decide +kernel
theorem dX10_day_69 : decode cX10_day 69 = .ok (.bipush 81, 2) := by decide +kernel
theorem dX10_day_71 : decode cX10_day 71 = .ok (.iload_n 3, 1) := by decide +kernel
theorem dX10_day_72 : decode cX10_day 72 = .ok (.iastore, 1) := by decide +kernel
theorem dX10_day_73 : decode cX10_day 73 = .ok (.aload_n 0, 1) := by decide +kernel
theorem dX10_day_74 : decode cX10_day 74 = .ok (.getfield 7, 3) := by decide +kernel
theorem dX10_day_77 : decode cX10_day 77 = .ok (.bipush 83, 2) := by decide +kernel
theorem dX10_day_79 : decode cX10_day 79 = .ok (.dup2, 1) := by decide +kernel
theorem dX10_day_80 : decode cX10_day 80 = .ok (.iaload, 1) := by decide +kernel
theorem dX10_day_81 : decode cX10_day 81 = .ok (.aload_n 0, 1) := by decide +kernel
theorem dX10_day_82 : decode cX10_day 82 = .ok (.iconst 0, 1) := by decide +kernel
theorem dX10_day_83 : decode cX10_day 83 = .ok (.iload_n 3, 1) := by decide +kernel
theorem dX10_day_84 : decode cX10_day 84 = .ok (.invokevirtual 256, 3) := by decide +kernel
theorem dX10_day_87 : decode cX10_day 87 = .ok (.iadd, 1) := by decide +kernel
theorem dX10_day_88 : decode cX10_day 88 = .ok (.iastore, 1) := by decide +kernel
theorem dX10_day_89 : decode cX10_day 89 = .ok (.aload_n 0, 1) := by decide +kernel
theorem dX10_day_90 : decode cX10_day 90 = .ok (.getfield 7, 3) := by decide +kernel
theorem dX10_day_93 : decode cX10_day 93 = .ok (.bipush 84, 2) := by decide +kernel
theorem dX10_day_95 : decode cX10_day 95 = .ok (.dup2, 1) := by decide +kernel
theorem dX10_day_96 : decode cX10_day 96 = .ok (.iaload, 1) := by decide +kernel
theorem dX10_day_97 : decode cX10_day 97 = .ok (.aload_n 0, 1) := by decide +kernel
theorem dX10_day_98 : decode cX10_day 98 = .ok (.iconst 1, 1) := by decide +kernel
theorem dX10_day_99 : decode cX10_day 99 = .ok (.iload_n 3, 1) := by decide +kernel
theorem dX10_day_100 : decode cX10_day 100 = .ok (.invokevirtual 256, 3) := by decide +kernel
theorem dX10_day_103 : decode cX10_day 103 = .ok (.iadd, 1) := by decide +kernel
theorem dX10_day_104 : decode cX10_day 104 = .ok (.iastore, 1) := by decide +kernel
theorem dX10_day_105 : decode cX10_day 105 = .ok (.iconst 0, 1) := by decide +kernel
theorem dX10_day_106 : decode cX10_day 106 = .ok (.istore 4, 2) := by decide +kernel
theorem dX10_day_108 : decode cX10_day 108 = .ok (.iload 4, 2) := by decide +kernel
theorem dX10_day_110 : decode cX10_day 110 = .ok (.aload_n 0, 1) := by decide +kernel
theorem dX10_day_111 : decode cX10_day 111 = .ok (.invokevirtual 225, 3) := by decide +kernel
theorem dX10_day_114 : decode cX10_day 114 = .ok (.if_icmp .ge 48, 3) := by decide +kernel
theorem dX10_day_117 : decode cX10_day 117 = .ok (.aload_n 0, 1) := by decide +kernel
theorem dX10_day_118 : decode cX10_day 118 = .ok (.getfield 7, 3) := by decide +kernel
theorem dX10_day_121 : decode cX10_day 121 = .ok (.iconst 0, 1) := by decide +kernel
theorem dX10_day_122 : decode cX10_day 122 = .ok (.iload 4, 2) := by decide +kernel
theorem dX10_day_124 : decode cX10_day 124 = .ok (.iadd, 1) := by decide +kernel
theorem dX10_day_125 : decode cX10_day 125 = .ok (.dup2, 1) := by decide +kernel
theorem dX10_day_126 : decode cX10_day 126 = .ok (.iaload, 1) := by decide +kernel
theorem dX10_day_127 : decode cX10_day 127 = .ok (.aload_n 0, 1) := by decide +kernel
theorem dX10_day_128 : decode cX10_day 128 = .ok (.getfield 7, 3) := by decide +kernel
theorem dX10_day_131 : decode cX10_day 131 = .ok (.iconst 0, 1) := by decide +kernel
theorem dX10_day_132 : decode cX10_day 132 = .ok (.iload 4, 2) := by decide +kernel
theorem dX10_day_134 : decode cX10_day 134 = .ok (.iadd, 1) := by decide +kernel
theorem dX10_day_135 : decode cX10_day 135 = .ok (.iaload, 1) := by decide +kernel
theorem dX10_day_136 : decode cX10_day 136 = .ok (.aload_n 0, 1) := by decide +kernel
theorem dX10_day_137 : decode cX10_day 137 = .ok (.getfield 7, 3) := by decide +kernel
theorem dX10_day_140 : decode cX10_day 140 = .ok (.bipush 40, 2) := by decide +kernel
theorem dX10_day_142 : decode cX10_day 142 = .ok (.iload 4, 2) := by decide +kernel
theorem dX10_day_144 : decode cX10_day 144 = .ok (.iadd, 1) := by decide +kernel
theorem dX10_day_145 : decode cX10_day 145 = .ok (.iaload, 1) := by decide +kernel
theorem dX10_day_146 : decode cX10_day 146 = .ok (.if_icmp .ge 7, 3) := by decide +kernel
theorem dX10_day_149 : decode cX10_day 149 = .ok (.iconst 1, 1) := by decide +kernel
theorem dX10_day_150 : decode cX10_day 150 = .ok (.goto 4, 3) := by decide +kernel
theorem dX10_day_153 : decode cX10_day 153 = .ok (.iconst 0, 1) := by decide +kernel
theorem dX10_day_154 : decode cX10_day 154 = .ok (.iadd, 1) := by decide +kernel
theorem dX10_day_155 : decode cX10_day 155 = .ok (.iastore, 1) := by decide +kernel
theorem dX10_day_156 : decode cX10_day 156 = .ok (.iinc 4 1, 3) := by decide +kernel
theorem dX10_day_159 : decode cX10_day 159 = .ok (.goto (-51), 3) := by decide +kernel
theorem dX10_day_162 : decode cX10_day 162 = .ok (.aload_n 0, 1) := by decide +kernel
theorem dX10_day_163 : decode cX10_day 163 = .ok (.getfield 7, 3) := by decide +kernel
theorem dX10_day_166 : decode cX10_day 166 = .ok (.bipush 80, 2) := by decide +kernel
theorem dX10_day_168 : decode cX10_day 168 = .ok (.iload_n 3, 1) := by decide +kernel
theorem dX10_day_169 : decode cX10_day 169 = .ok (.iastore, 1) := by decide +kernel
theorem dX10_day_170 : decode cX10_day 170 = .ok (.aload_n 0, 1) := by decide +kernel
theorem dX10_day_171 : decode cX10_day 171 = .ok (.getfield 7, 3) := by decide +kernel
theorem dX10_day_174 : decode cX10_day 174 = .ok (.bipush 85, 2) := by decide +kernel
theorem dX10_day_176 : decode cX10_day 176 = .ok (.dup2, 1) := by decide +kernel
theorem dX10_day_177 : decode cX10_day 177 = .ok (.iaload, 1) := by decide +kernel
theorem dX10_day_178 : decode cX10_day 178 = .ok (.iconst 1, 1) := by decide +kernel
theorem dX10_day_179 : decode cX10_day 179 = .ok (.iadd, 1) := by decide +kernel
theorem dX10_day_180 : decode cX10_day 180 = .ok (.iastore, 1) := by decide +kernel
theorem dX10_day_181 : decode cX10_day 181 = .ok (.iinc 2 1, 3) := by decide +kernel
theorem dX10_day_184 : decode cX10_day 184 = .ok (.goto (-156), 3) := by decide +kernel
theorem dX10_day_187 : decode cX10_day 187 = .ok (.aload_n 0, 1) := by decide +kernel
theorem dX10_day_188 : decode cX10_day 188 = .ok (.aload_n 0, 1) := by decide +kernel
theorem dX10_day_189 : decode cX10_day 189 = .ok (.getfield 7, 3) := by decide +kernel
theorem dX10_day_192 : decode cX10_day 192 = .ok (.bipush 81, 2) := by decide +kernel
theorem dX10_day_194 : decode cX10_day 194 = .ok (.iaload, 1) := by decide +kernel
theorem dX10_day_195 : decode cX10_day 195 = .ok (.invokevirtual 235, 3) := by decide +kernel
theorem dX10_day_198 : decode cX10_day 198 = .ok (.ireturn, 1) := by decide +kernel
theorem dX10_law_0 : decode cX10_law 0 = .ok (.iload_n 1, 1) := by decide +kernel
theorem dX10_law_1 : decode cX10_law 1 = .ok (.i2l, 1) := by decide +kernel
theorem dX10_law_2 : decode cX10_law 2 = .ok (.lconst 0, 1) := by decide +kernel
theorem dX10_law_3 : decode cX10_law 3 = .ok (.ldc2_w 278, 3) := by decide +kernel
theorem dX10_law_6 : decode cX10_law 6 = .ok (.invokestatic 91, 3) := by decide +kernel
theorem dX10_law_9 : decode cX10_law 9 = .ok (.ifCond .ne 6, 3) := by decide +kernel
theorem dX10_law_12 : decode cX10_law 12 = .ok (.ldc 97, 2) := by decide +kernel
theorem dX10_law_14 : decode cX10_law 14 = .ok (.ireturn, 1) := by decide +kernel
theorem dX10_law_15 : decode cX10_law 15 = .ok (.aload_n 0, 1) := by decide +kernel
theorem dX10_law_16 : decode cX10_law 16 = .ok (.getfield 7, 3) := by decide +kernel
theorem dX10_law_19 : decode cX10_law 19 = .ok (.bipush 86, 2) := by decide +kernel
theorem dX10_law_21 : decode cX10_law 21 = .ok (.iaload, 1) := by decide +kernel
theorem dX10_law_22 : decode cX10_law 22 = .ok (.istore_n 2, 1) := by decide +kernel
theorem dX10_law_23 : decode cX10_law 23 = .ok (.aload_n 0, 1) := by decide +kernel
theorem dX10_law_24 : decode cX10_law 24 = .ok (.getfield 7, 3) := by decide +kernel
theorem dX10_law_27 : decode cX10_law 27 = .ok (.bipush 86, 2) := by decide +kernel
theorem dX10_law_29 : decode cX10_law 29 = .ok (.iload_n 1, 1) := by decide +kernel
theorem dX10_law_30 : decode cX10_law 30 = .ok (.iastore, 1) := by decide +kernel
theorem dX10_law_31 : decode cX10_law 31 = .ok (.iload_n 2, 1) := by decide +kernel
theorem dX10_law_32 : decode cX10_law 32 = .ok (.ireturn, 1) := by decide +kernel
theorem dX10_sowOn_0 : decode cX10_sowOn 0 = .ok (.aload_n 0, 1) := by decide +kernel
theorem dX10_sowOn_1 : decode cX10_sowOn 1 = .ok (.getfield 7, 3) := by decide +kernel
theorem dX10_sowOn_4 : decode cX10_sowOn 4 = .ok (.iconst 0, 1) := by decide +kernel
theorem dX10_sowOn_5 : decode cX10_sowOn 5 = .ok (.iload_n 1, 1) := by decide +kernel
theorem dX10_sowOn_6 : decode cX10_sowOn 6 = .ok (.iadd, 1) := by decide +kernel
theorem dX10_sowOn_7 : decode cX10_sowOn 7 = .ok (.iaload, 1) := by decide +kernel
theorem dX10_sowOn_8 : decode cX10_sowOn 8 = .ok (.iload_n 2, 1) := by decide +kernel
theorem dX10_sowOn_9 : decode cX10_sowOn 9 = .ok (.iadd, 1) := by decide +kernel
theorem dX10_sowOn_10 : decode cX10_sowOn 10 = .ok (.istore_n 3, 1) := by decide +kernel
theorem dX10_sowOn_11 : decode cX10_sowOn 11 = .ok (.aload_n 0, 1) := by decide +kernel
theorem dX10_sowOn_12 : decode cX10_sowOn 12 = .ok (.getfield 7, 3) := by decide +kernel
theorem dX10_sowOn_15 : decode cX10_sowOn 15 = .ok (.bipush 40, 2) := by decide +kernel
theorem dX10_sowOn_17 : decode cX10_sowOn 17 = .ok (.iload_n 1, 1) := by decide +kernel
theorem dX10_sowOn_18 : decode cX10_sowOn 18 = .ok (.iadd, 1) := by decide +kernel
theorem dX10_sowOn_19 : decode cX10_sowOn 19 = .ok (.iaload, 1) := by decide +kernel
theorem dX10_sowOn_20 : decode cX10_sowOn 20 = .ok (.iload_n 2, 1) := by decide +kernel
theorem dX10_sowOn_21 : decode cX10_sowOn 21 = .ok (.iadd, 1) := by decide +kernel
theorem dX10_sowOn_22 : decode cX10_sowOn 22 = .ok (.istore 4, 2) := by decide +kernel
theorem dX10_sowOn_24 : decode cX10_sowOn 24 = .ok (.aload_n 0, 1) := by decide +kernel
theorem dX10_sowOn_25 : decode cX10_sowOn 25 = .ok (.getfield 7, 3) := by decide +kernel
theorem dX10_sowOn_28 : decode cX10_sowOn 28 = .ok (.iconst 0, 1) := by decide +kernel
theorem dX10_sowOn_29 : decode cX10_sowOn 29 = .ok (.iload_n 1, 1) := by decide +kernel
theorem dX10_sowOn_30 : decode cX10_sowOn 30 = .ok (.iadd, 1) := by decide +kernel
theorem dX10_sowOn_31 : decode cX10_sowOn 31 = .ok (.iload_n 3, 1) := by decide +kernel
theorem dX10_sowOn_32 : decode cX10_sowOn 32 = .ok (.bipush 18, 2) := by decide +kernel
theorem dX10_sowOn_34 : decode cX10_sowOn 34 = .ok (.if_icmp .le 8, 3) := by decide +kernel
theorem dX10_sowOn_37 : decode cX10_sowOn 37 = .ok (.bipush 18, 2) := by decide +kernel
theorem dX10_sowOn_39 : decode cX10_sowOn 39 = .ok (.goto 4, 3) := by decide +kernel
theorem dX10_sowOn_42 : decode cX10_sowOn 42 = .ok (.iload_n 3, 1) := by decide +kernel
theorem dX10_sowOn_43 : decode cX10_sowOn 43 = .ok (.iastore, 1) := by decide +kernel
theorem dX10_sowOn_44 : decode cX10_sowOn 44 = .ok (.aload_n 0, 1) := by decide +kernel
theorem dX10_sowOn_45 : decode cX10_sowOn 45 = .ok (.getfield 7, 3) := by decide +kernel
theorem dX10_sowOn_48 : decode cX10_sowOn 48 = .ok (.bipush 40, 2) := by decide +kernel
theorem dX10_sowOn_50 : decode cX10_sowOn 50 = .ok (.iload_n 1, 1) := by decide +kernel
theorem dX10_sowOn_51 : decode cX10_sowOn 51 = .ok (.iadd, 1) := by decide +kernel
theorem dX10_sowOn_52 : decode cX10_sowOn 52 = .ok (.iload 4, 2) := by decide +kernel
theorem dX10_sowOn_54 : decode cX10_sowOn 54 = .ok (.bipush 18, 2) := by decide +kernel
theorem dX10_sowOn_56 : decode cX10_sowOn 56 = .ok (.if_icmp .le 8, 3) := by decide +kernel
theorem dX10_sowOn_59 : decode cX10_sowOn 59 = .ok (.bipush 18, 2) := by decide +kernel
theorem dX10_sowOn_61 : decode cX10_sowOn 61 = .ok (.goto 5, 3) := by decide +kernel
theorem dX10_sowOn_64 : decode cX10_sowOn 64 = .ok (.iload 4, 2) := by decide +kernel
theorem dX10_sowOn_66 : decode cX10_sowOn 66 = .ok (.iastore, 1) := by decide +kernel
theorem dX10_sowOn_67 : decode cX10_sowOn 67 = .ok (.return_, 1) := by decide +kernel
theorem dX10_sow_0 : decode cX10_sow 0 = .ok (.aload_n 0, 1) := by decide +kernel
theorem dX10_sow_1 : decode cX10_sow 1 = .ok (.iload_n 1, 1) := by decide +kernel
theorem dX10_sow_2 : decode cX10_sow 2 = .ok (.iload_n 2, 1) := by decide +kernel
theorem dX10_sow_3 : decode cX10_sow 3 = .ok (.invokevirtual 239, 3) := by decide +kernel
theorem dX10_sow_6 : decode cX10_sow 6 = .ok (.ifCond .ne 6, 3) := by decide +kernel
theorem dX10_sow_9 : decode cX10_sow 9 = .ok (.ldc 252, 2) := by decide +kernel
theorem dX10_sow_11 : decode cX10_sow 11 = .ok (.ireturn, 1) := by decide +kernel
theorem dX10_sow_12 : decode cX10_sow 12 = .ok (.iload_n 3, 1) := by decide +kernel
theorem dX10_sow_13 : decode cX10_sow 13 = .ok (.i2l, 1) := by decide +kernel
theorem dX10_sow_14 : decode cX10_sow 14 = .ok (.lconst 1, 1) := by decide +kernel
theorem dX10_sow_15 : decode cX10_sow 15 = .ok (.ldc2_w 164, 3) := by decide +kernel
theorem dX10_sow_18 : decode cX10_sow 18 = .ok (.invokestatic 91, 3) := by decide +kernel
theorem dX10_sow_21 : decode cX10_sow 21 = .ok (.ifCond .ne 6, 3) := by decide +kernel
theorem dX10_sow_24 : decode cX10_sow 24 = .ok (.ldc 97, 2) := by decide +kernel
theorem dX10_sow_26 : decode cX10_sow 26 = .ok (.ireturn, 1) := by decide +kernel
theorem dX10_sow_27 : decode cX10_sow 27 = .ok (.aload_n 0, 1) := by decide +kernel
theorem dX10_sow_28 : decode cX10_sow 28 = .ok (.aload_n 0, 1) := by decide +kernel
theorem dX10_sow_29 : decode cX10_sow 29 = .ok (.getfield 85, 3) := by decide +kernel
theorem dX10_sow_32 : decode cX10_sow 32 = .ok (.iload_n 2, 1) := by decide +kernel
theorem dX10_sow_33 : decode cX10_sow 33 = .ok (.imul, 1) := by decide +kernel
theorem dX10_sow_34 : decode cX10_sow 34 = .ok (.iload_n 1, 1) := by decide +kernel
theorem dX10_sow_35 : decode cX10_sow 35 = .ok (.iadd, 1) := by decide +kernel
theorem dX10_sow_36 : decode cX10_sow 36 = .ok (.iload_n 3, 1) := by decide +kernel
theorem dX10_sow_37 : decode cX10_sow 37 = .ok (.invokevirtual 280, 3) := by decide +kernel
theorem dX10_sow_40 : decode cX10_sow 40 = .ok (.aload_n 0, 1) := by decide +kernel
theorem dX10_sow_41 : decode cX10_sow 41 = .ok (.getfield 7, 3) := by decide +kernel
theorem dX10_sow_44 : decode cX10_sow 44 = .ok (.iconst 0, 1) := by decide +kernel
theorem dX10_sow_45 : decode cX10_sow 45 = .ok (.aload_n 0, 1) := by decide +kernel
theorem dX10_sow_46 : decode cX10_sow 46 = .ok (.getfield 85, 3) := by decide +kernel
theorem dX10_sow_49 : decode cX10_sow 49 = .ok (.iload_n 2, 1) := by decide +kernel
theorem dX10_sow_50 : decode cX10_sow 50 = .ok (.imul, 1) := by decide +kernel
theorem dX10_sow_51 : decode cX10_sow 51 = .ok (.iadd, 1) := by decide +kernel
theorem dX10_sow_52 : decode cX10_sow 52 = .ok (.iload_n 1, 1) := by decide +kernel
theorem dX10_sow_53 : decode cX10_sow 53 = .ok (.iadd, 1) := by decide +kernel
theorem dX10_sow_54 : decode cX10_sow 54 = .ok (.iaload, 1) := by decide +kernel
theorem dX10_sow_55 : decode cX10_sow 55 = .ok (.ireturn, 1) := by decide +kernel
theorem dX10_lead_0 : decode cX10_lead 0 = .ok (.aload_n 0, 1) := by decide +kernel
theorem dX10_lead_1 : decode cX10_lead 1 = .ok (.iload_n 1, 1) := by decide +kernel
theorem dX10_lead_2 : decode cX10_lead 2 = .ok (.iload_n 2, 1) := by decide +kernel
theorem dX10_lead_3 : decode cX10_lead 3 = .ok (.invokevirtual 239, 3) := by decide +kernel
theorem dX10_lead_6 : decode cX10_lead 6 = .ok (.ifCond .ne 6, 3) := by decide +kernel
theorem dX10_lead_9 : decode cX10_lead 9 = .ok (.ldc 252, 2) := by decide +kernel
theorem dX10_lead_11 : decode cX10_lead 11 = .ok (.ireturn, 1) := by decide +kernel
theorem dX10_lead_12 : decode cX10_lead 12 = .ok (.aload_n 0, 1) := by decide +kernel
theorem dX10_lead_13 : decode cX10_lead 13 = .ok (.aload_n 0, 1) := by decide +kernel
theorem dX10_lead_14 : decode cX10_lead 14 = .ok (.getfield 7, 3) := by decide +kernel
theorem dX10_lead_17 : decode cX10_lead 17 = .ok (.bipush 80, 2) := by decide +kernel
theorem dX10_lead_19 : decode cX10_lead 19 = .ok (.iaload, 1) := by decide +kernel
theorem dX10_lead_20 : decode cX10_lead 20 = .ok (.invokevirtual 235, 3) := by decide +kernel
theorem dX10_lead_23 : decode cX10_lead 23 = .ok (.istore_n 3, 1) := by decide +kernel
theorem dX10_lead_24 : decode cX10_lead 24 = .ok (.aload_n 0, 1) := by decide +kernel
theorem dX10_lead_25 : decode cX10_lead 25 = .ok (.getfield 7, 3) := by decide +kernel
theorem dX10_lead_28 : decode cX10_lead 28 = .ok (.bipush 80, 2) := by decide +kernel
theorem dX10_lead_30 : decode cX10_lead 30 = .ok (.aload_n 0, 1) := by decide +kernel
theorem dX10_lead_31 : decode cX10_lead 31 = .ok (.getfield 85, 3) := by decide +kernel
theorem dX10_lead_34 : decode cX10_lead 34 = .ok (.iload_n 2, 1) := by decide +kernel
theorem dX10_lead_35 : decode cX10_lead 35 = .ok (.imul, 1) := by decide +kernel
theorem dX10_lead_36 : decode cX10_lead 36 = .ok (.iload_n 1, 1) := by decide +kernel
theorem dX10_lead_37 : decode cX10_lead 37 = .ok (.iadd, 1) := by decide +kernel
theorem dX10_lead_38 : decode cX10_lead 38 = .ok (.iastore, 1) := by decide +kernel
theorem dX10_lead_39 : decode cX10_lead 39 = .ok (.iload_n 3, 1) := by decide +kernel
theorem dX10_lead_40 : decode cX10_lead 40 = .ok (.ireturn, 1) := by decide +kernel
theorem dX10_lick_0 : decode cX10_lick 0 = .ok (.aload_n 0, 1) := by decide +kernel
theorem dX10_lick_1 : decode cX10_lick 1 = .ok (.iload_n 1, 1) := by decide +kernel
theorem dX10_lick_2 : decode cX10_lick 2 = .ok (.iload_n 2, 1) := by decide +kernel
theorem dX10_lick_3 : decode cX10_lick 3 = .ok (.invokevirtual 239, 3) := by decide +kernel
theorem dX10_lick_6 : decode cX10_lick 6 = .ok (.ifCond .ne 6, 3) := by decide +kernel
theorem dX10_lick_9 : decode cX10_lick 9 = .ok (.ldc 252, 2) := by decide +kernel
theorem dX10_lick_11 : decode cX10_lick 11 = .ok (.ireturn, 1) := by decide +kernel
theorem dX10_lick_12 : decode cX10_lick 12 = .ok (.aload_n 0, 1) := by decide +kernel
theorem dX10_lick_13 : decode cX10_lick 13 = .ok (.aload_n 0, 1) := by decide +kernel
theorem dX10_lick_14 : decode cX10_lick 14 = .ok (.getfield 7, 3) := by decide +kernel
theorem dX10_lick_17 : decode cX10_lick 17 = .ok (.bipush 82, 2) := by decide +kernel
theorem dX10_lick_19 : decode cX10_lick 19 = .ok (.iaload, 1) := by decide +kernel
theorem dX10_lick_20 : decode cX10_lick 20 = .ok (.invokevirtual 235, 3) := by decide +kernel
theorem dX10_lick_23 : decode cX10_lick 23 = .ok (.istore_n 3, 1) := by decide +kernel
theorem dX10_lick_24 : decode cX10_lick 24 = .ok (.aload_n 0, 1) := by decide +kernel
theorem dX10_lick_25 : decode cX10_lick 25 = .ok (.getfield 7, 3) := by decide +kernel
theorem dX10_lick_28 : decode cX10_lick 28 = .ok (.bipush 82, 2) := by decide +kernel
theorem dX10_lick_30 : decode cX10_lick 30 = .ok (.aload_n 0, 1) := by decide +kernel
theorem dX10_lick_31 : decode cX10_lick 31 = .ok (.getfield 85, 3) := by decide +kernel
theorem dX10_lick_34 : decode cX10_lick 34 = .ok (.iload_n 2, 1) := by decide +kernel
theorem dX10_lick_35 : decode cX10_lick 35 = .ok (.imul, 1) := by decide +kernel
theorem dX10_lick_36 : decode cX10_lick 36 = .ok (.iload_n 1, 1) := by decide +kernel
theorem dX10_lick_37 : decode cX10_lick 37 = .ok (.iadd, 1) := by decide +kernel
theorem dX10_lick_38 : decode cX10_lick 38 = .ok (.iastore, 1) := by decide +kernel
theorem dX10_lick_39 : decode cX10_lick 39 = .ok (.iload_n 3, 1) := by decide +kernel
theorem dX10_lick_40 : decode cX10_lick 40 = .ok (.ireturn, 1) := by decide +kernel
theorem dX10_part_0 : decode cX10_part 0 = .ok (.aload_n 0, 1) := by decide +kernel
theorem dX10_part_1 : decode cX10_part 1 = .ok (.iload_n 1, 1) := by decide +kernel
theorem dX10_part_2 : decode cX10_part 2 = .ok (.invokevirtual 266, 3) := by decide +kernel
theorem dX10_part_5 : decode cX10_part 5 = .ok (.istore_n 2, 1) := by decide +kernel
theorem dX10_part_6 : decode cX10_part 6 = .ok (.iconst 0, 1) := by decide +kernel
theorem dX10_part_7 : decode cX10_part 7 = .ok (.istore_n 3, 1) := by decide +kernel
theorem dX10_part_8 : decode cX10_part 8 = .ok (.iconst 0, 1) := by decide +kernel
theorem dX10_part_9 : decode cX10_part 9 = .ok (.istore 4, 2) := by decide +kernel
theorem dX10_part_11 : decode cX10_part 11 = .ok (.iload 4, 2) := by decide +kernel
theorem dX10_part_13 : decode cX10_part 13 = .ok (.iconst 5, 1) := by decide +kernel
theorem dX10_part_14 : decode cX10_part 14 = .ok (.if_icmp .ge 27, 3) := by decide +kernel
theorem dX10_part_17 : decode cX10_part 17 = .ok (.aload_n 0, 1) := by decide +kernel
theorem dX10_part_18 : decode cX10_part 18 = .ok (.iload_n 1, 1) := by decide +kernel
theorem dX10_part_19 : decode cX10_part 19 = .ok (.iload 4, 2) := by decide +kernel
theorem dX10_part_21 : decode cX10_part 21 = .ok (.invokevirtual 242, 3) := by decide +kernel
theorem dX10_part_24 : decode cX10_part 24 = .ok (.iconst (-1), 1) := by decide +kernel
theorem dX10_part_25 : decode cX10_part 25 = .ok (.if_icmp .ne 7, 3) := by decide +kernel
theorem dX10_part_28 : decode cX10_part 28 = .ok (.iload_n 3, 1) := by decide +kernel
theorem dX10_part_29 : decode cX10_part 29 = .ok (.goto 5, 3) := by decide +kernel
theorem dX10_part_32 : decode cX10_part 32 = .ok (.iload 4, 2) := by decide +kernel
theorem dX10_part_34 : decode cX10_part 34 = .ok (.istore_n 3, 1) := by decide +kernel
theorem dX10_part_35 : decode cX10_part 35 = .ok (.iinc 4 1, 3) := by decide +kernel
theorem dX10_part_38 : decode cX10_part 38 = .ok (.goto (-27), 3) := by decide +kernel
theorem dX10_part_41 : decode cX10_part 41 = .ok (.aload_n 0, 1) := by decide +kernel
theorem dX10_part_42 : decode cX10_part 42 = .ok (.getfield 69, 3) := by decide +kernel
theorem dX10_part_45 : decode cX10_part 45 = .ok (.iload_n 1, 1) := by decide +kernel
theorem dX10_part_46 : decode cX10_part 46 = .ok (.laload, 1) := by decide +kernel
theorem dX10_part_47 : decode cX10_part 47 = .ok (.lstore 4, 2) := by decide +kernel
theorem dX10_part_49 : decode cX10_part 49 = .ok (.iconst 0, 1) := by decide +kernel
theorem dX10_part_50 : decode cX10_part 50 = .ok (.istore 6, 2) := by decide +kernel
theorem dX10_part_52 : decode cX10_part 52 = .ok (.iload 6, 2) := by decide +kernel
theorem dX10_part_54 : decode cX10_part 54 = .ok (.iconst 5, 1) := by decide +kernel
theorem dX10_part_55 : decode cX10_part 55 = .ok (.if_icmp .ge 73, 3) := by decide +kernel
theorem dX10_part_58 : decode cX10_part 58 = .ok (.aload_n 0, 1) := by decide +kernel
theorem dX10_part_59 : decode cX10_part 59 = .ok (.iload_n 1, 1) := by decide +kernel
theorem dX10_part_60 : decode cX10_part 60 = .ok (.iload 6, 2) := by decide +kernel
theorem dX10_part_62 : decode cX10_part 62 = .ok (.invokevirtual 242, 3) := by decide +kernel
theorem dX10_part_65 : decode cX10_part 65 = .ok (.istore 7, 2) := by decide +kernel
theorem dX10_part_67 : decode cX10_part 67 = .ok (.iload 7, 2) := by decide +kernel
theorem dX10_part_69 : decode cX10_part 69 = .ok (.iconst (-1), 1) := by decide +kernel
theorem dX10_part_70 : decode cX10_part 70 = .ok (.if_icmp .eq 52, 3) := by decide +kernel
theorem dX10_part_73 : decode cX10_part 73 = .ok (.iload 6, 2) := by decide +kernel
theorem dX10_part_75 : decode cX10_part 75 = .ok (.iload_n 3, 1) := by decide +kernel
theorem dX10_part_76 : decode cX10_part 76 = .ok (.if_icmp .ne 8, 3) := by decide +kernel
theorem dX10_part_79 : decode cX10_part 79 = .ok (.lload 4, 2) := by decide +kernel
theorem dX10_part_81 : decode cX10_part 81 = .ok (.goto 20, 3) := by decide +kernel
theorem dX10_part_84 : decode cX10_part 84 = .ok (.aload_n 0, 1) := by decide +kernel
theorem dX10_part_85 : decode cX10_part 85 = .ok (.getfield 69, 3) := by decide +kernel
theorem dX10_part_88 : decode cX10_part 88 = .ok (.iload_n 1, 1) := by decide +kernel
theorem dX10_part_89 : decode cX10_part 89 = .ok (.laload, 1) := by decide +kernel
theorem dX10_part_90 : decode cX10_part 90 = .ok (.aload_n 0, 1) := by decide +kernel
theorem dX10_part_91 : decode cX10_part 91 = .ok (.iload 7, 2) := by decide +kernel
theorem dX10_part_93 : decode cX10_part 93 = .ok (.invokevirtual 246, 3) := by decide +kernel
theorem dX10_part_96 : decode cX10_part 96 = .ok (.i2l, 1) := by decide +kernel
theorem dX10_part_97 : decode cX10_part 97 = .ok (.lmul, 1) := by decide +kernel
theorem dX10_part_98 : decode cX10_part 98 = .ok (.iload_n 2, 1) := by decide +kernel
theorem dX10_part_99 : decode cX10_part 99 = .ok (.i2l, 1) := by decide +kernel
theorem dX10_part_100 : decode cX10_part 100 = .ok (.ldiv, 1) := by decide +kernel
theorem dX10_part_101 : decode cX10_part 101 = .ok (.lstore 8, 2) := by decide +kernel
theorem dX10_part_103 : decode cX10_part 103 = .ok (.aload_n 0, 1) := by decide +kernel
theorem dX10_part_104 : decode cX10_part 104 = .ok (.getfield 73, 3) := by decide +kernel
theorem dX10_part_107 : decode cX10_part 107 = .ok (.iload 7, 2) := by decide +kernel
theorem dX10_part_109 : decode cX10_part 109 = .ok (.dup2, 1) := by decide +kernel
theorem dX10_part_110 : decode cX10_part 110 = .ok (.laload, 1) := by decide +kernel
theorem dX10_part_111 : decode cX10_part 111 = .ok (.lload 8, 2) := by decide +kernel
theorem dX10_part_113 : decode cX10_part 113 = .ok (.ladd, 1) := by decide +kernel
theorem dX10_part_114 : decode cX10_part 114 = .ok (.lastore, 1) := by decide +kernel
theorem dX10_part_115 : decode cX10_part 115 = .ok (.lload 4, 2) := by decide +kernel
theorem dX10_part_117 : decode cX10_part 117 = .ok (.lload 8, 2) := by decide +kernel
theorem dX10_part_119 : decode cX10_part 119 = .ok (.lsub, 1) := by decide +kernel
theorem dX10_part_120 : decode cX10_part 120 = .ok (.lstore 4, 2) := by decide +kernel
theorem dX10_part_122 : decode cX10_part 122 = .ok (.iinc 6 1, 3) := by decide +kernel
theorem dX10_part_125 : decode cX10_part 125 = .ok (.goto (-73), 3) := by decide +kernel
theorem dX10_part_128 : decode cX10_part 128 = .ok (.return_, 1) := by decide +kernel
theorem dX10_startOdds_0 : decode cX10_startOdds 0 = .ok (.iconst 0, 1) := by decide +kernel
theorem dX10_startOdds_1 : decode cX10_startOdds 1 = .ok (.istore_n 1, 1) := by decide +kernel
theorem dX10_startOdds_2 : decode cX10_startOdds 2 = .ok (.iload_n 1, 1) := by decide +kernel
theorem dX10_startOdds_3 : decode cX10_startOdds 3 = .ok (.bipush 40, 2) := by decide +kernel
theorem dX10_startOdds_5 : decode cX10_startOdds 5 = .ok (.if_icmp .ge 33, 3) := by decide +kernel
theorem dX10_startOdds_8 : decode cX10_startOdds 8 = .ok (.aload_n 0, 1) := by decide +kernel
theorem dX10_startOdds_9 : decode cX10_startOdds 9 = .ok (.getfield 69, 3) := by decide +kernel
theorem dX10_startOdds_12 : decode cX10_startOdds 12 = .ok (.iload_n 1, 1) := by decide +kernel
theorem dX10_startOdds_13 : decode cX10_startOdds 13 = .ok (.iload_n 1, 1) := by decide +kernel
theorem dX10_startOdds_14 : decode cX10_startOdds 14 = .ok (.aload_n 0, 1) := by decide +kernel
theorem dX10_startOdds_15 : decode cX10_startOdds 15 = .ok (.getfield 7, 3) := by decide +kernel
theorem dX10_startOdds_18 : decode cX10_startOdds 18 = .ok (.bipush 80, 2) := by decide +kernel
theorem dX10_startOdds_20 : decode cX10_startOdds 20 = .ok (.iaload, 1) := by decide +kernel
theorem dX10_startOdds_21 : decode cX10_startOdds 21 = .ok (.if_icmp .ne 9, 3) := by decide +kernel
theorem dX10_startOdds_24 : decode cX10_startOdds 24 = .ok (.ldc2_w 284, 3) := by decide +kernel
theorem dX10_startOdds_27 : decode cX10_startOdds 27 = .ok (.goto 4, 3) := by decide +kernel
theorem dX10_startOdds_30 : decode cX10_startOdds 30 = .ok (.lconst 0, 1) := by decide +kernel
theorem dX10_startOdds_31 : decode cX10_startOdds 31 = .ok (.lastore, 1) := by decide +kernel
theorem dX10_startOdds_32 : decode cX10_startOdds 32 = .ok (.iinc 1 1, 3) := by decide +kernel
theorem dX10_startOdds_35 : decode cX10_startOdds 35 = .ok (.goto (-33), 3) := by decide +kernel
theorem dX10_startOdds_38 : decode cX10_startOdds 38 = .ok (.return_, 1) := by decide +kernel
theorem dX10_goOdds_0 : decode cX10_goOdds 0 = .ok (.iconst 0, 1) := by decide +kernel
theorem dX10_goOdds_1 : decode cX10_goOdds 1 = .ok (.istore_n 1, 1) := by decide +kernel
theorem dX10_goOdds_2 : decode cX10_goOdds 2 = .ok (.iload_n 1, 1) := by decide +kernel
theorem dX10_goOdds_3 : decode cX10_goOdds 3 = .ok (.bipush 40, 2) := by decide +kernel
theorem dX10_goOdds_5 : decode cX10_goOdds 5 = .ok (.if_icmp .ge 16, 3) := by decide +kernel
theorem dX10_goOdds_8 : decode cX10_goOdds 8 = .ok (.aload_n 0, 1) := by decide +kernel
theorem dX10_goOdds_9 : decode cX10_goOdds 9 = .ok (.getfield 73, 3) := by decide +kernel
theorem dX10_goOdds_12 : decode cX10_goOdds 12 = .ok (.iload_n 1, 1) := by decide +kernel
theorem dX10_goOdds_13 : decode cX10_goOdds 13 = .ok (.lconst 0, 1) := by decide +kernel
theorem dX10_goOdds_14 : decode cX10_goOdds 14 = .ok (.lastore, 1) := by decide +kernel
theorem dX10_goOdds_15 : decode cX10_goOdds 15 = .ok (.iinc 1 1, 3) := by decide +kernel
theorem dX10_goOdds_18 : decode cX10_goOdds 18 = .ok (.goto (-16), 3) := by decide +kernel
theorem dX10_goOdds_21 : decode cX10_goOdds 21 = .ok (.iconst 0, 1) := by decide +kernel
theorem dX10_goOdds_22 : decode cX10_goOdds 22 = .ok (.istore_n 1, 1) := by decide +kernel
theorem dX10_goOdds_23 : decode cX10_goOdds 23 = .ok (.iload_n 1, 1) := by decide +kernel
theorem dX10_goOdds_24 : decode cX10_goOdds 24 = .ok (.aload_n 0, 1) := by decide +kernel
theorem dX10_goOdds_25 : decode cX10_goOdds 25 = .ok (.invokevirtual 225, 3) := by decide +kernel
theorem dX10_goOdds_28 : decode cX10_goOdds 28 = .ok (.if_icmp .ge 14, 3) := by decide +kernel
theorem dX10_goOdds_31 : decode cX10_goOdds 31 = .ok (.aload_n 0, 1) := by decide +kernel
theorem dX10_goOdds_32 : decode cX10_goOdds 32 = .ok (.iload_n 1, 1) := by decide +kernel
theorem dX10_goOdds_33 : decode cX10_goOdds 33 = .ok (.invokevirtual 286, 3) := by decide +kernel
theorem dX10_goOdds_36 : decode cX10_goOdds 36 = .ok (.iinc 1 1, 3) := by decide +kernel
theorem dX10_goOdds_39 : decode cX10_goOdds 39 = .ok (.goto (-16), 3) := by decide +kernel
theorem dX10_goOdds_42 : decode cX10_goOdds 42 = .ok (.iconst 0, 1) := by decide +kernel
theorem dX10_goOdds_43 : decode cX10_goOdds 43 = .ok (.istore_n 1, 1) := by decide +kernel
theorem dX10_goOdds_44 : decode cX10_goOdds 44 = .ok (.iload_n 1, 1) := by decide +kernel
theorem dX10_goOdds_45 : decode cX10_goOdds 45 = .ok (.bipush 40, 2) := by decide +kernel
theorem dX10_goOdds_47 : decode cX10_goOdds 47 = .ok (.if_icmp .ge 21, 3) := by decide +kernel
theorem dX10_goOdds_50 : decode cX10_goOdds 50 = .ok (.aload_n 0, 1) := by decide +kernel
theorem dX10_goOdds_51 : decode cX10_goOdds 51 = .ok (.getfield 69, 3) := by decide +kernel
theorem dX10_goOdds_54 : decode cX10_goOdds 54 = .ok (.iload_n 1, 1) := by decide +kernel
theorem dX10_goOdds_55 : decode cX10_goOdds 55 = .ok (.aload_n 0, 1) := by decide +kernel
theorem dX10_goOdds_56 : decode cX10_goOdds 56 = .ok (.getfield 73, 3) := by decide +kernel
theorem dX10_goOdds_59 : decode cX10_goOdds 59 = .ok (.iload_n 1, 1) := by decide +kernel
theorem dX10_goOdds_60 : decode cX10_goOdds 60 = .ok (.laload, 1) := by decide +kernel
theorem dX10_goOdds_61 : decode cX10_goOdds 61 = .ok (.lastore, 1) := by decide +kernel
theorem dX10_goOdds_62 : decode cX10_goOdds 62 = .ok (.iinc 1 1, 3) := by decide +kernel
theorem dX10_goOdds_65 : decode cX10_goOdds 65 = .ok (.goto (-21), 3) := by decide +kernel
theorem dX10_goOdds_68 : decode cX10_goOdds 68 = .ok (.return_, 1) := by decide +kernel
theorem dX10_findOdds_0 : decode cX10_findOdds 0 = .ok (.aload_n 0, 1) := by decide +kernel
theorem dX10_findOdds_1 : decode cX10_findOdds 1 = .ok (.invokevirtual 289, 3) := by decide +kernel
theorem dX10_findOdds_4 : decode cX10_findOdds 4 = .ok (.iconst 0, 1) := by decide +kernel
theorem dX10_findOdds_5 : decode cX10_findOdds 5 = .ok (.istore_n 2, 1) := by decide +kernel
theorem dX10_findOdds_6 : decode cX10_findOdds 6 = .ok (.iload_n 2, 1) := by decide +kernel
theorem dX10_findOdds_7 : decode cX10_findOdds 7 = .ok (.iload_n 1, 1) := by decide +kernel
theorem dX10_findOdds_8 : decode cX10_findOdds 8 = .ok (.if_icmp .ge 13, 3) := by decide +kernel
theorem dX10_findOdds_11 : decode cX10_findOdds 11 = .ok (.aload_n 0, 1) := by decide +kernel
theorem dX10_findOdds_12 : decode cX10_findOdds 12 = .ok (.invokevirtual 292, 3) := by decide +kernel
theorem dX10_findOdds_15 : decode cX10_findOdds 15 = .ok (.iinc 2 1, 3) := by decide +kernel
theorem dX10_findOdds_18 : decode cX10_findOdds 18 = .ok (.goto (-12), 3) := by decide +kernel
theorem dX10_findOdds_21 : decode cX10_findOdds 21 = .ok (.return_, 1) := by decide +kernel
theorem dX10_odds_0 : decode cX10_odds 0 = .ok (.aload_n 0, 1) := by decide +kernel
theorem dX10_odds_1 : decode cX10_odds 1 = .ok (.iload_n 1, 1) := by decide +kernel
theorem dX10_odds_2 : decode cX10_odds 2 = .ok (.iload_n 2, 1) := by decide +kernel
theorem dX10_odds_3 : decode cX10_odds 3 = .ok (.invokevirtual 239, 3) := by decide +kernel
theorem dX10_odds_6 : decode cX10_odds 6 = .ok (.ifCond .ne 6, 3) := by decide +kernel
theorem dX10_odds_9 : decode cX10_odds 9 = .ok (.ldc 252, 2) := by decide +kernel
theorem dX10_odds_11 : decode cX10_odds 11 = .ok (.ireturn, 1) := by decide +kernel
theorem dX10_odds_12 : decode cX10_odds 12 = .ok (.iload_n 3, 1) := by decide +kernel
theorem dX10_odds_13 : decode cX10_odds 13 = .ok (.i2l, 1) := by decide +kernel
theorem dX10_odds_14 : decode cX10_odds 14 = .ok (.lconst 0, 1) := by decide +kernel
theorem dX10_odds_15 : decode cX10_odds 15 = .ok (.ldc2_w 295, 3) := by decide +kernel
theorem dX10_odds_18 : decode cX10_odds 18 = .ok (.invokestatic 91, 3) := by decide +kernel
theorem dX10_odds_21 : decode cX10_odds 21 = .ok (.ifCond .ne 6, 3) := by decide +kernel
theorem dX10_odds_24 : decode cX10_odds 24 = .ok (.ldc 97, 2) := by decide +kernel
theorem dX10_odds_26 : decode cX10_odds 26 = .ok (.ireturn, 1) := by decide +kernel
theorem dX10_odds_27 : decode cX10_odds 27 = .ok (.aload_n 0, 1) := by decide +kernel
theorem dX10_odds_28 : decode cX10_odds 28 = .ok (.iload_n 3, 1) := by decide +kernel
theorem dX10_odds_29 : decode cX10_odds 29 = .ok (.invokevirtual 297, 3) := by decide +kernel
theorem dX10_odds_32 : decode cX10_odds 32 = .ok (.aload_n 0, 1) := by decide +kernel
theorem dX10_odds_33 : decode cX10_odds 33 = .ok (.getfield 69, 3) := by decide +kernel
theorem dX10_odds_36 : decode cX10_odds 36 = .ok (.aload_n 0, 1) := by decide +kernel
theorem dX10_odds_37 : decode cX10_odds 37 = .ok (.getfield 85, 3) := by decide +kernel
theorem dX10_odds_40 : decode cX10_odds 40 = .ok (.iload_n 2, 1) := by decide +kernel
theorem dX10_odds_41 : decode cX10_odds 41 = .ok (.imul, 1) := by decide +kernel
theorem dX10_odds_42 : decode cX10_odds 42 = .ok (.iload_n 1, 1) := by decide +kernel
theorem dX10_odds_43 : decode cX10_odds 43 = .ok (.iadd, 1) := by decide +kernel
theorem dX10_odds_44 : decode cX10_odds 44 = .ok (.laload, 1) := by decide +kernel
theorem dX10_odds_45 : decode cX10_odds 45 = .ok (.l2i, 1) := by decide +kernel
theorem dX10_odds_46 : decode cX10_odds 46 = .ok (.ireturn, 1) := by decide +kernel
theorem dX10_meanOf_0 : decode cX10_meanOf 0 = .ok (.aload_n 0, 1) := by decide +kernel
theorem dX10_meanOf_1 : decode cX10_meanOf 1 = .ok (.aload_n 0, 1) := by decide +kernel
theorem dX10_meanOf_2 : decode cX10_meanOf 2 = .ok (.getfield 26, 3) := by decide +kernel
theorem dX10_meanOf_5 : decode cX10_meanOf 5 = .ok (.invokevirtual 297, 3) := by decide +kernel
theorem dX10_meanOf_8 : decode cX10_meanOf 8 = .ok (.lconst 0, 1) := by decide +kernel
theorem dX10_meanOf_9 : decode cX10_meanOf 9 = .ok (.lstore_n 2, 1) := by decide +kernel
theorem dX10_meanOf_10 : decode cX10_meanOf 10 = .ok (.iconst 0, 1) := by decide +kernel
theorem dX10_meanOf_11 : decode cX10_meanOf 11 = .ok (.istore 4, 2) := by decide +kernel
theorem dX10_meanOf_13 : decode cX10_meanOf 13 = .ok (.iload 4, 2) := by decide +kernel
theorem dX10_meanOf_15 : decode cX10_meanOf 15 = .ok (.aload_n 0, 1) := by decide +kernel
theorem dX10_meanOf_16 : decode cX10_meanOf 16 = .ok (.invokevirtual 225, 3) := by decide +kernel
theorem dX10_meanOf_19 : decode cX10_meanOf 19 = .ok (.if_icmp .ge 28, 3) := by decide +kernel
theorem dX10_meanOf_22 : decode cX10_meanOf 22 = .ok (.lload_n 2, 1) := by decide +kernel
theorem dX10_meanOf_23 : decode cX10_meanOf 23 = .ok (.aload_n 0, 1) := by decide +kernel
theorem dX10_meanOf_24 : decode cX10_meanOf 24 = .ok (.iload_n 1, 1) := by decide +kernel
theorem dX10_meanOf_25 : decode cX10_meanOf 25 = .ok (.iload 4, 2) := by decide +kernel
theorem dX10_meanOf_27 : decode cX10_meanOf 27 = .ok (.invokevirtual 256, 3) := by decide +kernel
theorem dX10_meanOf_30 : decode cX10_meanOf 30 = .ok (.i2l, 1) := by decide +kernel
theorem dX10_meanOf_31 : decode cX10_meanOf 31 = .ok (.aload_n 0, 1) := by decide +kernel
theorem dX10_meanOf_32 : decode cX10_meanOf 32 = .ok (.getfield 69, 3) := by decide +kernel
theorem dX10_meanOf_35 : decode cX10_meanOf 35 = .ok (.iload 4, 2) := by decide +kernel
theorem dX10_meanOf_37 : decode cX10_meanOf 37 = .ok (.laload, 1) := by decide +kernel
theorem dX10_meanOf_38 : decode cX10_meanOf 38 = .ok (.lmul, 1) := by decide +kernel
theorem dX10_meanOf_39 : decode cX10_meanOf 39 = .ok (.ladd, 1) := by decide +kernel
theorem dX10_meanOf_40 : decode cX10_meanOf 40 = .ok (.lstore_n 2, 1) := by decide +kernel
theorem dX10_meanOf_41 : decode cX10_meanOf 41 = .ok (.iinc 4 1, 3) := by decide +kernel
theorem dX10_meanOf_44 : decode cX10_meanOf 44 = .ok (.goto (-31), 3) := by decide +kernel
theorem dX10_meanOf_47 : decode cX10_meanOf 47 = .ok (.lload_n 2, 1) := by decide +kernel
theorem dX10_meanOf_48 : decode cX10_meanOf 48 = .ok (.ldc2_w 284, 3) := by decide +kernel
theorem dX10_meanOf_51 : decode cX10_meanOf 51 = .ok (.ldiv, 1) := by decide +kernel
theorem dX10_meanOf_52 : decode cX10_meanOf 52 = .ok (.l2i, 1) := by decide +kernel
theorem dX10_meanOf_53 : decode cX10_meanOf 53 = .ok (.ireturn, 1) := by decide +kernel
theorem dX10_mean_0 : decode cX10_mean 0 = .ok (.iload_n 1, 1) := by decide +kernel
theorem dX10_mean_1 : decode cX10_mean 1 = .ok (.invokestatic 253, 3) := by decide +kernel
theorem dX10_mean_4 : decode cX10_mean 4 = .ok (.ifCond .ne 8, 3) := by decide +kernel
theorem dX10_mean_7 : decode cX10_mean 7 = .ok (.ldc 252, 2) := by decide +kernel
theorem dX10_mean_9 : decode cX10_mean 9 = .ok (.goto 21, 3) := by decide +kernel
theorem dX10_mean_12 : decode cX10_mean 12 = .ok (.aload_n 0, 1) := by decide +kernel
theorem dX10_mean_13 : decode cX10_mean 13 = .ok (.invokevirtual 225, 3) := by decide +kernel
theorem dX10_mean_16 : decode cX10_mean 16 = .ok (.ifCond .ne 9, 3) := by decide +kernel
theorem dX10_mean_19 : decode cX10_mean 19 = .ok (.ldc_w 274, 3) := by decide +kernel
theorem dX10_mean_22 : decode cX10_mean 22 = .ok (.goto 8, 3) := by decide +kernel
theorem dX10_mean_25 : decode cX10_mean 25 = .ok (.aload_n 0, 1) := by decide +kernel
theorem dX10_mean_26 : decode cX10_mean 26 = .ok (.iload_n 1, 1) := by decide +kernel
theorem dX10_mean_27 : decode cX10_mean 27 = .ok (.invokevirtual 300, 3) := by decide +kernel
theorem dX10_mean_30 : decode cX10_mean 30 = .ok (.ireturn, 1) := by decide +kernel
theorem dX10_keepGrass_0 : decode cX10_keepGrass 0 = .ok (.iconst 0, 1) := by decide +kernel
theorem dX10_keepGrass_1 : decode cX10_keepGrass 1 = .ok (.istore_n 1, 1) := by decide +kernel
theorem dX10_keepGrass_2 : decode cX10_keepGrass 2 = .ok (.iload_n 1, 1) := by decide +kernel
theorem dX10_keepGrass_3 : decode cX10_keepGrass 3 = .ok (.bipush 80, 2) := by decide +kernel
theorem dX10_keepGrass_5 : decode cX10_keepGrass 5 = .ok (.if_icmp .ge 23, 3) := by decide +kernel
theorem dX10_keepGrass_8 : decode cX10_keepGrass 8 = .ok (.aload_n 0, 1) := by decide +kernel
theorem dX10_keepGrass_9 : decode cX10_keepGrass 9 = .ok (.getfield 76, 3) := by decide +kernel
theorem dX10_keepGrass_12 : decode cX10_keepGrass 12 = .ok (.iload_n 1, 1) := by decide +kernel
theorem dX10_keepGrass_13 : decode cX10_keepGrass 13 = .ok (.aload_n 0, 1) := by decide +kernel
theorem dX10_keepGrass_14 : decode cX10_keepGrass 14 = .ok (.getfield 7, 3) := by decide +kernel
theorem dX10_keepGrass_17 : decode cX10_keepGrass 17 = .ok (.iconst 0, 1) := by decide +kernel
theorem dX10_keepGrass_18 : decode cX10_keepGrass 18 = .ok (.iload_n 1, 1) := by decide +kernel
theorem dX10_keepGrass_19 : decode cX10_keepGrass 19 = .ok (.iadd, 1) := by decide +kernel
theorem dX10_keepGrass_20 : decode cX10_keepGrass 20 = .ok (.iaload, 1) := by decide +kernel
theorem dX10_keepGrass_21 : decode cX10_keepGrass 21 = .ok (.iastore, 1) := by decide +kernel
theorem dX10_keepGrass_22 : decode cX10_keepGrass 22 = .ok (.iinc 1 1, 3) := by decide +kernel
theorem dX10_keepGrass_25 : decode cX10_keepGrass 25 = .ok (.goto (-23), 3) := by decide +kernel
theorem dX10_keepGrass_28 : decode cX10_keepGrass 28 = .ok (.return_, 1) := by decide +kernel
theorem dX10_giveGrass_0 : decode cX10_giveGrass 0 = .ok (.iconst 0, 1) := by decide +kernel
theorem dX10_giveGrass_1 : decode cX10_giveGrass 1 = .ok (.istore_n 1, 1) := by decide +kernel
theorem dX10_giveGrass_2 : decode cX10_giveGrass 2 = .ok (.iload_n 1, 1) := by decide +kernel
theorem dX10_giveGrass_3 : decode cX10_giveGrass 3 = .ok (.bipush 80, 2) := by decide +kernel
theorem dX10_giveGrass_5 : decode cX10_giveGrass 5 = .ok (.if_icmp .ge 23, 3) := by decide +kernel
theorem dX10_giveGrass_8 : decode cX10_giveGrass 8 = .ok (.aload_n 0, 1) := by decide +kernel
theorem dX10_giveGrass_9 : decode cX10_giveGrass 9 = .ok (.getfield 7, 3) := by decide +kernel
theorem dX10_giveGrass_12 : decode cX10_giveGrass 12 = .ok (.iconst 0, 1) := by decide +kernel
theorem dX10_giveGrass_13 : decode cX10_giveGrass 13 = .ok (.iload_n 1, 1) := by decide +kernel
theorem dX10_giveGrass_14 : decode cX10_giveGrass 14 = .ok (.iadd, 1) := by decide +kernel
theorem dX10_giveGrass_15 : decode cX10_giveGrass 15 = .ok (.aload_n 0, 1) := by decide +kernel
theorem dX10_giveGrass_16 : decode cX10_giveGrass 16 = .ok (.getfield 76, 3) := by decide +kernel
theorem dX10_giveGrass_19 : decode cX10_giveGrass 19 = .ok (.iload_n 1, 1) := by decide +kernel
theorem dX10_giveGrass_20 : decode cX10_giveGrass 20 = .ok (.iaload, 1) := by decide +kernel
theorem dX10_giveGrass_21 : decode cX10_giveGrass 21 = .ok (.iastore, 1) := by decide +kernel
theorem dX10_giveGrass_22 : decode cX10_giveGrass 22 = .ok (.iinc 1 1, 3) := by decide +kernel
theorem dX10_giveGrass_25 : decode cX10_giveGrass 25 = .ok (.goto (-23), 3) := by decide +kernel
theorem dX10_giveGrass_28 : decode cX10_giveGrass 28 = .ok (.return_, 1) := by decide +kernel
theorem dX10_bestClover_0 : decode cX10_bestClover 0 = .ok (.iconst (-1), 1) := by decide +kernel
theorem dX10_bestClover_1 : decode cX10_bestClover 1 = .ok (.istore 4, 2) := by decide +kernel
theorem dX10_bestClover_3 : decode cX10_bestClover 3 = .ok (.aload_n 0, 1) := by decide +kernel
theorem dX10_bestClover_4 : decode cX10_bestClover 4 = .ok (.ldc_w 303, 3) := by decide +kernel
theorem dX10_bestClover_7 : decode cX10_bestClover 7 = .ok (.putfield 304, 3) := by decide +kernel
theorem dX10_bestClover_10 : decode cX10_bestClover 10 = .ok (.iconst 0, 1) := by decide +kernel
theorem dX10_bestClover_11 : decode cX10_bestClover 11 = .ok (.istore 5, 2) := by decide +kernel
theorem dX10_bestClover_13 : decode cX10_bestClover 13 = .ok (.iload 5, 2) := by decide +kernel
theorem dX10_bestClover_15 : decode cX10_bestClover 15 = .ok (.aload_n 0, 1) := by decide +kernel
theorem dX10_bestClover_16 : decode cX10_bestClover 16 = .ok (.invokevirtual 225, 3) := by decide +kernel
theorem dX10_bestClover_19 : decode cX10_bestClover 19 = .ok (.if_icmp .ge 82, 3) := by decide +kernel
theorem dX10_bestClover_22 : decode cX10_bestClover 22 = .ok (.aload_n 0, 1) := by decide +kernel
theorem dX10_bestClover_23 : decode cX10_bestClover 23 = .ok (.invokevirtual 307, 3) := by decide +kernel
theorem dX10_bestClover_26 : decode cX10_bestClover 26 = .ok (.iload_n 3, 1) := by decide +kernel
theorem dX10_bestClover_27 : decode cX10_bestClover 27 = .ok (.iconst (-1), 1) := by decide +kernel
theorem dX10_bestClover_28 : decode cX10_bestClover 28 = .ok (.if_icmp .eq 9, 3) := by decide +kernel
theorem dX10_bestClover_31 : decode cX10_bestClover 31 = .ok (.aload_n 0, 1) := by decide +kernel
theorem dX10_bestClover_32 : decode cX10_bestClover 32 = .ok (.iload_n 3, 1) := by decide +kernel
theorem dX10_bestClover_33 : decode cX10_bestClover 33 = .ok (.iload_n 2, 1) := by decide +kernel
theorem dX10_bestClover_34 : decode cX10_bestClover 34 = .ok (.invokevirtual 280, 3) := by decide +kernel
theorem dX10_bestClover_37 : decode cX10_bestClover 37 = .ok (.aload_n 0, 1) := by decide +kernel
theorem dX10_bestClover_38 : decode cX10_bestClover 38 = .ok (.iload 5, 2) := by decide +kernel
theorem dX10_bestClover_40 : decode cX10_bestClover 40 = .ok (.iload_n 2, 1) := by decide +kernel
theorem dX10_bestClover_41 : decode cX10_bestClover 41 = .ok (.invokevirtual 280, 3) := by decide +kernel
theorem dX10_bestClover_44 : decode cX10_bestClover 44 = .ok (.aload_n 0, 1) := by decide +kernel
theorem dX10_bestClover_45 : decode cX10_bestClover 45 = .ok (.iload_n 1, 1) := by decide +kernel
theorem dX10_bestClover_46 : decode cX10_bestClover 46 = .ok (.invokevirtual 300, 3) := by decide +kernel
theorem dX10_bestClover_49 : decode cX10_bestClover 49 = .ok (.istore 6, 2) := by decide +kernel
theorem dX10_bestClover_51 : decode cX10_bestClover 51 = .ok (.aload_n 0, 1) := by decide +kernel
theorem dX10_bestClover_52 : decode cX10_bestClover 52 = .ok (.invokevirtual 310, 3) := by decide +kernel
theorem dX10_bestClover_55 : decode cX10_bestClover 55 = .ok (.iload 6, 2) := by decide +kernel
theorem dX10_bestClover_57 : decode cX10_bestClover 57 = .ok (.aload_n 0, 1) := by decide +kernel
theorem dX10_bestClover_58 : decode cX10_bestClover 58 = .ok (.getfield 304, 3) := by decide +kernel
theorem dX10_bestClover_61 : decode cX10_bestClover 61 = .ok (.if_icmp .le 8, 3) := by decide +kernel
theorem dX10_bestClover_64 : decode cX10_bestClover 64 = .ok (.iload 5, 2) := by decide +kernel
theorem dX10_bestClover_66 : decode cX10_bestClover 66 = .ok (.goto 5, 3) := by decide +kernel
theorem dX10_bestClover_69 : decode cX10_bestClover 69 = .ok (.iload 4, 2) := by decide +kernel
theorem dX10_bestClover_71 : decode cX10_bestClover 71 = .ok (.istore 4, 2) := by decide +kernel
theorem dX10_bestClover_73 : decode cX10_bestClover 73 = .ok (.aload_n 0, 1) := by decide +kernel
theorem dX10_bestClover_74 : decode cX10_bestClover 74 = .ok (.iload 6, 2) := by decide +kernel
theorem dX10_bestClover_76 : decode cX10_bestClover 76 = .ok (.aload_n 0, 1) := by decide +kernel
theorem dX10_bestClover_77 : decode cX10_bestClover 77 = .ok (.getfield 304, 3) := by decide +kernel
theorem dX10_bestClover_80 : decode cX10_bestClover 80 = .ok (.if_icmp .le 8, 3) := by decide +kernel
theorem dX10_bestClover_83 : decode cX10_bestClover 83 = .ok (.iload 6, 2) := by decide +kernel
theorem dX10_bestClover_85 : decode cX10_bestClover 85 = .ok (.goto 7, 3) := by decide +kernel
theorem dX10_bestClover_88 : decode cX10_bestClover 88 = .ok (.aload_n 0, 1) := by decide +kernel
theorem dX10_bestClover_89 : decode cX10_bestClover 89 = .ok (.getfield 304, 3) := by decide +kernel
theorem dX10_bestClover_92 : decode cX10_bestClover 92 = .ok (.putfield 304, 3) := by decide +kernel
theorem dX10_bestClover_95 : decode cX10_bestClover 95 = .ok (.iinc 5 1, 3) := by decide +kernel
theorem dX10_bestClover_98 : decode cX10_bestClover 98 = .ok (.goto (-85), 3) := by decide +kernel
theorem dX10_bestClover_101 : decode cX10_bestClover 101 = .ok (.iload 4, 2) := by decide +kernel
theorem dX10_bestClover_103 : decode cX10_bestClover 103 = .ok (.ireturn, 1) := by decide +kernel
theorem dX10_clover_0 : decode cX10_clover 0 = .ok (.iload_n 1, 1) := by decide +kernel
theorem dX10_clover_1 : decode cX10_clover 1 = .ok (.invokestatic 253, 3) := by decide +kernel
theorem dX10_clover_4 : decode cX10_clover 4 = .ok (.ifCond .ne 6, 3) := by decide +kernel
theorem dX10_clover_7 : decode cX10_clover 7 = .ok (.ldc 252, 2) := by decide +kernel
theorem dX10_clover_9 : decode cX10_clover 9 = .ok (.ireturn, 1) := by decide +kernel
theorem dX10_clover_10 : decode cX10_clover 10 = .ok (.iload_n 2, 1) := by decide +kernel
theorem dX10_clover_11 : decode cX10_clover 11 = .ok (.i2l, 1) := by decide +kernel
theorem dX10_clover_12 : decode cX10_clover 12 = .ok (.lconst 1, 1) := by decide +kernel
theorem dX10_clover_13 : decode cX10_clover 13 = .ok (.ldc2_w 164, 3) := by decide +kernel
theorem dX10_clover_16 : decode cX10_clover 16 = .ok (.invokestatic 91, 3) := by decide +kernel
theorem dX10_clover_19 : decode cX10_clover 19 = .ok (.ifCond .eq 13, 3) := by decide +kernel
theorem dX10_clover_22 : decode cX10_clover 22 = .ok (.iload_n 3, 1) := by decide +kernel
theorem dX10_clover_23 : decode cX10_clover 23 = .ok (.i2l, 1) := by decide +kernel
theorem dX10_clover_24 : decode cX10_clover 24 = .ok (.lconst 0, 1) := by decide +kernel
theorem dX10_clover_25 : decode cX10_clover 25 = .ok (.lconst 1, 1) := by decide +kernel
theorem dX10_clover_26 : decode cX10_clover 26 = .ok (.invokestatic 91, 3) := by decide +kernel
theorem dX10_clover_29 : decode cX10_clover 29 = .ok (.ifCond .ne 6, 3) := by decide +kernel
theorem dX10_clover_32 : decode cX10_clover 32 = .ok (.ldc 97, 2) := by decide +kernel
theorem dX10_clover_34 : decode cX10_clover 34 = .ok (.ireturn, 1) := by decide +kernel
theorem dX10_clover_35 : decode cX10_clover 35 = .ok (.aload_n 0, 1) := by decide +kernel
theorem dX10_clover_36 : decode cX10_clover 36 = .ok (.invokevirtual 225, 3) := by decide +kernel
theorem dX10_clover_39 : decode cX10_clover 39 = .ok (.ifCond .ne 7, 3) := by decide +kernel
theorem dX10_clover_42 : decode cX10_clover 42 = .ok (.ldc_w 274, 3) := by decide +kernel
theorem dX10_clover_45 : decode cX10_clover 45 = .ok (.ireturn, 1) := by decide +kernel
theorem dX10_clover_46 : decode cX10_clover 46 = .ok (.aload_n 0, 1) := by decide +kernel
theorem dX10_clover_47 : decode cX10_clover 47 = .ok (.iload_n 1, 1) := by decide +kernel
theorem dX10_clover_48 : decode cX10_clover 48 = .ok (.iload_n 2, 1) := by decide +kernel
theorem dX10_clover_49 : decode cX10_clover 49 = .ok (.iconst (-1), 1) := by decide +kernel
theorem dX10_clover_50 : decode cX10_clover 50 = .ok (.invokevirtual 313, 3) := by decide +kernel
theorem dX10_clover_53 : decode cX10_clover 53 = .ok (.istore 4, 2) := by decide +kernel
theorem dX10_clover_55 : decode cX10_clover 55 = .ok (.iload_n 3, 1) := by decide +kernel
theorem dX10_clover_56 : decode cX10_clover 56 = .ok (.ifCond .ne 12, 3) := by decide +kernel
theorem dX10_clover_59 : decode cX10_clover 59 = .ok (.aload_n 0, 1) := by decide +kernel
theorem dX10_clover_60 : decode cX10_clover 60 = .ok (.iload 4, 2) := by decide +kernel
theorem dX10_clover_62 : decode cX10_clover 62 = .ok (.invokevirtual 235, 3) := by decide +kernel
theorem dX10_clover_65 : decode cX10_clover 65 = .ok (.goto 13, 3) := by decide +kernel
theorem dX10_clover_68 : decode cX10_clover 68 = .ok (.aload_n 0, 1) := by decide +kernel
theorem dX10_clover_69 : decode cX10_clover 69 = .ok (.getfield 304, 3) := by decide +kernel
theorem dX10_clover_72 : decode cX10_clover 72 = .ok (.aload_n 0, 1) := by decide +kernel
theorem dX10_clover_73 : decode cX10_clover 73 = .ok (.iload_n 1, 1) := by decide +kernel
theorem dX10_clover_74 : decode cX10_clover 74 = .ok (.invokevirtual 300, 3) := by decide +kernel
theorem dX10_clover_77 : decode cX10_clover 77 = .ok (.isub, 1) := by decide +kernel
theorem dX10_clover_78 : decode cX10_clover 78 = .ok (.ireturn, 1) := by decide +kernel
theorem dX10_rests_0 : decode cX10_rests 0 = .ok (.iload_n 1, 1) := by decide +kernel
theorem dX10_rests_1 : decode cX10_rests 1 = .ok (.iconst (-1), 1) := by decide +kernel
theorem dX10_rests_2 : decode cX10_rests 2 = .ok (.if_icmp .eq 13, 3) := by decide +kernel
theorem dX10_rests_5 : decode cX10_rests 5 = .ok (.iload_n 1, 1) := by decide +kernel
theorem dX10_rests_6 : decode cX10_rests 6 = .ok (.invokestatic 253, 3) := by decide +kernel
theorem dX10_rests_9 : decode cX10_rests 9 = .ok (.ifCond .ne 6, 3) := by decide +kernel
theorem dX10_rests_12 : decode cX10_rests 12 = .ok (.ldc 252, 2) := by decide +kernel
theorem dX10_rests_14 : decode cX10_rests 14 = .ok (.ireturn, 1) := by decide +kernel
theorem dX10_rests_15 : decode cX10_rests 15 = .ok (.iload_n 2, 1) := by decide +kernel
theorem dX10_rests_16 : decode cX10_rests 16 = .ok (.i2l, 1) := by decide +kernel
theorem dX10_rests_17 : decode cX10_rests 17 = .ok (.lconst 1, 1) := by decide +kernel
theorem dX10_rests_18 : decode cX10_rests 18 = .ok (.ldc2_w 164, 3) := by decide +kernel
theorem dX10_rests_21 : decode cX10_rests 21 = .ok (.invokestatic 91, 3) := by decide +kernel
theorem dX10_rests_24 : decode cX10_rests 24 = .ok (.ifCond .ne 6, 3) := by decide +kernel
theorem dX10_rests_27 : decode cX10_rests 27 = .ok (.ldc 97, 2) := by decide +kernel
theorem dX10_rests_29 : decode cX10_rests 29 = .ok (.ireturn, 1) := by decide +kernel
theorem dX10_rests_30 : decode cX10_rests 30 = .ok (.aload_n 0, 1) := by decide +kernel
theorem dX10_rests_31 : decode cX10_rests 31 = .ok (.invokevirtual 225, 3) := by decide +kernel
theorem dX10_rests_34 : decode cX10_rests 34 = .ok (.ifCond .ne 7, 3) := by decide +kernel
theorem dX10_rests_37 : decode cX10_rests 37 = .ok (.ldc_w 274, 3) := by decide +kernel
theorem dX10_rests_40 : decode cX10_rests 40 = .ok (.ireturn, 1) := by decide +kernel
theorem dX10_rests_41 : decode cX10_rests 41 = .ok (.aload_n 0, 1) := by decide +kernel
theorem dX10_rests_42 : decode cX10_rests 42 = .ok (.iconst 0, 1) := by decide +kernel
theorem dX10_rests_43 : decode cX10_rests 43 = .ok (.iload_n 2, 1) := by decide +kernel
theorem dX10_rests_44 : decode cX10_rests 44 = .ok (.iconst (-1), 1) := by decide +kernel
theorem dX10_rests_45 : decode cX10_rests 45 = .ok (.invokevirtual 313, 3) := by decide +kernel
theorem dX10_rests_48 : decode cX10_rests 48 = .ok (.istore_n 3, 1) := by decide +kernel
theorem dX10_rests_49 : decode cX10_rests 49 = .ok (.aload_n 0, 1) := by decide +kernel
theorem dX10_rests_50 : decode cX10_rests 50 = .ok (.iconst 1, 1) := by decide +kernel
theorem dX10_rests_51 : decode cX10_rests 51 = .ok (.iload_n 2, 1) := by decide +kernel
theorem dX10_rests_52 : decode cX10_rests 52 = .ok (.iconst (-1), 1) := by decide +kernel
theorem dX10_rests_53 : decode cX10_rests 53 = .ok (.invokevirtual 313, 3) := by decide +kernel
theorem dX10_rests_56 : decode cX10_rests 56 = .ok (.istore 4, 2) := by decide +kernel
theorem dX10_rests_58 : decode cX10_rests 58 = .ok (.iconst 0, 1) := by decide +kernel
theorem dX10_rests_59 : decode cX10_rests 59 = .ok (.istore 5, 2) := by decide +kernel
theorem dX10_rests_61 : decode cX10_rests 61 = .ok (.iload 5, 2) := by decide +kernel
theorem dX10_rests_63 : decode cX10_rests 63 = .ok (.bipush 20, 2) := by decide +kernel
theorem dX10_rests_65 : decode cX10_rests 65 = .ok (.if_icmp .ge 74, 3) := by decide +kernel
theorem dX10_rests_68 : decode cX10_rests 68 = .ok (.aload_n 0, 1) := by decide +kernel
theorem dX10_rests_69 : decode cX10_rests 69 = .ok (.iconst 0, 1) := by decide +kernel
theorem dX10_rests_70 : decode cX10_rests 70 = .ok (.iload_n 2, 1) := by decide +kernel
theorem dX10_rests_71 : decode cX10_rests 71 = .ok (.iload 4, 2) := by decide +kernel
theorem dX10_rests_73 : decode cX10_rests 73 = .ok (.invokevirtual 313, 3) := by decide +kernel
theorem dX10_rests_76 : decode cX10_rests 76 = .ok (.istore 6, 2) := by decide +kernel
theorem dX10_rests_78 : decode cX10_rests 78 = .ok (.aload_n 0, 1) := by decide +kernel
theorem dX10_rests_79 : decode cX10_rests 79 = .ok (.iconst 1, 1) := by decide +kernel
theorem dX10_rests_80 : decode cX10_rests 80 = .ok (.iload_n 2, 1) := by decide +kernel
theorem dX10_rests_81 : decode cX10_rests 81 = .ok (.iload 6, 2) := by decide +kernel
theorem dX10_rests_83 : decode cX10_rests 83 = .ok (.invokevirtual 313, 3) := by decide +kernel
theorem dX10_rests_86 : decode cX10_rests 86 = .ok (.istore 7, 2) := by decide +kernel
theorem dX10_rests_88 : decode cX10_rests 88 = .ok (.iload 6, 2) := by decide +kernel
theorem dX10_rests_90 : decode cX10_rests 90 = .ok (.iload_n 3, 1) := by decide +kernel
theorem dX10_rests_91 : decode cX10_rests 91 = .ok (.if_icmp .ne 35, 3) := by decide +kernel
theorem dX10_rests_94 : decode cX10_rests 94 = .ok (.iload 7, 2) := by decide +kernel
theorem dX10_rests_96 : decode cX10_rests 96 = .ok (.iload 4, 2) := by decide +kernel
theorem dX10_rests_98 : decode cX10_rests 98 = .ok (.if_icmp .ne 28, 3) := by decide +kernel
theorem dX10_rests_101 : decode cX10_rests 101 = .ok (.iload_n 1, 1) := by decide +kernel
theorem dX10_rests_102 : decode cX10_rests 102 = .ok (.iconst (-1), 1) := by decide +kernel
theorem dX10_rests_103 : decode cX10_rests 103 = .ok (.if_icmp .ne 8, 3) := by decide +kernel
theorem dX10_rests_106 : decode cX10_rests 106 = .ok (.iload 5, 2) := by decide +kernel
theorem dX10_rests_108 : decode cX10_rests 108 = .ok (.goto 17, 3) := by decide +kernel
theorem dX10_rests_111 : decode cX10_rests 111 = .ok (.aload_n 0, 1) := by decide +kernel
theorem dX10_rests_112 : decode cX10_rests 112 = .ok (.iload_n 1, 1) := by decide +kernel
theorem dX10_rests_113 : decode cX10_rests 113 = .ok (.ifCond .ne 7, 3) := by decide +kernel
theorem dX10_rests_116 : decode cX10_rests 116 = .ok (.iload_n 3, 1) := by decide +kernel
theorem dX10_rests_117 : decode cX10_rests 117 = .ok (.goto 5, 3) := by decide +kernel
theorem dX10_rests_120 : decode cX10_rests 120 = .ok (.iload 4, 2) := by decide +kernel
theorem dX10_rests_122 : decode cX10_rests 122 = .ok (.invokevirtual 235, 3) := by decide +kernel
theorem dX10_rests_125 : decode cX10_rests 125 = .ok (.ireturn, 1) := by decide +kernel
theorem dX10_rests_126 : decode cX10_rests 126 = .ok (.iload 6, 2) := by decide +kernel
theorem dX10_rests_128 : decode cX10_rests 128 = .ok (.istore_n 3, 1) := by decide +kernel
theorem dX10_rests_129 : decode cX10_rests 129 = .ok (.iload 7, 2) := by decide +kernel
theorem dX10_rests_131 : decode cX10_rests 131 = .ok (.istore 4, 2) := by decide +kernel
theorem dX10_rests_133 : decode cX10_rests 133 = .ok (.iinc 5 1, 3) := by decide +kernel
theorem dX10_rests_136 : decode cX10_rests 136 = .ok (.goto (-75), 3) := by decide +kernel
theorem dX10_rests_139 : decode cX10_rests 139 = .ok (.iconst (-1), 1) := by decide +kernel
theorem dX10_rests_140 : decode cX10_rests 140 = .ok (.ireturn, 1) := by decide +kernel
theorem dX10_worth_0 : decode cX10_worth 0 = .ok (.iload_n 1, 1) := by decide +kernel
theorem dX10_worth_1 : decode cX10_worth 1 = .ok (.invokestatic 253, 3) := by decide +kernel
theorem dX10_worth_4 : decode cX10_worth 4 = .ok (.ifCond .eq 12, 3) := by decide +kernel
theorem dX10_worth_7 : decode cX10_worth 7 = .ok (.aload_n 0, 1) := by decide +kernel
theorem dX10_worth_8 : decode cX10_worth 8 = .ok (.iload_n 2, 1) := by decide +kernel
theorem dX10_worth_9 : decode cX10_worth 9 = .ok (.iload_n 3, 1) := by decide +kernel
theorem dX10_worth_10 : decode cX10_worth 10 = .ok (.invokevirtual 239, 3) := by decide +kernel
theorem dX10_worth_13 : decode cX10_worth 13 = .ok (.ifCond .ne 6, 3) := by decide +kernel
theorem dX10_worth_16 : decode cX10_worth 16 = .ok (.ldc 252, 2) := by decide +kernel
theorem dX10_worth_18 : decode cX10_worth 18 = .ok (.ireturn, 1) := by decide +kernel
theorem dX10_worth_19 : decode cX10_worth 19 = .ok (.aload_n 0, 1) := by decide +kernel
theorem dX10_worth_20 : decode cX10_worth 20 = .ok (.getfield 7, 3) := by decide +kernel
theorem dX10_worth_23 : decode cX10_worth 23 = .ok (.bipush 82, 2) := by decide +kernel
theorem dX10_worth_25 : decode cX10_worth 25 = .ok (.iaload, 1) := by decide +kernel
theorem dX10_worth_26 : decode cX10_worth 26 = .ok (.istore 4, 2) := by decide +kernel
theorem dX10_worth_28 : decode cX10_worth 28 = .ok (.aload_n 0, 1) := by decide +kernel
theorem dX10_worth_29 : decode cX10_worth 29 = .ok (.iload_n 1, 1) := by decide +kernel
theorem dX10_worth_30 : decode cX10_worth 30 = .ok (.invokevirtual 300, 3) := by decide +kernel
theorem dX10_worth_33 : decode cX10_worth 33 = .ok (.istore 5, 2) := by decide +kernel
theorem dX10_worth_35 : decode cX10_worth 35 = .ok (.aload_n 0, 1) := by decide +kernel
theorem dX10_worth_36 : decode cX10_worth 36 = .ok (.getfield 7, 3) := by decide +kernel
theorem dX10_worth_39 : decode cX10_worth 39 = .ok (.bipush 82, 2) := by decide +kernel
theorem dX10_worth_41 : decode cX10_worth 41 = .ok (.aload_n 0, 1) := by decide +kernel
theorem dX10_worth_42 : decode cX10_worth 42 = .ok (.getfield 85, 3) := by decide +kernel
theorem dX10_worth_45 : decode cX10_worth 45 = .ok (.iload_n 3, 1) := by decide +kernel
theorem dX10_worth_46 : decode cX10_worth 46 = .ok (.imul, 1) := by decide +kernel
theorem dX10_worth_47 : decode cX10_worth 47 = .ok (.iload_n 2, 1) := by decide +kernel
theorem dX10_worth_48 : decode cX10_worth 48 = .ok (.iadd, 1) := by decide +kernel
theorem dX10_worth_49 : decode cX10_worth 49 = .ok (.iastore, 1) := by decide +kernel
theorem dX10_worth_50 : decode cX10_worth 50 = .ok (.aload_n 0, 1) := by decide +kernel
theorem dX10_worth_51 : decode cX10_worth 51 = .ok (.iload_n 1, 1) := by decide +kernel
theorem dX10_worth_52 : decode cX10_worth 52 = .ok (.invokevirtual 300, 3) := by decide +kernel
theorem dX10_worth_55 : decode cX10_worth 55 = .ok (.istore 6, 2) := by decide +kernel
theorem dX10_worth_57 : decode cX10_worth 57 = .ok (.aload_n 0, 1) := by decide +kernel
theorem dX10_worth_58 : decode cX10_worth 58 = .ok (.getfield 7, 3) := by decide +kernel
theorem dX10_worth_61 : decode cX10_worth 61 = .ok (.bipush 82, 2) := by decide +kernel
theorem dX10_worth_63 : decode cX10_worth 63 = .ok (.iload 4, 2) := by decide +kernel
theorem dX10_worth_65 : decode cX10_worth 65 = .ok (.iastore, 1) := by decide +kernel
theorem dX10_worth_66 : decode cX10_worth 66 = .ok (.iload 6, 2) := by decide +kernel
theorem dX10_worth_68 : decode cX10_worth 68 = .ok (.iload 5, 2) := by decide +kernel
theorem dX10_worth_70 : decode cX10_worth 70 = .ok (.isub, 1) := by decide +kernel
theorem dX10_worth_71 : decode cX10_worth 71 = .ok (.ireturn, 1) := by decide +kernel
theorem dX10_fairest_0 : decode cX10_fairest 0 = .ok (.iload_n 1, 1) := by decide +kernel
theorem dX10_fairest_1 : decode cX10_fairest 1 = .ok (.i2l, 1) := by decide +kernel
theorem dX10_fairest_2 : decode cX10_fairest 2 = .ok (.lconst 0, 1) := by decide +kernel
theorem dX10_fairest_3 : decode cX10_fairest 3 = .ok (.lconst 1, 1) := by decide +kernel
theorem dX10_fairest_4 : decode cX10_fairest 4 = .ok (.invokestatic 91, 3) := by decide +kernel
theorem dX10_fairest_7 : decode cX10_fairest 7 = .ok (.ifCond .ne 6, 3) := by decide +kernel
theorem dX10_fairest_10 : decode cX10_fairest 10 = .ok (.ldc 97, 2) := by decide +kernel
theorem dX10_fairest_12 : decode cX10_fairest 12 = .ok (.ireturn, 1) := by decide +kernel
theorem dX10_fairest_13 : decode cX10_fairest 13 = .ok (.aload_n 0, 1) := by decide +kernel
theorem dX10_fairest_14 : decode cX10_fairest 14 = .ok (.invokevirtual 225, 3) := by decide +kernel
theorem dX10_fairest_17 : decode cX10_fairest 17 = .ok (.ifCond .ne 7, 3) := by decide +kernel
theorem dX10_fairest_20 : decode cX10_fairest 20 = .ok (.ldc_w 274, 3) := by decide +kernel
theorem dX10_fairest_23 : decode cX10_fairest 23 = .ok (.ireturn, 1) := by decide +kernel
theorem dX10_fairest_24 : decode cX10_fairest 24 = .ok (.aload_n 0, 1) := by decide +kernel
theorem dX10_fairest_25 : decode cX10_fairest 25 = .ok (.getfield 7, 3) := by decide +kernel
theorem dX10_fairest_28 : decode cX10_fairest 28 = .ok (.bipush 82, 2) := by decide +kernel
theorem dX10_fairest_30 : decode cX10_fairest 30 = .ok (.iaload, 1) := by decide +kernel
theorem dX10_fairest_31 : decode cX10_fairest 31 = .ok (.istore_n 2, 1) := by decide +kernel
theorem dX10_fairest_32 : decode cX10_fairest 32 = .ok (.iconst (-1), 1) := by decide +kernel
theorem dX10_fairest_33 : decode cX10_fairest 33 = .ok (.istore_n 3, 1) := by decide +kernel
theorem dX10_fairest_34 : decode cX10_fairest 34 = .ok (.ldc_w 317, 3) := by decide +kernel
theorem dX10_fairest_37 : decode cX10_fairest 37 = .ok (.istore 4, 2) := by decide +kernel
theorem dX10_fairest_39 : decode cX10_fairest 39 = .ok (.iconst 0, 1) := by decide +kernel
theorem dX10_fairest_40 : decode cX10_fairest 40 = .ok (.istore 5, 2) := by decide +kernel
theorem dX10_fairest_42 : decode cX10_fairest 42 = .ok (.iload 5, 2) := by decide +kernel
theorem dX10_fairest_44 : decode cX10_fairest 44 = .ok (.aload_n 0, 1) := by decide +kernel
theorem dX10_fairest_45 : decode cX10_fairest 45 = .ok (.invokevirtual 225, 3) := by decide +kernel
theorem dX10_fairest_48 : decode cX10_fairest 48 = .ok (.if_icmp .ge 76, 3) := by decide +kernel
theorem dX10_fairest_51 : decode cX10_fairest 51 = .ok (.aload_n 0, 1) := by decide +kernel
theorem dX10_fairest_52 : decode cX10_fairest 52 = .ok (.getfield 7, 3) := by decide +kernel
theorem dX10_fairest_55 : decode cX10_fairest 55 = .ok (.bipush 82, 2) := by decide +kernel
theorem dX10_fairest_57 : decode cX10_fairest 57 = .ok (.iload 5, 2) := by decide +kernel
theorem dX10_fairest_59 : decode cX10_fairest 59 = .ok (.iastore, 1) := by decide +kernel
theorem dX10_fairest_60 : decode cX10_fairest 60 = .ok (.aload_n 0, 1) := by decide +kernel
theorem dX10_fairest_61 : decode cX10_fairest 61 = .ok (.iconst 0, 1) := by decide +kernel
theorem dX10_fairest_62 : decode cX10_fairest 62 = .ok (.invokevirtual 300, 3) := by decide +kernel
theorem dX10_fairest_65 : decode cX10_fairest 65 = .ok (.aload_n 0, 1) := by decide +kernel
theorem dX10_fairest_66 : decode cX10_fairest 66 = .ok (.iconst 1, 1) := by decide +kernel
theorem dX10_fairest_67 : decode cX10_fairest 67 = .ok (.invokevirtual 300, 3) := by decide +kernel
theorem dX10_fairest_70 : decode cX10_fairest 70 = .ok (.isub, 1) := by decide +kernel
theorem dX10_fairest_71 : decode cX10_fairest 71 = .ok (.istore 6, 2) := by decide +kernel
theorem dX10_fairest_73 : decode cX10_fairest 73 = .ok (.iload 6, 2) := by decide +kernel
theorem dX10_fairest_75 : decode cX10_fairest 75 = .ok (.ifCond .ge 9, 3) := by decide +kernel
theorem dX10_fairest_78 : decode cX10_fairest 78 = .ok (.iload 6, 2) := by decide +kernel
theorem dX10_fairest_80 : decode cX10_fairest 80 = .ok (.ineg, 1) := by decide +kernel
theorem dX10_fairest_81 : decode cX10_fairest 81 = .ok (.goto 5, 3) := by decide +kernel
theorem dX10_fairest_84 : decode cX10_fairest 84 = .ok (.iload 6, 2) := by decide +kernel
theorem dX10_fairest_86 : decode cX10_fairest 86 = .ok (.istore 6, 2) := by decide +kernel
theorem dX10_fairest_88 : decode cX10_fairest 88 = .ok (.iload 6, 2) := by decide +kernel
theorem dX10_fairest_90 : decode cX10_fairest 90 = .ok (.iload 4, 2) := by decide +kernel
theorem dX10_fairest_92 : decode cX10_fairest 92 = .ok (.if_icmp .ge 8, 3) := by decide +kernel
theorem dX10_fairest_95 : decode cX10_fairest 95 = .ok (.iload 5, 2) := by decide +kernel
theorem dX10_fairest_97 : decode cX10_fairest 97 = .ok (.goto 4, 3) := by decide +kernel
theorem dX10_fairest_100 : decode cX10_fairest 100 = .ok (.iload_n 3, 1) := by decide +kernel
theorem dX10_fairest_101 : decode cX10_fairest 101 = .ok (.istore_n 3, 1) := by decide +kernel
theorem dX10_fairest_102 : decode cX10_fairest 102 = .ok (.iload 6, 2) := by decide +kernel
theorem dX10_fairest_104 : decode cX10_fairest 104 = .ok (.iload 4, 2) := by decide +kernel
theorem dX10_fairest_106 : decode cX10_fairest 106 = .ok (.if_icmp .ge 8, 3) := by decide +kernel
theorem dX10_fairest_109 : decode cX10_fairest 109 = .ok (.iload 6, 2) := by decide +kernel
theorem dX10_fairest_111 : decode cX10_fairest 111 = .ok (.goto 5, 3) := by decide +kernel
theorem dX10_fairest_114 : decode cX10_fairest 114 = .ok (.iload 4, 2) := by decide +kernel
theorem dX10_fairest_116 : decode cX10_fairest 116 = .ok (.istore 4, 2) := by decide +kernel
theorem dX10_fairest_118 : decode cX10_fairest 118 = .ok (.iinc 5 1, 3) := by decide +kernel
theorem dX10_fairest_121 : decode cX10_fairest 121 = .ok (.goto (-79), 3) := by decide +kernel
theorem dX10_fairest_124 : decode cX10_fairest 124 = .ok (.aload_n 0, 1) := by decide +kernel
theorem dX10_fairest_125 : decode cX10_fairest 125 = .ok (.getfield 7, 3) := by decide +kernel
theorem dX10_fairest_128 : decode cX10_fairest 128 = .ok (.bipush 82, 2) := by decide +kernel
theorem dX10_fairest_130 : decode cX10_fairest 130 = .ok (.iload_n 2, 1) := by decide +kernel
theorem dX10_fairest_131 : decode cX10_fairest 131 = .ok (.iastore, 1) := by decide +kernel
theorem dX10_fairest_132 : decode cX10_fairest 132 = .ok (.iload_n 1, 1) := by decide +kernel
theorem dX10_fairest_133 : decode cX10_fairest 133 = .ok (.ifCond .ne 11, 3) := by decide +kernel
theorem dX10_fairest_136 : decode cX10_fairest 136 = .ok (.aload_n 0, 1) := by decide +kernel
theorem dX10_fairest_137 : decode cX10_fairest 137 = .ok (.iload_n 3, 1) := by decide +kernel
theorem dX10_fairest_138 : decode cX10_fairest 138 = .ok (.invokevirtual 235, 3) := by decide +kernel
theorem dX10_fairest_141 : decode cX10_fairest 141 = .ok (.goto 5, 3) := by decide +kernel
theorem dX10_fairest_144 : decode cX10_fairest 144 = .ok (.iload 4, 2) := by decide +kernel
theorem dX10_fairest_146 : decode cX10_fairest 146 = .ok (.ireturn, 1) := by decide +kernel
theorem dX10_watch_0 : decode cX10_watch 0 = .ok (.iload_n 1, 1) := by decide +kernel
theorem dX10_watch_1 : decode cX10_watch 1 = .ok (.i2l, 1) := by decide +kernel
theorem dX10_watch_2 : decode cX10_watch 2 = .ok (.lconst 0, 1) := by decide +kernel
theorem dX10_watch_3 : decode cX10_watch 3 = .ok (.ldc2_w 278, 3) := by decide +kernel
theorem dX10_watch_6 : decode cX10_watch 6 = .ok (.invokestatic 91, 3) := by decide +kernel
theorem dX10_watch_9 : decode cX10_watch 9 = .ok (.ifCond .ne 6, 3) := by decide +kernel
theorem dX10_watch_12 : decode cX10_watch 12 = .ok (.ldc 97, 2) := by decide +kernel
theorem dX10_watch_14 : decode cX10_watch 14 = .ok (.ireturn, 1) := by decide +kernel
theorem dX10_watch_15 : decode cX10_watch 15 = .ok (.aload_n 0, 1) := by decide +kernel
theorem dX10_watch_16 : decode cX10_watch 16 = .ok (.invokevirtual 225, 3) := by decide +kernel
theorem dX10_watch_19 : decode cX10_watch 19 = .ok (.ifCond .ne 7, 3) := by decide +kernel
theorem dX10_watch_22 : decode cX10_watch 22 = .ok (.ldc_w 274, 3) := by decide +kernel
theorem dX10_watch_25 : decode cX10_watch 25 = .ok (.ireturn, 1) := by decide +kernel
theorem dX10_watch_26 : decode cX10_watch 26 = .ok (.aload_n 0, 1) := by decide +kernel
theorem dX10_watch_27 : decode cX10_watch 27 = .ok (.invokevirtual 289, 3) := by decide +kernel
theorem dX10_watch_30 : decode cX10_watch 30 = .ok (.iconst 0, 1) := by decide +kernel
theorem dX10_watch_31 : decode cX10_watch 31 = .ok (.istore_n 2, 1) := by decide +kernel
theorem dX10_watch_32 : decode cX10_watch 32 = .ok (.iconst (-1), 1) := by decide +kernel
theorem dX10_watch_33 : decode cX10_watch 33 = .ok (.istore_n 3, 1) := by decide +kernel
theorem dX10_watch_34 : decode cX10_watch 34 = .ok (.ldc2_w 318, 3) := by decide +kernel
theorem dX10_watch_37 : decode cX10_watch 37 = .ok (.lstore 4, 2) := by decide +kernel
theorem dX10_watch_39 : decode cX10_watch 39 = .ok (.iconst 1, 1) := by decide +kernel
theorem dX10_watch_40 : decode cX10_watch 40 = .ok (.istore 6, 2) := by decide +kernel
theorem dX10_watch_42 : decode cX10_watch 42 = .ok (.iload 6, 2) := by decide +kernel
theorem dX10_watch_44 : decode cX10_watch 44 = .ok (.aload_n 0, 1) := by decide +kernel
theorem dX10_watch_45 : decode cX10_watch 45 = .ok (.getfield 26, 3) := by decide +kernel
theorem dX10_watch_48 : decode cX10_watch 48 = .ok (.if_icmp .gt 89, 3) := by decide +kernel
theorem dX10_watch_51 : decode cX10_watch 51 = .ok (.aload_n 0, 1) := by decide +kernel
theorem dX10_watch_52 : decode cX10_watch 52 = .ok (.invokevirtual 292, 3) := by decide +kernel
theorem dX10_watch_55 : decode cX10_watch 55 = .ok (.iconst 0, 1) := by decide +kernel
theorem dX10_watch_56 : decode cX10_watch 56 = .ok (.istore 7, 2) := by decide +kernel
theorem dX10_watch_58 : decode cX10_watch 58 = .ok (.iconst 1, 1) := by decide +kernel
theorem dX10_watch_59 : decode cX10_watch 59 = .ok (.istore 8, 2) := by decide +kernel
theorem dX10_watch_61 : decode cX10_watch 61 = .ok (.iload 8, 2) := by decide +kernel
theorem dX10_watch_63 : decode cX10_watch 63 = .ok (.aload_n 0, 1) := by decide +kernel
theorem dX10_watch_64 : decode cX10_watch 64 = .ok (.invokevirtual 225, 3) := by decide +kernel
theorem dX10_watch_67 : decode cX10_watch 67 = .ok (.if_icmp .ge 36, 3) := by decide +kernel
theorem dX10_watch_70 : decode cX10_watch 70 = .ok (.aload_n 0, 1) := by decide +kernel
theorem dX10_watch_71 : decode cX10_watch 71 = .ok (.getfield 69, 3) := by decide +kernel
theorem dX10_watch_74 : decode cX10_watch 74 = .ok (.iload 8, 2) := by decide +kernel
theorem dX10_watch_76 : decode cX10_watch 76 = .ok (.laload, 1) := by decide +kernel
theorem dX10_watch_77 : decode cX10_watch 77 = .ok (.aload_n 0, 1) := by decide +kernel
theorem dX10_watch_78 : decode cX10_watch 78 = .ok (.getfield 69, 3) := by decide +kernel
theorem dX10_watch_81 : decode cX10_watch 81 = .ok (.iload 7, 2) := by decide +kernel
theorem dX10_watch_83 : decode cX10_watch 83 = .ok (.laload, 1) := by decide +kernel
theorem dX10_watch_84 : decode cX10_watch 84 = .ok (.lcmp, 1) := by decide +kernel
theorem dX10_watch_85 : decode cX10_watch 85 = .ok (.ifCond .le 8, 3) := by decide +kernel
theorem dX10_watch_88 : decode cX10_watch 88 = .ok (.iload 8, 2) := by decide +kernel
theorem dX10_watch_90 : decode cX10_watch 90 = .ok (.goto 5, 3) := by decide +kernel
theorem dX10_watch_93 : decode cX10_watch 93 = .ok (.iload 7, 2) := by decide +kernel
theorem dX10_watch_95 : decode cX10_watch 95 = .ok (.istore 7, 2) := by decide +kernel
theorem dX10_watch_97 : decode cX10_watch 97 = .ok (.iinc 8 1, 3) := by decide +kernel
theorem dX10_watch_100 : decode cX10_watch 100 = .ok (.goto (-39), 3) := by decide +kernel
theorem dX10_watch_103 : decode cX10_watch 103 = .ok (.aload_n 0, 1) := by decide +kernel
theorem dX10_watch_104 : decode cX10_watch 104 = .ok (.getfield 69, 3) := by decide +kernel
theorem dX10_watch_107 : decode cX10_watch 107 = .ok (.iload 7, 2) := by decide +kernel
theorem dX10_watch_109 : decode cX10_watch 109 = .ok (.laload, 1) := by decide +kernel
theorem dX10_watch_110 : decode cX10_watch 110 = .ok (.lload 4, 2) := by decide +kernel
theorem dX10_watch_112 : decode cX10_watch 112 = .ok (.lcmp, 1) := by decide +kernel
theorem dX10_watch_113 : decode cX10_watch 113 = .ok (.ifCond .lt 18, 3) := by decide +kernel
theorem dX10_watch_116 : decode cX10_watch 116 = .ok (.aload_n 0, 1) := by decide +kernel
theorem dX10_watch_117 : decode cX10_watch 117 = .ok (.getfield 69, 3) := by decide +kernel
theorem dX10_watch_120 : decode cX10_watch 120 = .ok (.iload 7, 2) := by decide +kernel
theorem dX10_watch_122 : decode cX10_watch 122 = .ok (.laload, 1) := by decide +kernel
theorem dX10_watch_123 : decode cX10_watch 123 = .ok (.lstore 4, 2) := by decide +kernel
theorem dX10_watch_125 : decode cX10_watch 125 = .ok (.iload 6, 2) := by decide +kernel
theorem dX10_watch_127 : decode cX10_watch 127 = .ok (.istore_n 2, 1) := by decide +kernel
theorem dX10_watch_128 : decode cX10_watch 128 = .ok (.iload 7, 2) := by decide +kernel
theorem dX10_watch_130 : decode cX10_watch 130 = .ok (.istore_n 3, 1) := by decide +kernel
theorem dX10_watch_131 : decode cX10_watch 131 = .ok (.iinc 6 1, 3) := by decide +kernel
theorem dX10_watch_134 : decode cX10_watch 134 = .ok (.goto (-92), 3) := by decide +kernel
theorem dX10_watch_137 : decode cX10_watch 137 = .ok (.iload_n 1, 1) := by decide +kernel
theorem dX10_watch_138 : decode cX10_watch 138 = .ok (.ifCond .ne 7, 3) := by decide +kernel
theorem dX10_watch_141 : decode cX10_watch 141 = .ok (.iload_n 2, 1) := by decide +kernel
theorem dX10_watch_142 : decode cX10_watch 142 = .ok (.goto 19, 3) := by decide +kernel
theorem dX10_watch_145 : decode cX10_watch 145 = .ok (.iload_n 1, 1) := by decide +kernel
theorem dX10_watch_146 : decode cX10_watch 146 = .ok (.iconst 1, 1) := by decide +kernel
theorem dX10_watch_147 : decode cX10_watch 147 = .ok (.if_icmp .ne 11, 3) := by decide +kernel
theorem dX10_watch_150 : decode cX10_watch 150 = .ok (.aload_n 0, 1) := by decide +kernel
theorem dX10_watch_151 : decode cX10_watch 151 = .ok (.iload_n 3, 1) := by decide +kernel
theorem dX10_watch_152 : decode cX10_watch 152 = .ok (.invokevirtual 235, 3) := by decide +kernel
theorem dX10_watch_155 : decode cX10_watch 155 = .ok (.goto 6, 3) := by decide +kernel
theorem dX10_watch_158 : decode cX10_watch 158 = .ok (.lload 4, 2) := by decide +kernel
theorem dX10_watch_160 : decode cX10_watch 160 = .ok (.l2i, 1) := by decide +kernel
theorem dX10_watch_161 : decode cX10_watch 161 = .ok (.ireturn, 1) := by decide +kernel
theorem dX10_see_0 : decode cX10_see 0 = .ok (.aload_n 0, 1) := by decide +kernel
theorem dX10_see_1 : decode cX10_see 1 = .ok (.iload_n 1, 1) := by decide +kernel
theorem dX10_see_2 : decode cX10_see 2 = .ok (.iload_n 2, 1) := by decide +kernel
theorem dX10_see_3 : decode cX10_see 3 = .ok (.invokevirtual 239, 3) := by decide +kernel
theorem dX10_see_6 : decode cX10_see 6 = .ok (.ifCond .ne 6, 3) := by decide +kernel
theorem dX10_see_9 : decode cX10_see 9 = .ok (.ldc 252, 2) := by decide +kernel
theorem dX10_see_11 : decode cX10_see 11 = .ok (.ireturn, 1) := by decide +kernel
theorem dX10_see_12 : decode cX10_see 12 = .ok (.iload_n 3, 1) := by decide +kernel
theorem dX10_see_13 : decode cX10_see 13 = .ok (.i2l, 1) := by decide +kernel
theorem dX10_see_14 : decode cX10_see 14 = .ok (.lconst 0, 1) := by decide +kernel
theorem dX10_see_15 : decode cX10_see 15 = .ok (.ldc2_w 295, 3) := by decide +kernel
theorem dX10_see_18 : decode cX10_see 18 = .ok (.invokestatic 91, 3) := by decide +kernel
theorem dX10_see_21 : decode cX10_see 21 = .ok (.ifCond .ne 6, 3) := by decide +kernel
theorem dX10_see_24 : decode cX10_see 24 = .ok (.ldc 97, 2) := by decide +kernel
theorem dX10_see_26 : decode cX10_see 26 = .ok (.ireturn, 1) := by decide +kernel
theorem dX10_see_27 : decode cX10_see 27 = .ok (.aload_n 0, 1) := by decide +kernel
theorem dX10_see_28 : decode cX10_see 28 = .ok (.getfield 229, 3) := by decide +kernel
theorem dX10_see_31 : decode cX10_see 31 = .ok (.bipush 10, 2) := by decide +kernel
theorem dX10_see_33 : decode cX10_see 33 = .ok (.if_icmp .ne 6, 3) := by decide +kernel
theorem dX10_see_36 : decode cX10_see 36 = .ok (.ldc 101, 2) := by decide +kernel
theorem dX10_see_38 : decode cX10_see 38 = .ok (.ireturn, 1) := by decide +kernel
theorem dX10_see_39 : decode cX10_see 39 = .ok (.aload_n 0, 1) := by decide +kernel
theorem dX10_see_40 : decode cX10_see 40 = .ok (.getfield 33, 3) := by decide +kernel
theorem dX10_see_43 : decode cX10_see 43 = .ok (.aload_n 0, 1) := by decide +kernel
theorem dX10_see_44 : decode cX10_see 44 = .ok (.getfield 229, 3) := by decide +kernel
theorem dX10_see_47 : decode cX10_see 47 = .ok (.aload_n 0, 1) := by decide +kernel
theorem dX10_see_48 : decode cX10_see 48 = .ok (.getfield 85, 3) := by decide +kernel
theorem dX10_see_51 : decode cX10_see 51 = .ok (.iload_n 2, 1) := by decide +kernel
theorem dX10_see_52 : decode cX10_see 52 = .ok (.imul, 1) := by decide +kernel
theorem dX10_see_53 : decode cX10_see 53 = .ok (.iload_n 1, 1) := by decide +kernel
theorem dX10_see_54 : decode cX10_see 54 = .ok (.iadd, 1) := by decide +kernel
theorem dX10_see_55 : decode cX10_see 55 = .ok (.iastore, 1) := by decide +kernel
theorem dX10_see_56 : decode cX10_see 56 = .ok (.aload_n 0, 1) := by decide +kernel
theorem dX10_see_57 : decode cX10_see 57 = .ok (.getfield 36, 3) := by decide +kernel
theorem dX10_see_60 : decode cX10_see 60 = .ok (.aload_n 0, 1) := by decide +kernel
theorem dX10_see_61 : decode cX10_see 61 = .ok (.getfield 229, 3) := by decide +kernel
theorem dX10_see_64 : decode cX10_see 64 = .ok (.iload_n 3, 1) := by decide +kernel
theorem dX10_see_65 : decode cX10_see 65 = .ok (.iastore, 1) := by decide +kernel
theorem dX10_see_66 : decode cX10_see 66 = .ok (.aload_n 0, 1) := by decide +kernel
theorem dX10_see_67 : decode cX10_see 67 = .ok (.dup, 1) := by decide +kernel
theorem dX10_see_68 : decode cX10_see 68 = .ok (.getfield 229, 3) := by decide +kernel
theorem dX10_see_71 : decode cX10_see 71 = .ok (.iconst 1, 1) := by decide +kernel
theorem dX10_see_72 : decode cX10_see 72 = .ok (.iadd, 1) := by decide +kernel
theorem dX10_see_73 : decode cX10_see 73 = .ok (.putfield 229, 3) := by decide +kernel
theorem dX10_see_76 : decode cX10_see 76 = .ok (.aload_n 0, 1) := by decide +kernel
theorem dX10_see_77 : decode cX10_see 77 = .ok (.getfield 229, 3) := by decide +kernel
theorem dX10_see_80 : decode cX10_see 80 = .ok (.ireturn, 1) := by decide +kernel
theorem dX10_fit_0 : decode cX10_fit 0 = .ok (.iconst 0, 1) := by decide +kernel
theorem dX10_fit_1 : decode cX10_fit 1 = .ok (.istore_n 2, 1) := by decide +kernel
theorem dX10_fit_2 : decode cX10_fit 2 = .ok (.iload_n 2, 1) := by decide +kernel
theorem dX10_fit_3 : decode cX10_fit 3 = .ok (.aload_n 0, 1) := by decide +kernel
theorem dX10_fit_4 : decode cX10_fit 4 = .ok (.getfield 229, 3) := by decide +kernel
theorem dX10_fit_7 : decode cX10_fit 7 = .ok (.if_icmp .ge 63, 3) := by decide +kernel
theorem dX10_fit_10 : decode cX10_fit 10 = .ok (.iconst 0, 1) := by decide +kernel
theorem dX10_fit_11 : decode cX10_fit 11 = .ok (.istore_n 3, 1) := by decide +kernel
theorem dX10_fit_12 : decode cX10_fit 12 = .ok (.iload_n 3, 1) := by decide +kernel
theorem dX10_fit_13 : decode cX10_fit 13 = .ok (.bipush 40, 2) := by decide +kernel
theorem dX10_fit_15 : decode cX10_fit 15 = .ok (.if_icmp .ge 49, 3) := by decide +kernel
theorem dX10_fit_18 : decode cX10_fit 18 = .ok (.aload_n 0, 1) := by decide +kernel
theorem dX10_fit_19 : decode cX10_fit 19 = .ok (.getfield 36, 3) := by decide +kernel
theorem dX10_fit_22 : decode cX10_fit 22 = .ok (.iload_n 2, 1) := by decide +kernel
theorem dX10_fit_23 : decode cX10_fit 23 = .ok (.iaload, 1) := by decide +kernel
theorem dX10_fit_24 : decode cX10_fit 24 = .ok (.iload_n 1, 1) := by decide +kernel
theorem dX10_fit_25 : decode cX10_fit 25 = .ok (.if_icmp .ne 39, 3) := by decide +kernel
theorem dX10_fit_28 : decode cX10_fit 28 = .ok (.aload_n 0, 1) := by decide +kernel
theorem dX10_fit_29 : decode cX10_fit 29 = .ok (.getfield 79, 3) := by decide +kernel
theorem dX10_fit_32 : decode cX10_fit 32 = .ok (.iload_n 3, 1) := by decide +kernel
theorem dX10_fit_33 : decode cX10_fit 33 = .ok (.aload_n 0, 1) := by decide +kernel
theorem dX10_fit_34 : decode cX10_fit 34 = .ok (.getfield 79, 3) := by decide +kernel
theorem dX10_fit_37 : decode cX10_fit 37 = .ok (.iload_n 3, 1) := by decide +kernel
theorem dX10_fit_38 : decode cX10_fit 38 = .ok (.baload, 1) := by decide +kernel
theorem dX10_fit_39 : decode cX10_fit 39 = .ok (.ifCond .eq 17, 3) := by decide +kernel
theorem dX10_fit_42 : decode cX10_fit 42 = .ok (.iload_n 3, 1) := by decide +kernel
theorem dX10_fit_43 : decode cX10_fit 43 = .ok (.aload_n 0, 1) := by decide +kernel
theorem dX10_fit_44 : decode cX10_fit 44 = .ok (.getfield 33, 3) := by decide +kernel
theorem dX10_fit_47 : decode cX10_fit 47 = .ok (.iload_n 2, 1) := by decide +kernel
theorem dX10_fit_48 : decode cX10_fit 48 = .ok (.iaload, 1) := by decide +kernel
theorem dX10_fit_49 : decode cX10_fit 49 = .ok (.if_icmp .ne 7, 3) := by decide +kernel
theorem dX10_fit_52 : decode cX10_fit 52 = .ok (.iconst 1, 1) := by decide +kernel
theorem dX10_fit_53 : decode cX10_fit 53 = .ok (.goto 4, 3) := by decide +kernel
theorem dX10_fit_56 : decode cX10_fit 56 = .ok (.iconst 0, 1) := by decide +kernel
theorem dX10_fit_57 : decode cX10_fit 57 = .ok (.bastore, 1) := by decide +kernel
theorem dX10_fit_58 : decode cX10_fit 58 = .ok (.iinc 3 1, 3) := by decide +kernel
theorem dX10_fit_61 : decode cX10_fit 61 = .ok (.goto (-49), 3) := by decide +kernel
theorem dX10_fit_64 : decode cX10_fit 64 = .ok (.iinc 2 1, 3) := by decide +kernel
theorem dX10_fit_67 : decode cX10_fit 67 = .ok (.goto (-65), 3) := by decide +kernel
theorem dX10_fit_70 : decode cX10_fit 70 = .ok (.return_, 1) := by decide +kernel
theorem dX10_findCan_0 : decode cX10_findCan 0 = .ok (.iconst 0, 1) := by decide +kernel
theorem dX10_findCan_1 : decode cX10_findCan 1 = .ok (.istore_n 1, 1) := by decide +kernel
theorem dX10_findCan_2 : decode cX10_findCan 2 = .ok (.iload_n 1, 1) := by decide +kernel
theorem dX10_findCan_3 : decode cX10_findCan 3 = .ok (.bipush 40, 2) := by decide +kernel
theorem dX10_findCan_5 : decode cX10_findCan 5 = .ok (.if_icmp .ge 31, 3) := by decide +kernel
theorem dX10_findCan_8 : decode cX10_findCan 8 = .ok (.aload_n 0, 1) := by decide +kernel
theorem dX10_findCan_9 : decode cX10_findCan 9 = .ok (.getfield 79, 3) := by decide +kernel
theorem dX10_findCan_12 : decode cX10_findCan 12 = .ok (.iload_n 1, 1) := by decide +kernel
theorem dX10_findCan_13 : decode cX10_findCan 13 = .ok (.iload_n 1, 1) := by decide +kernel
theorem dX10_findCan_14 : decode cX10_findCan 14 = .ok (.aload_n 0, 1) := by decide +kernel
theorem dX10_findCan_15 : decode cX10_findCan 15 = .ok (.getfield 7, 3) := by decide +kernel
theorem dX10_findCan_18 : decode cX10_findCan 18 = .ok (.bipush 80, 2) := by decide +kernel
theorem dX10_findCan_20 : decode cX10_findCan 20 = .ok (.iaload, 1) := by decide +kernel
theorem dX10_findCan_21 : decode cX10_findCan 21 = .ok (.if_icmp .ne 7, 3) := by decide +kernel
theorem dX10_findCan_24 : decode cX10_findCan 24 = .ok (.iconst 1, 1) := by decide +kernel
theorem dX10_findCan_25 : decode cX10_findCan 25 = .ok (.goto 4, 3) := by decide +kernel
theorem dX10_findCan_28 : decode cX10_findCan 28 = .ok (.iconst 0, 1) := by decide +kernel
theorem dX10_findCan_29 : decode cX10_findCan 29 = .ok (.bastore, 1) := by decide +kernel
theorem dX10_findCan_30 : decode cX10_findCan 30 = .ok (.iinc 1 1, 3) := by decide +kernel
theorem dX10_findCan_33 : decode cX10_findCan 33 = .ok (.goto (-31), 3) := by decide +kernel
theorem dX10_findCan_36 : decode cX10_findCan 36 = .ok (.aload_n 0, 1) := by decide +kernel
theorem dX10_findCan_37 : decode cX10_findCan 37 = .ok (.iconst 0, 1) := by decide +kernel
theorem dX10_findCan_38 : decode cX10_findCan 38 = .ok (.invokevirtual 320, 3) := by decide +kernel
theorem dX10_findCan_41 : decode cX10_findCan 41 = .ok (.iconst 1, 1) := by decide +kernel
theorem dX10_findCan_42 : decode cX10_findCan 42 = .ok (.istore_n 1, 1) := by decide +kernel
theorem dX10_findCan_43 : decode cX10_findCan 43 = .ok (.iload_n 1, 1) := by decide +kernel
theorem dX10_findCan_44 : decode cX10_findCan 44 = .ok (.aload_n 0, 1) := by decide +kernel
theorem dX10_findCan_45 : decode cX10_findCan 45 = .ok (.getfield 26, 3) := by decide +kernel
theorem dX10_findCan_48 : decode cX10_findCan 48 = .ok (.if_icmp .gt 113, 3) := by decide +kernel
theorem dX10_findCan_51 : decode cX10_findCan 51 = .ok (.iconst 0, 1) := by decide +kernel
theorem dX10_findCan_52 : decode cX10_findCan 52 = .ok (.istore_n 2, 1) := by decide +kernel
theorem dX10_findCan_53 : decode cX10_findCan 53 = .ok (.iload_n 2, 1) := by decide +kernel
theorem dX10_findCan_54 : decode cX10_findCan 54 = .ok (.bipush 40, 2) := by decide +kernel
theorem dX10_findCan_56 : decode cX10_findCan 56 = .ok (.if_icmp .ge 16, 3) := by decide +kernel
theorem dX10_findCan_59 : decode cX10_findCan 59 = .ok (.aload_n 0, 1) := by decide +kernel
theorem dX10_findCan_60 : decode cX10_findCan 60 = .ok (.getfield 82, 3) := by decide +kernel
theorem dX10_findCan_63 : decode cX10_findCan 63 = .ok (.iload_n 2, 1) := by decide +kernel
theorem dX10_findCan_64 : decode cX10_findCan 64 = .ok (.iconst 0, 1) := by decide +kernel
theorem dX10_findCan_65 : decode cX10_findCan 65 = .ok (.bastore, 1) := by decide +kernel
theorem dX10_findCan_66 : decode cX10_findCan 66 = .ok (.iinc 2 1, 3) := by decide +kernel
theorem dX10_findCan_69 : decode cX10_findCan 69 = .ok (.goto (-16), 3) := by decide +kernel
theorem dX10_findCan_72 : decode cX10_findCan 72 = .ok (.iconst 0, 1) := by decide +kernel
theorem dX10_findCan_73 : decode cX10_findCan 73 = .ok (.istore_n 2, 1) := by decide +kernel
theorem dX10_findCan_74 : decode cX10_findCan 74 = .ok (.iload_n 2, 1) := by decide +kernel
theorem dX10_findCan_75 : decode cX10_findCan 75 = .ok (.iconst 5, 1) := by decide +kernel
theorem dX10_findCan_76 : decode cX10_findCan 76 = .ok (.aload_n 0, 1) := by decide +kernel
theorem dX10_findCan_77 : decode cX10_findCan 77 = .ok (.invokevirtual 225, 3) := by decide +kernel
theorem dX10_findCan_80 : decode cX10_findCan 80 = .ok (.imul, 1) := by decide +kernel
theorem dX10_findCan_81 : decode cX10_findCan 81 = .ok (.if_icmp .ge 43, 3) := by decide +kernel
theorem dX10_findCan_84 : decode cX10_findCan 84 = .ok (.aload_n 0, 1) := by decide +kernel
theorem dX10_findCan_85 : decode cX10_findCan 85 = .ok (.iload_n 2, 1) := by decide +kernel
theorem dX10_findCan_86 : decode cX10_findCan 86 = .ok (.iconst 5, 1) := by decide +kernel
theorem dX10_findCan_87 : decode cX10_findCan 87 = .ok (.idiv, 1) := by decide +kernel
theorem dX10_findCan_88 : decode cX10_findCan 88 = .ok (.iload_n 2, 1) := by decide +kernel
theorem dX10_findCan_89 : decode cX10_findCan 89 = .ok (.iconst 5, 1) := by decide +kernel
theorem dX10_findCan_90 : decode cX10_findCan 90 = .ok (.irem, 1) := by decide +kernel
theorem dX10_findCan_91 : decode cX10_findCan 91 = .ok (.invokevirtual 242, 3) := by decide +kernel
theorem dX10_findCan_94 : decode cX10_findCan 94 = .ok (.istore_n 3, 1) := by decide +kernel
theorem dX10_findCan_95 : decode cX10_findCan 95 = .ok (.aload_n 0, 1) := by decide +kernel
theorem dX10_findCan_96 : decode cX10_findCan 96 = .ok (.getfield 79, 3) := by decide +kernel
theorem dX10_findCan_99 : decode cX10_findCan 99 = .ok (.iload_n 2, 1) := by decide +kernel
theorem dX10_findCan_100 : decode cX10_findCan 100 = .ok (.iconst 5, 1) := by decide +kernel
theorem dX10_findCan_101 : decode cX10_findCan 101 = .ok (.idiv, 1) := by decide +kernel
theorem dX10_findCan_102 : decode cX10_findCan 102 = .ok (.baload, 1) := by decide +kernel
theorem dX10_findCan_103 : decode cX10_findCan 103 = .ok (.ifCond .eq 15, 3) := by decide +kernel
theorem dX10_findCan_106 : decode cX10_findCan 106 = .ok (.iload_n 3, 1) := by decide +kernel
theorem dX10_findCan_107 : decode cX10_findCan 107 = .ok (.iconst (-1), 1) := by decide +kernel
theorem dX10_findCan_108 : decode cX10_findCan 108 = .ok (.if_icmp .eq 10, 3) := by decide +kernel
theorem dX10_findCan_111 : decode cX10_findCan 111 = .ok (.aload_n 0, 1) := by decide +kernel
theorem dX10_findCan_112 : decode cX10_findCan 112 = .ok (.getfield 82, 3) := by decide +kernel
theorem dX10_findCan_115 : decode cX10_findCan 115 = .ok (.iload_n 3, 1) := by decide +kernel
theorem dX10_findCan_116 : decode cX10_findCan 116 = .ok (.iconst 1, 1) := by decide +kernel
theorem dX10_findCan_117 : decode cX10_findCan 117 = .ok (.bastore, 1) := by decide +kernel
theorem dX10_findCan_118 : decode cX10_findCan 118 = .ok (.iinc 2 1, 3) := by decide +kernel
theorem dX10_findCan_121 : decode cX10_findCan 121 = .ok (.goto (-47), 3) := by decide +kernel
theorem dX10_findCan_124 : decode cX10_findCan 124 = .ok (.iconst 0, 1) := by decide +kernel
theorem dX10_findCan_125 : decode cX10_findCan 125 = .ok (.istore_n 2, 1) := by decide +kernel
theorem dX10_findCan_126 : decode cX10_findCan 126 = .ok (.iload_n 2, 1) := by decide +kernel
theorem dX10_findCan_127 : decode cX10_findCan 127 = .ok (.bipush 40, 2) := by decide +kernel
theorem dX10_findCan_129 : decode cX10_findCan 129 = .ok (.if_icmp .ge 21, 3) := by decide +kernel
theorem dX10_findCan_132 : decode cX10_findCan 132 = .ok (.aload_n 0, 1) := by decide +kernel
theorem dX10_findCan_133 : decode cX10_findCan 133 = .ok (.getfield 79, 3) := by decide +kernel
theorem dX10_findCan_136 : decode cX10_findCan 136 = .ok (.iload_n 2, 1) := by decide +kernel
theorem dX10_findCan_137 : decode cX10_findCan 137 = .ok (.aload_n 0, 1) := by decide +kernel
theorem dX10_findCan_138 : decode cX10_findCan 138 = .ok (.getfield 82, 3) := by decide +kernel
theorem dX10_findCan_141 : decode cX10_findCan 141 = .ok (.iload_n 2, 1) := by decide +kernel
theorem dX10_findCan_142 : decode cX10_findCan 142 = .ok (.baload, 1) := by decide +kernel
theorem dX10_findCan_143 : decode cX10_findCan 143 = .ok (.bastore, 1) := by decide +kernel
theorem dX10_findCan_144 : decode cX10_findCan 144 = .ok (.iinc 2 1, 3) := by decide +kernel
theorem dX10_findCan_147 : decode cX10_findCan 147 = .ok (.goto (-21), 3) := by decide +kernel
theorem dX10_findCan_150 : decode cX10_findCan 150 = .ok (.aload_n 0, 1) := by decide +kernel
theorem dX10_findCan_151 : decode cX10_findCan 151 = .ok (.iload_n 1, 1) := by decide +kernel
theorem dX10_findCan_152 : decode cX10_findCan 152 = .ok (.invokevirtual 320, 3) := by decide +kernel
theorem dX10_findCan_155 : decode cX10_findCan 155 = .ok (.iinc 1 1, 3) := by decide +kernel
theorem dX10_findCan_158 : decode cX10_findCan 158 = .ok (.goto (-115), 3) := by decide +kernel
theorem dX10_findCan_161 : decode cX10_findCan 161 = .ok (.return_, 1) := by decide +kernel
theorem dX10_lay_0 : decode cX10_lay 0 = .ok (.iload_n 1, 1) := by decide +kernel
theorem dX10_lay_1 : decode cX10_lay 1 = .ok (.i2l, 1) := by decide +kernel
theorem dX10_lay_2 : decode cX10_lay 2 = .ok (.ldc2_w 318, 3) := by decide +kernel
theorem dX10_lay_5 : decode cX10_lay 5 = .ok (.ldc2_w 323, 3) := by decide +kernel
theorem dX10_lay_8 : decode cX10_lay 8 = .ok (.invokestatic 91, 3) := by decide +kernel
theorem dX10_lay_11 : decode cX10_lay 11 = .ok (.ifCond .ne 6, 3) := by decide +kernel
theorem dX10_lay_14 : decode cX10_lay 14 = .ok (.ldc 97, 2) := by decide +kernel
theorem dX10_lay_16 : decode cX10_lay 16 = .ok (.ireturn, 1) := by decide +kernel
theorem dX10_lay_17 : decode cX10_lay 17 = .ok (.aload_n 0, 1) := by decide +kernel
theorem dX10_lay_18 : decode cX10_lay 18 = .ok (.invokevirtual 325, 3) := by decide +kernel
theorem dX10_lay_21 : decode cX10_lay 21 = .ok (.iconst 0, 1) := by decide +kernel
theorem dX10_lay_22 : decode cX10_lay 22 = .ok (.istore_n 3, 1) := by decide +kernel
theorem dX10_lay_23 : decode cX10_lay 23 = .ok (.iconst (-1), 1) := by decide +kernel
theorem dX10_lay_24 : decode cX10_lay 24 = .ok (.istore 4, 2) := by decide +kernel
theorem dX10_lay_26 : decode cX10_lay 26 = .ok (.iconst 0, 1) := by decide +kernel
theorem dX10_lay_27 : decode cX10_lay 27 = .ok (.istore 5, 2) := by decide +kernel
theorem dX10_lay_29 : decode cX10_lay 29 = .ok (.iload 5, 2) := by decide +kernel
theorem dX10_lay_31 : decode cX10_lay 31 = .ok (.aload_n 0, 1) := by decide +kernel
theorem dX10_lay_32 : decode cX10_lay 32 = .ok (.invokevirtual 225, 3) := by decide +kernel
theorem dX10_lay_35 : decode cX10_lay 35 = .ok (.if_icmp .ge 56, 3) := by decide +kernel
theorem dX10_lay_38 : decode cX10_lay 38 = .ok (.aload_n 0, 1) := by decide +kernel
theorem dX10_lay_39 : decode cX10_lay 39 = .ok (.getfield 79, 3) := by decide +kernel
theorem dX10_lay_42 : decode cX10_lay 42 = .ok (.iload 5, 2) := by decide +kernel
theorem dX10_lay_44 : decode cX10_lay 44 = .ok (.baload, 1) := by decide +kernel
theorem dX10_lay_45 : decode cX10_lay 45 = .ok (.ifCond .eq 40, 3) := by decide +kernel
theorem dX10_lay_48 : decode cX10_lay 48 = .ok (.iload_n 1, 1) := by decide +kernel
theorem dX10_lay_49 : decode cX10_lay 49 = .ok (.iconst (-1), 1) := by decide +kernel
theorem dX10_lay_50 : decode cX10_lay 50 = .ok (.if_icmp .eq 14, 3) := by decide +kernel
theorem dX10_lay_53 : decode cX10_lay 53 = .ok (.aload_n 0, 1) := by decide +kernel
theorem dX10_lay_54 : decode cX10_lay 54 = .ok (.iconst 0, 1) := by decide +kernel
theorem dX10_lay_55 : decode cX10_lay 55 = .ok (.iload 5, 2) := by decide +kernel
theorem dX10_lay_57 : decode cX10_lay 57 = .ok (.invokevirtual 256, 3) := by decide +kernel
theorem dX10_lay_60 : decode cX10_lay 60 = .ok (.iload_n 1, 1) := by decide +kernel
theorem dX10_lay_61 : decode cX10_lay 61 = .ok (.if_icmp .ne 24, 3) := by decide +kernel
theorem dX10_lay_64 : decode cX10_lay 64 = .ok (.iload_n 3, 1) := by decide +kernel
theorem dX10_lay_65 : decode cX10_lay 65 = .ok (.iload_n 2, 1) := by decide +kernel
theorem dX10_lay_66 : decode cX10_lay 66 = .ok (.if_icmp .ne 12, 3) := by decide +kernel
theorem dX10_lay_69 : decode cX10_lay 69 = .ok (.aload_n 0, 1) := by decide +kernel
theorem dX10_lay_70 : decode cX10_lay 70 = .ok (.iload 5, 2) := by decide +kernel
theorem dX10_lay_72 : decode cX10_lay 72 = .ok (.invokevirtual 235, 3) := by decide +kernel
theorem dX10_lay_75 : decode cX10_lay 75 = .ok (.goto 5, 3) := by decide +kernel
theorem dX10_lay_78 : decode cX10_lay 78 = .ok (.iload 4, 2) := by decide +kernel
theorem dX10_lay_80 : decode cX10_lay 80 = .ok (.istore 4, 2) := by decide +kernel
theorem dX10_lay_82 : decode cX10_lay 82 = .ok (.iinc 3 1, 3) := by decide +kernel
theorem dX10_lay_85 : decode cX10_lay 85 = .ok (.iinc 5 1, 3) := by decide +kernel
theorem dX10_lay_88 : decode cX10_lay 88 = .ok (.goto (-59), 3) := by decide +kernel
theorem dX10_lay_91 : decode cX10_lay 91 = .ok (.iload_n 2, 1) := by decide +kernel
theorem dX10_lay_92 : decode cX10_lay 92 = .ok (.iconst (-1), 1) := by decide +kernel
theorem dX10_lay_93 : decode cX10_lay 93 = .ok (.if_icmp .ne 7, 3) := by decide +kernel
theorem dX10_lay_96 : decode cX10_lay 96 = .ok (.iload_n 3, 1) := by decide +kernel
theorem dX10_lay_97 : decode cX10_lay 97 = .ok (.goto 5, 3) := by decide +kernel
theorem dX10_lay_100 : decode cX10_lay 100 = .ok (.iload 4, 2) := by decide +kernel
theorem dX10_lay_102 : decode cX10_lay 102 = .ok (.ireturn, 1) := by decide +kernel
theorem dX10_write_0 : decode cX10_write 0 = .ok (.aload_n 0, 1) := by decide +kernel
theorem dX10_write_1 : decode cX10_write 1 = .ok (.iload_n 1, 1) := by decide +kernel
theorem dX10_write_2 : decode cX10_write 2 = .ok (.iload_n 2, 1) := by decide +kernel
theorem dX10_write_3 : decode cX10_write 3 = .ok (.invokevirtual 239, 3) := by decide +kernel
theorem dX10_write_6 : decode cX10_write 6 = .ok (.ifCond .ne 6, 3) := by decide +kernel
theorem dX10_write_9 : decode cX10_write 9 = .ok (.ldc 252, 2) := by decide +kernel
theorem dX10_write_11 : decode cX10_write 11 = .ok (.ireturn, 1) := by decide +kernel
theorem dX10_write_12 : decode cX10_write 12 = .ok (.iload_n 3, 1) := by decide +kernel
theorem dX10_write_13 : decode cX10_write 13 = .ok (.i2l, 1) := by decide +kernel
theorem dX10_write_14 : decode cX10_write 14 = .ok (.lconst 0, 1) := by decide +kernel
theorem dX10_write_15 : decode cX10_write 15 = .ok (.ldc2_w 323, 3) := by decide +kernel
theorem dX10_write_18 : decode cX10_write 18 = .ok (.invokestatic 91, 3) := by decide +kernel
theorem dX10_write_21 : decode cX10_write 21 = .ok (.ifCond .ne 6, 3) := by decide +kernel
theorem dX10_write_24 : decode cX10_write 24 = .ok (.ldc 97, 2) := by decide +kernel
theorem dX10_write_26 : decode cX10_write 26 = .ok (.ireturn, 1) := by decide +kernel
theorem dX10_write_27 : decode cX10_write 27 = .ok (.aload_n 0, 1) := by decide +kernel
theorem dX10_write_28 : decode cX10_write 28 = .ok (.getfield 232, 3) := by decide +kernel
theorem dX10_write_31 : decode cX10_write 31 = .ok (.bipush 30, 2) := by decide +kernel
theorem dX10_write_33 : decode cX10_write 33 = .ok (.if_icmp .ne 6, 3) := by decide +kernel
theorem dX10_write_36 : decode cX10_write 36 = .ok (.ldc 101, 2) := by decide +kernel
theorem dX10_write_38 : decode cX10_write 38 = .ok (.ireturn, 1) := by decide +kernel
theorem dX10_write_39 : decode cX10_write 39 = .ok (.aload_n 0, 1) := by decide +kernel
theorem dX10_write_40 : decode cX10_write 40 = .ok (.getfield 39, 3) := by decide +kernel
theorem dX10_write_43 : decode cX10_write 43 = .ok (.aload_n 0, 1) := by decide +kernel
theorem dX10_write_44 : decode cX10_write 44 = .ok (.getfield 232, 3) := by decide +kernel
theorem dX10_write_47 : decode cX10_write 47 = .ok (.aload_n 0, 1) := by decide +kernel
theorem dX10_write_48 : decode cX10_write 48 = .ok (.getfield 85, 3) := by decide +kernel
theorem dX10_write_51 : decode cX10_write 51 = .ok (.iload_n 2, 1) := by decide +kernel
theorem dX10_write_52 : decode cX10_write 52 = .ok (.imul, 1) := by decide +kernel
theorem dX10_write_53 : decode cX10_write 53 = .ok (.iload_n 1, 1) := by decide +kernel
theorem dX10_write_54 : decode cX10_write 54 = .ok (.iadd, 1) := by decide +kernel
theorem dX10_write_55 : decode cX10_write 55 = .ok (.iastore, 1) := by decide +kernel
theorem dX10_write_56 : decode cX10_write 56 = .ok (.aload_n 0, 1) := by decide +kernel
theorem dX10_write_57 : decode cX10_write 57 = .ok (.getfield 42, 3) := by decide +kernel
theorem dX10_write_60 : decode cX10_write 60 = .ok (.aload_n 0, 1) := by decide +kernel
theorem dX10_write_61 : decode cX10_write 61 = .ok (.getfield 232, 3) := by decide +kernel
theorem dX10_write_64 : decode cX10_write 64 = .ok (.iload_n 3, 1) := by decide +kernel
theorem dX10_write_65 : decode cX10_write 65 = .ok (.iastore, 1) := by decide +kernel
theorem dX10_write_66 : decode cX10_write 66 = .ok (.aload_n 0, 1) := by decide +kernel
theorem dX10_write_67 : decode cX10_write 67 = .ok (.dup, 1) := by decide +kernel
theorem dX10_write_68 : decode cX10_write 68 = .ok (.getfield 232, 3) := by decide +kernel
theorem dX10_write_71 : decode cX10_write 71 = .ok (.iconst 1, 1) := by decide +kernel
theorem dX10_write_72 : decode cX10_write 72 = .ok (.iadd, 1) := by decide +kernel
theorem dX10_write_73 : decode cX10_write 73 = .ok (.putfield 232, 3) := by decide +kernel
theorem dX10_write_76 : decode cX10_write 76 = .ok (.aload_n 0, 1) := by decide +kernel
theorem dX10_write_77 : decode cX10_write 77 = .ok (.getfield 232, 3) := by decide +kernel
theorem dX10_write_80 : decode cX10_write 80 = .ok (.ireturn, 1) := by decide +kernel
theorem dX10_tear_0 : decode cX10_tear 0 = .ok (.aload_n 0, 1) := by decide +kernel
theorem dX10_tear_1 : decode cX10_tear 1 = .ok (.getfield 232, 3) := by decide +kernel
theorem dX10_tear_4 : decode cX10_tear 4 = .ok (.aload_n 0, 1) := by decide +kernel
theorem dX10_tear_5 : decode cX10_tear 5 = .ok (.getfield 229, 3) := by decide +kernel
theorem dX10_tear_8 : decode cX10_tear 8 = .ok (.iadd, 1) := by decide +kernel
theorem dX10_tear_9 : decode cX10_tear 9 = .ok (.istore_n 1, 1) := by decide +kernel
theorem dX10_tear_10 : decode cX10_tear 10 = .ok (.aload_n 0, 1) := by decide +kernel
theorem dX10_tear_11 : decode cX10_tear 11 = .ok (.iconst 0, 1) := by decide +kernel
theorem dX10_tear_12 : decode cX10_tear 12 = .ok (.putfield 232, 3) := by decide +kernel
theorem dX10_tear_15 : decode cX10_tear 15 = .ok (.aload_n 0, 1) := by decide +kernel
theorem dX10_tear_16 : decode cX10_tear 16 = .ok (.iconst 0, 1) := by decide +kernel
theorem dX10_tear_17 : decode cX10_tear 17 = .ok (.putfield 229, 3) := by decide +kernel
theorem dX10_tear_20 : decode cX10_tear 20 = .ok (.iload_n 1, 1) := by decide +kernel
theorem dX10_tear_21 : decode cX10_tear 21 = .ok (.ireturn, 1) := by decide +kernel
theorem dX10_judge_0 : decode cX10_judge 0 = .ok (.iconst 0, 1) := by decide +kernel
theorem dX10_judge_1 : decode cX10_judge 1 = .ok (.istore_n 1, 1) := by decide +kernel
theorem dX10_judge_2 : decode cX10_judge 2 = .ok (.iload_n 1, 1) := by decide +kernel
theorem dX10_judge_3 : decode cX10_judge 3 = .ok (.aload_n 0, 1) := by decide +kernel
theorem dX10_judge_4 : decode cX10_judge 4 = .ok (.getfield 232, 3) := by decide +kernel
theorem dX10_judge_7 : decode cX10_judge 7 = .ok (.if_icmp .ge 31, 3) := by decide +kernel
theorem dX10_judge_10 : decode cX10_judge 10 = .ok (.aload_n 0, 1) := by decide +kernel
theorem dX10_judge_11 : decode cX10_judge 11 = .ok (.iconst 0, 1) := by decide +kernel
theorem dX10_judge_12 : decode cX10_judge 12 = .ok (.aload_n 0, 1) := by decide +kernel
theorem dX10_judge_13 : decode cX10_judge 13 = .ok (.getfield 39, 3) := by decide +kernel
theorem dX10_judge_16 : decode cX10_judge 16 = .ok (.iload_n 1, 1) := by decide +kernel
theorem dX10_judge_17 : decode cX10_judge 17 = .ok (.iaload, 1) := by decide +kernel
theorem dX10_judge_18 : decode cX10_judge 18 = .ok (.invokevirtual 256, 3) := by decide +kernel
theorem dX10_judge_21 : decode cX10_judge 21 = .ok (.aload_n 0, 1) := by decide +kernel
theorem dX10_judge_22 : decode cX10_judge 22 = .ok (.getfield 42, 3) := by decide +kernel
theorem dX10_judge_25 : decode cX10_judge 25 = .ok (.iload_n 1, 1) := by decide +kernel
theorem dX10_judge_26 : decode cX10_judge 26 = .ok (.iaload, 1) := by decide +kernel
theorem dX10_judge_27 : decode cX10_judge 27 = .ok (.if_icmp .eq 5, 3) := by decide +kernel
theorem dX10_judge_30 : decode cX10_judge 30 = .ok (.iload_n 1, 1) := by decide +kernel
theorem dX10_judge_31 : decode cX10_judge 31 = .ok (.ireturn, 1) := by decide +kernel
theorem dX10_judge_32 : decode cX10_judge 32 = .ok (.iinc 1 1, 3) := by decide +kernel
theorem dX10_judge_35 : decode cX10_judge 35 = .ok (.goto (-33), 3) := by decide +kernel
theorem dX10_judge_38 : decode cX10_judge 38 = .ok (.iconst (-1), 1) := by decide +kernel
theorem dX10_judge_39 : decode cX10_judge 39 = .ok (.ireturn, 1) := by decide +kernel
theorem dX10_seed_0 : decode cX10_seed 0 = .ok (.iload_n 1, 1) := by decide +kernel
theorem dX10_seed_1 : decode cX10_seed 1 = .ok (.ifCond .ge 6, 3) := by decide +kernel
theorem dX10_seed_4 : decode cX10_seed 4 = .ok (.ldc 97, 2) := by decide +kernel
theorem dX10_seed_6 : decode cX10_seed 6 = .ok (.ireturn, 1) := by decide +kernel
theorem dX10_seed_7 : decode cX10_seed 7 = .ok (.aload_n 0, 1) := by decide +kernel
theorem dX10_seed_8 : decode cX10_seed 8 = .ok (.getfield 7, 3) := by decide +kernel
theorem dX10_seed_11 : decode cX10_seed 11 = .ok (.bipush 87, 2) := by decide +kernel
theorem dX10_seed_13 : decode cX10_seed 13 = .ok (.iaload, 1) := by decide +kernel
theorem dX10_seed_14 : decode cX10_seed 14 = .ok (.istore_n 2, 1) := by decide +kernel
theorem dX10_seed_15 : decode cX10_seed 15 = .ok (.aload_n 0, 1) := by decide +kernel
theorem dX10_seed_16 : decode cX10_seed 16 = .ok (.getfield 7, 3) := by decide +kernel
theorem dX10_seed_19 : decode cX10_seed 19 = .ok (.bipush 87, 2) := by decide +kernel
theorem dX10_seed_21 : decode cX10_seed 21 = .ok (.iload_n 1, 1) := by decide +kernel
theorem dX10_seed_22 : decode cX10_seed 22 = .ok (.iastore, 1) := by decide +kernel
theorem dX10_seed_23 : decode cX10_seed 23 = .ok (.iload_n 2, 1) := by decide +kernel
theorem dX10_seed_24 : decode cX10_seed 24 = .ok (.ireturn, 1) := by decide +kernel
theorem dX10_keep_0 : decode cX10_keep 0 = .ok (.iload_n 1, 1) := by decide +kernel
theorem dX10_keep_1 : decode cX10_keep 1 = .ok (.i2l, 1) := by decide +kernel
theorem dX10_keep_2 : decode cX10_keep 2 = .ok (.lconst 0, 1) := by decide +kernel
theorem dX10_keep_3 : decode cX10_keep 3 = .ok (.lconst 1, 1) := by decide +kernel
theorem dX10_keep_4 : decode cX10_keep 4 = .ok (.invokestatic 91, 3) := by decide +kernel
theorem dX10_keep_7 : decode cX10_keep 7 = .ok (.ifCond .ne 6, 3) := by decide +kernel
theorem dX10_keep_10 : decode cX10_keep 10 = .ok (.ldc 252, 2) := by decide +kernel
theorem dX10_keep_12 : decode cX10_keep 12 = .ok (.ireturn, 1) := by decide +kernel
theorem dX10_keep_13 : decode cX10_keep 13 = .ok (.iconst 0, 1) := by decide +kernel
theorem dX10_keep_14 : decode cX10_keep 14 = .ok (.istore_n 2, 1) := by decide +kernel
theorem dX10_keep_15 : decode cX10_keep 15 = .ok (.iload_n 2, 1) := by decide +kernel
theorem dX10_keep_16 : decode cX10_keep 16 = .ok (.bipush 88, 2) := by decide +kernel
theorem dX10_keep_18 : decode cX10_keep 18 = .ok (.if_icmp .ge 26, 3) := by decide +kernel
theorem dX10_keep_21 : decode cX10_keep 21 = .ok (.aload_n 0, 1) := by decide +kernel
theorem dX10_keep_22 : decode cX10_keep 22 = .ok (.getfield 13, 3) := by decide +kernel
theorem dX10_keep_25 : decode cX10_keep 25 = .ok (.bipush 88, 2) := by decide +kernel
theorem dX10_keep_27 : decode cX10_keep 27 = .ok (.iload_n 1, 1) := by decide +kernel
theorem dX10_keep_28 : decode cX10_keep 28 = .ok (.imul, 1) := by decide +kernel
theorem dX10_keep_29 : decode cX10_keep 29 = .ok (.iload_n 2, 1) := by decide +kernel
theorem dX10_keep_30 : decode cX10_keep 30 = .ok (.iadd, 1) := by decide +kernel
theorem dX10_keep_31 : decode cX10_keep 31 = .ok (.aload_n 0, 1) := by decide +kernel
theorem dX10_keep_32 : decode cX10_keep 32 = .ok (.getfield 7, 3) := by decide +kernel
theorem dX10_keep_35 : decode cX10_keep 35 = .ok (.iload_n 2, 1) := by decide +kernel
theorem dX10_keep_36 : decode cX10_keep 36 = .ok (.iaload, 1) := by decide +kernel
theorem dX10_keep_37 : decode cX10_keep 37 = .ok (.iastore, 1) := by decide +kernel
theorem dX10_keep_38 : decode cX10_keep 38 = .ok (.iinc 2 1, 3) := by decide +kernel
theorem dX10_keep_41 : decode cX10_keep 41 = .ok (.goto (-26), 3) := by decide +kernel
theorem dX10_keep_44 : decode cX10_keep 44 = .ok (.aload_n 0, 1) := by decide +kernel
theorem dX10_keep_45 : decode cX10_keep 45 = .ok (.getfield 16, 3) := by decide +kernel
theorem dX10_keep_48 : decode cX10_keep 48 = .ok (.iload_n 1, 1) := by decide +kernel
theorem dX10_keep_49 : decode cX10_keep 49 = .ok (.iconst 1, 1) := by decide +kernel
theorem dX10_keep_50 : decode cX10_keep 50 = .ok (.bastore, 1) := by decide +kernel
theorem dX10_keep_51 : decode cX10_keep 51 = .ok (.iconst 1, 1) := by decide +kernel
theorem dX10_keep_52 : decode cX10_keep 52 = .ok (.ireturn, 1) := by decide +kernel
theorem dX10_goBack_0 : decode cX10_goBack 0 = .ok (.iload_n 1, 1) := by decide +kernel
theorem dX10_goBack_1 : decode cX10_goBack 1 = .ok (.i2l, 1) := by decide +kernel
theorem dX10_goBack_2 : decode cX10_goBack 2 = .ok (.lconst 0, 1) := by decide +kernel
theorem dX10_goBack_3 : decode cX10_goBack 3 = .ok (.lconst 1, 1) := by decide +kernel
theorem dX10_goBack_4 : decode cX10_goBack 4 = .ok (.invokestatic 91, 3) := by decide +kernel
theorem dX10_goBack_7 : decode cX10_goBack 7 = .ok (.ifCond .ne 6, 3) := by decide +kernel
theorem dX10_goBack_10 : decode cX10_goBack 10 = .ok (.ldc 252, 2) := by decide +kernel
theorem dX10_goBack_12 : decode cX10_goBack 12 = .ok (.ireturn, 1) := by decide +kernel
theorem dX10_goBack_13 : decode cX10_goBack 13 = .ok (.aload_n 0, 1) := by decide +kernel
theorem dX10_goBack_14 : decode cX10_goBack 14 = .ok (.getfield 16, 3) := by decide +kernel
theorem dX10_goBack_17 : decode cX10_goBack 17 = .ok (.iload_n 1, 1) := by decide +kernel
theorem dX10_goBack_18 : decode cX10_goBack 18 = .ok (.baload, 1) := by decide +kernel
theorem dX10_goBack_19 : decode cX10_goBack 19 = .ok (.ifCond .ne 7, 3) := by decide +kernel
theorem dX10_goBack_22 : decode cX10_goBack 22 = .ok (.ldc_w 274, 3) := by decide +kernel
theorem dX10_goBack_25 : decode cX10_goBack 25 = .ok (.ireturn, 1) := by decide +kernel
theorem dX10_goBack_26 : decode cX10_goBack 26 = .ok (.iconst 0, 1) := by decide +kernel
theorem dX10_goBack_27 : decode cX10_goBack 27 = .ok (.istore_n 2, 1) := by decide +kernel
theorem dX10_goBack_28 : decode cX10_goBack 28 = .ok (.iload_n 2, 1) := by decide +kernel
theorem dX10_goBack_29 : decode cX10_goBack 29 = .ok (.bipush 88, 2) := by decide +kernel
theorem dX10_goBack_31 : decode cX10_goBack 31 = .ok (.if_icmp .ge 26, 3) := by decide +kernel
theorem dX10_goBack_34 : decode cX10_goBack 34 = .ok (.aload_n 0, 1) := by decide +kernel
theorem dX10_goBack_35 : decode cX10_goBack 35 = .ok (.getfield 7, 3) := by decide +kernel
theorem dX10_goBack_38 : decode cX10_goBack 38 = .ok (.iload_n 2, 1) := by decide +kernel
theorem dX10_goBack_39 : decode cX10_goBack 39 = .ok (.aload_n 0, 1) := by decide +kernel
theorem dX10_goBack_40 : decode cX10_goBack 40 = .ok (.getfield 13, 3) := by decide +kernel
theorem dX10_goBack_43 : decode cX10_goBack 43 = .ok (.bipush 88, 2) := by decide +kernel
theorem dX10_goBack_45 : decode cX10_goBack 45 = .ok (.iload_n 1, 1) := by decide +kernel
theorem dX10_goBack_46 : decode cX10_goBack 46 = .ok (.imul, 1) := by decide +kernel
theorem dX10_goBack_47 : decode cX10_goBack 47 = .ok (.iload_n 2, 1) := by decide +kernel
theorem dX10_goBack_48 : decode cX10_goBack 48 = .ok (.iadd, 1) := by decide +kernel
theorem dX10_goBack_49 : decode cX10_goBack 49 = .ok (.iaload, 1) := by decide +kernel
theorem dX10_goBack_50 : decode cX10_goBack 50 = .ok (.iastore, 1) := by decide +kernel
theorem dX10_goBack_51 : decode cX10_goBack 51 = .ok (.iinc 2 1, 3) := by decide +kernel
theorem dX10_goBack_54 : decode cX10_goBack 54 = .ok (.goto (-26), 3) := by decide +kernel
theorem dX10_goBack_57 : decode cX10_goBack 57 = .ok (.iconst 1, 1) := by decide +kernel
theorem dX10_goBack_58 : decode cX10_goBack 58 = .ok (.ireturn, 1) := by decide +kernel
