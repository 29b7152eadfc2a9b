theorem dX6_spoken_186 : decode cX6_spoken 186 = .ok (.aload_n 0, 1) := by decide +kernel
theorem dX6_spoken_187 : decode cX6_spoken 187 = .ok (.iconst 0, 1) := by decide +kernel
theorem dX6_spoken_188 : decode cX6_spoken 188 = .ok (.iconst 2, 1) := by decide +kernel
theorem dX6_spoken_189 : decode cX6_spoken 189 = .ok (.iload_n 3, 1) := by decide +kernel
theorem dX6_spoken_190 : decode cX6_spoken 190 = .ok (.invokevirtual 31, 3) := by decide +kernel
theorem dX6_spoken_193 : decode cX6_spoken 193 = .ok (.isub, 1) := by decide +kernel
theorem dX6_spoken_194 : decode cX6_spoken 194 = .ok (.ireturn, 1) := by decide +kernel
theorem dX6_spoken_195 : decode cX6_spoken 195 = .ok (.aload_n 0, 1) := by decide +kernel
theorem dX6_spoken_196 : decode cX6_spoken 196 = .ok (.iconst 5, 1) := by decide +kernel
theorem dX6_spoken_197 : decode cX6_spoken 197 = .ok (.iconst 1, 1) := by decide +kernel
theorem dX6_spoken_198 : decode cX6_spoken 198 = .ok (.iload_n 2, 1) := by decide +kernel
theorem dX6_spoken_199 : decode cX6_spoken 199 = .ok (.iconst 1, 1) := by decide +kernel
theorem dX6_spoken_200 : decode cX6_spoken 200 = .ok (.iadd, 1) := by decide +kernel
theorem dX6_spoken_201 : decode cX6_spoken 201 = .ok (.iload_n 3, 1) := by decide +kernel
theorem dX6_spoken_202 : decode cX6_spoken 202 = .ok (.invokevirtual 55, 3) := by decide +kernel
theorem dX6_spoken_205 : decode cX6_spoken 205 = .ok (.ireturn, 1) := by decide +kernel
theorem dX6_spoken_206 : decode cX6_spoken 206 = .ok (.aload_n 0, 1) := by decide +kernel
theorem dX6_spoken_207 : decode cX6_spoken 207 = .ok (.bipush 6, 2) := by decide +kernel
theorem dX6_spoken_209 : decode cX6_spoken 209 = .ok (.iconst 2, 1) := by decide +kernel
theorem dX6_spoken_210 : decode cX6_spoken 210 = .ok (.iload_n 2, 1) := by decide +kernel
theorem dX6_spoken_211 : decode cX6_spoken 211 = .ok (.iload_n 3, 1) := by decide +kernel
theorem dX6_spoken_212 : decode cX6_spoken 212 = .ok (.invokevirtual 55, 3) := by decide +kernel
theorem dX6_spoken_215 : decode cX6_spoken 215 = .ok (.aload_n 0, 1) := by decide +kernel
theorem dX6_spoken_216 : decode cX6_spoken 216 = .ok (.getfield 18, 3) := by decide +kernel
theorem dX6_spoken_219 : decode cX6_spoken 219 = .ok (.ixor, 1) := by decide +kernel
theorem dX6_spoken_220 : decode cX6_spoken 220 = .ok (.ireturn, 1) := by decide +kernel
theorem dX6_spoken_221 : decode cX6_spoken 221 = .ok (.aload_n 0, 1) := by decide +kernel
theorem dX6_spoken_222 : decode cX6_spoken 222 = .ok (.iconst 1, 1) := by decide +kernel
theorem dX6_spoken_223 : decode cX6_spoken 223 = .ok (.iload_n 2, 1) := by decide +kernel
theorem dX6_spoken_224 : decode cX6_spoken 224 = .ok (.iload_n 3, 1) := by decide +kernel
theorem dX6_spoken_225 : decode cX6_spoken 225 = .ok (.invokevirtual 31, 3) := by decide +kernel
theorem dX6_spoken_228 : decode cX6_spoken 228 = .ok (.aload_n 0, 1) := by decide +kernel
theorem dX6_spoken_229 : decode cX6_spoken 229 = .ok (.bipush 6, 2) := by decide +kernel
theorem dX6_spoken_231 : decode cX6_spoken 231 = .ok (.iconst 3, 1) := by decide +kernel
theorem dX6_spoken_232 : decode cX6_spoken 232 = .ok (.iload_n 2, 1) := by decide +kernel
theorem dX6_spoken_233 : decode cX6_spoken 233 = .ok (.iload_n 3, 1) := by decide +kernel
theorem dX6_spoken_234 : decode cX6_spoken 234 = .ok (.invokevirtual 55, 3) := by decide +kernel
theorem dX6_spoken_237 : decode cX6_spoken 237 = .ok (.isub, 1) := by decide +kernel
theorem dX6_spoken_238 : decode cX6_spoken 238 = .ok (.ireturn, 1) := by decide +kernel
theorem dX6_spoken_239 : decode cX6_spoken 239 = .ok (.iconst 0, 1) := by decide +kernel
theorem dX6_spoken_240 : decode cX6_spoken 240 = .ok (.ireturn, 1) := by decide +kernel
theorem dX7_init_0 : decode cX7_init 0 = .ok (.aload_n 0, 1) := by decide +kernel
theorem dX7_init_1 : decode cX7_init 1 = .ok (.invokespecial 1, 3) := by decide +kernel
theorem dX7_init_4 : decode cX7_init 4 = .ok (.aload_n 0, 1) := by decide +kernel
theorem dX7_init_5 : decode cX7_init 5 = .ok (.new 7, 3) := by decide +kernel
theorem dX7_init_8 : decode cX7_init 8 = .ok (.dup, 1) := by decide +kernel
theorem dX7_init_9 : decode cX7_init 9 = .ok (.invokespecial 9, 3) := by decide +kernel
theorem dX7_init_12 : decode cX7_init 12 = .ok (.putfield 10, 3) := by decide +kernel
theorem dX7_init_15 : decode cX7_init 15 = .ok (.aload_n 0, 1) := by decide +kernel
theorem dX7_init_16 : decode cX7_init 16 = .ok (.new 16, 3) := by decide +kernel
theorem dX7_init_19 : decode cX7_init 19 = .ok (.dup, 1) := by decide +kernel
theorem dX7_init_20 : decode cX7_init 20 = .ok (.bipush 50, 2) := by decide +kernel
theorem dX7_init_22 : decode cX7_init 22 = .ok (.invokespecial 18, 3) := by decide +kernel
theorem dX7_init_25 : decode cX7_init 25 = .ok (.putfield 21, 3) := by decide +kernel
theorem dX7_init_28 : decode cX7_init 28 = .ok (.aload_n 0, 1) := by decide +kernel
theorem dX7_init_29 : decode cX7_init 29 = .ok (.new 16, 3) := by decide +kernel
theorem dX7_init_32 : decode cX7_init 32 = .ok (.dup, 1) := by decide +kernel
theorem dX7_init_33 : decode cX7_init 33 = .ok (.bipush 20, 2) := by decide +kernel
theorem dX7_init_35 : decode cX7_init 35 = .ok (.invokespecial 18, 3) := by decide +kernel
theorem dX7_init_38 : decode cX7_init 38 = .ok (.putfield 25, 3) := by decide +kernel
theorem dX7_init_41 : decode cX7_init 41 = .ok (.aload_n 0, 1) := by decide +kernel
theorem dX7_init_42 : decode cX7_init 42 = .ok (.new 16, 3) := by decide +kernel
theorem dX7_init_45 : decode cX7_init 45 = .ok (.dup, 1) := by decide +kernel
theorem dX7_init_46 : decode cX7_init 46 = .ok (.bipush 50, 2) := by decide +kernel
theorem dX7_init_48 : decode cX7_init 48 = .ok (.invokespecial 18, 3) := by decide +kernel
theorem dX7_init_51 : decode cX7_init 51 = .ok (.putfield 28, 3) := by decide +kernel
theorem dX7_init_54 : decode cX7_init 54 = .ok (.aload_n 0, 1) := by decide +kernel
theorem dX7_init_55 : decode cX7_init 55 = .ok (.new 16, 3) := by decide +kernel
theorem dX7_init_58 : decode cX7_init 58 = .ok (.dup, 1) := by decide +kernel
theorem dX7_init_59 : decode cX7_init 59 = .ok (.bipush 50, 2) := by decide +kernel
theorem dX7_init_61 : decode cX7_init 61 = .ok (.invokespecial 18, 3) := by decide +kernel
theorem dX7_init_64 : decode cX7_init 64 = .ok (.putfield 31, 3) := by decide +kernel
theorem dX7_init_67 : decode cX7_init 67 = .ok (.aload_n 0, 1) := by decide +kernel
theorem dX7_init_68 : decode cX7_init 68 = .ok (.iconst 1, 1) := by decide +kernel
theorem dX7_init_69 : decode cX7_init 69 = .ok (.putfield 34, 3) := by decide +kernel
theorem dX7_init_72 : decode cX7_init 72 = .ok (.return_, 1) := by decide +kernel
theorem dX7_copyFrom_0 : decode cX7_copyFrom 0 = .ok (.aload_n 0, 1) := by decide +kernel
theorem dX7_copyFrom_1 : decode cX7_copyFrom 1 = .ok (.getfield 10, 3) := by decide +kernel
theorem dX7_copyFrom_4 : decode cX7_copyFrom 4 = .ok (.aload_n 1, 1) := by decide +kernel
theorem dX7_copyFrom_5 : decode cX7_copyFrom 5 = .ok (.getfield 10, 3) := by decide +kernel
theorem dX7_copyFrom_8 : decode cX7_copyFrom 8 = .ok (.invokevirtual 38, 3) := by decide +kernel
theorem dX7_copyFrom_11 : decode cX7_copyFrom 11 = .ok (.aload_n 0, 1) := by decide +kernel
theorem dX7_copyFrom_12 : decode cX7_copyFrom 12 = .ok (.getfield 21, 3) := by decide +kernel
theorem dX7_copyFrom_15 : decode cX7_copyFrom 15 = .ok (.aload_n 1, 1) := by decide +kernel
theorem dX7_copyFrom_16 : decode cX7_copyFrom 16 = .ok (.getfield 21, 3) := by decide +kernel
theorem dX7_copyFrom_19 : decode cX7_copyFrom 19 = .ok (.invokevirtual 42, 3) := by decide +kernel
theorem dX7_copyFrom_22 : decode cX7_copyFrom 22 = .ok (.aload_n 0, 1) := by decide +kernel
theorem dX7_copyFrom_23 : decode cX7_copyFrom 23 = .ok (.getfield 25, 3) := by decide +kernel
theorem dX7_copyFrom_26 : decode cX7_copyFrom 26 = .ok (.aload_n 1, 1) := by decide +kernel
theorem dX7_copyFrom_27 : decode cX7_copyFrom 27 = .ok (.getfield 25, 3) := by decide +kernel
theorem dX7_copyFrom_30 : decode cX7_copyFrom 30 = .ok (.invokevirtual 42, 3) := by decide +kernel
theorem dX7_copyFrom_33 : decode cX7_copyFrom 33 = .ok (.aload_n 0, 1) := by decide +kernel
theorem dX7_copyFrom_34 : decode cX7_copyFrom 34 = .ok (.getfield 28, 3) := by decide +kernel
theorem dX7_copyFrom_37 : decode cX7_copyFrom 37 = .ok (.aload_n 1, 1) := by decide +kernel
theorem dX7_copyFrom_38 : decode cX7_copyFrom 38 = .ok (.getfield 28, 3) := by decide +kernel
theorem dX7_copyFrom_41 : decode cX7_copyFrom 41 = .ok (.invokevirtual 42, 3) := by decide +kernel
theorem dX7_copyFrom_44 : decode cX7_copyFrom 44 = .ok (.aload_n 0, 1) := by decide +kernel
theorem dX7_copyFrom_45 : decode cX7_copyFrom 45 = .ok (.getfield 31, 3) := by decide +kernel
theorem dX7_copyFrom_48 : decode cX7_copyFrom 48 = .ok (.aload_n 1, 1) := by decide +kernel
theorem dX7_copyFrom_49 : decode cX7_copyFrom 49 = .ok (.getfield 31, 3) := by decide +kernel
theorem dX7_copyFrom_52 : decode cX7_copyFrom 52 = .ok (.invokevirtual 42, 3) := by decide +kernel
theorem dX7_copyFrom_55 : decode cX7_copyFrom 55 = .ok (.aload_n 0, 1) := by decide +kernel
theorem dX7_copyFrom_56 : decode cX7_copyFrom 56 = .ok (.aload_n 1, 1) := by decide +kernel
theorem dX7_copyFrom_57 : decode cX7_copyFrom 57 = .ok (.getfield 34, 3) := by decide +kernel
theorem dX7_copyFrom_60 : decode cX7_copyFrom 60 = .ok (.putfield 34, 3) := by decide +kernel
theorem dX7_copyFrom_63 : decode cX7_copyFrom 63 = .ok (.return_, 1) := by decide +kernel
theorem dX7_textOf_0 : decode cX7_textOf 0 = .ok (.iload_n 1, 1) := by decide +kernel
theorem dX7_textOf_1 : decode cX7_textOf 1 = .ok (.ifCond .ne 10, 3) := by decide +kernel
theorem dX7_textOf_4 : decode cX7_textOf 4 = .ok (.aload_n 0, 1) := by decide +kernel
theorem dX7_textOf_5 : decode cX7_textOf 5 = .ok (.getfield 28, 3) := by decide +kernel
theorem dX7_textOf_8 : decode cX7_textOf 8 = .ok (.goto 7, 3) := by decide +kernel
theorem dX7_textOf_11 : decode cX7_textOf 11 = .ok (.aload_n 0, 1) := by decide +kernel
theorem dX7_textOf_12 : decode cX7_textOf 12 = .ok (.getfield 31, 3) := by decide +kernel
theorem dX7_textOf_15 : decode cX7_textOf 15 = .ok (.areturn, 1) := by decide +kernel
theorem dX7_draw_0 : decode cX7_draw 0 = .ok (.aload_n 0, 1) := by decide +kernel
theorem dX7_draw_1 : decode cX7_draw 1 = .ok (.aload_n 0, 1) := by decide +kernel
theorem dX7_draw_2 : decode cX7_draw 2 = .ok (.getfield 34, 3) := by decide +kernel
theorem dX7_draw_5 : decode cX7_draw 5 = .ok (.ldc 45, 2) := by decide +kernel
theorem dX7_draw_7 : decode cX7_draw 7 = .ok (.imul, 1) := by decide +kernel
theorem dX7_draw_8 : decode cX7_draw 8 = .ok (.sipush 12345, 3) := by decide +kernel
theorem dX7_draw_11 : decode cX7_draw 11 = .ok (.iadd, 1) := by decide +kernel
theorem dX7_draw_12 : decode cX7_draw 12 = .ok (.putfield 34, 3) := by decide +kernel
theorem dX7_draw_15 : decode cX7_draw 15 = .ok (.aload_n 0, 1) := by decide +kernel
theorem dX7_draw_16 : decode cX7_draw 16 = .ok (.getfield 34, 3) := by decide +kernel
theorem dX7_draw_19 : decode cX7_draw 19 = .ok (.bipush 8, 2) := by decide +kernel
theorem dX7_draw_21 : decode cX7_draw 21 = .ok (.iushr, 1) := by decide +kernel
theorem dX7_draw_22 : decode cX7_draw 22 = .ok (.ireturn, 1) := by decide +kernel
theorem dX8_init_0 : decode cX8_init 0 = .ok (.aload_n 0, 1) := by decide +kernel
theorem dX8_init_1 : decode cX8_init 1 = .ok (.invokespecial 1, 3) := by decide +kernel
theorem dX8_init_4 : decode cX8_init 4 = .ok (.aload_n 0, 1) := by decide +kernel
theorem dX8_init_5 : decode cX8_init 5 = .ok (.new 7, 3) := by decide +kernel
theorem dX8_init_8 : decode cX8_init 8 = .ok (.dup, 1) := by decide +kernel
theorem dX8_init_9 : decode cX8_init 9 = .ok (.invokespecial 9, 3) := by decide +kernel
theorem dX8_init_12 : decode cX8_init 12 = .ok (.putfield 10, 3) := by decide +kernel
theorem dX8_init_15 : decode cX8_init 15 = .ok (.aload_n 0, 1) := by decide +kernel
theorem dX8_init_16 : decode cX8_init 16 = .ok (.new 7, 3) := by decide +kernel
theorem dX8_init_19 : decode cX8_init 19 = .ok (.dup, 1) := by decide +kernel
theorem dX8_init_20 : decode cX8_init 20 = .ok (.invokespecial 9, 3) := by decide +kernel
theorem dX8_init_23 : decode cX8_init 23 = .ok (.putfield 16, 3) := by decide +kernel
theorem dX8_init_26 : decode cX8_init 26 = .ok (.aload_n 0, 1) := by decide +kernel
theorem dX8_init_27 : decode cX8_init 27 = .ok (.new 19, 3) := by decide +kernel
theorem dX8_init_30 : decode cX8_init 30 = .ok (.dup, 1) := by decide +kernel
theorem dX8_init_31 : decode cX8_init 31 = .ok (.invokespecial 21, 3) := by decide +kernel
theorem dX8_init_34 : decode cX8_init 34 = .ok (.putfield 22, 3) := by decide +kernel
theorem dX8_init_37 : decode cX8_init 37 = .ok (.aload_n 0, 1) := by decide +kernel
theorem dX8_init_38 : decode cX8_init 38 = .ok (.new 26, 3) := by decide +kernel
theorem dX8_init_41 : decode cX8_init 41 = .ok (.dup, 1) := by decide +kernel
theorem dX8_init_42 : decode cX8_init 42 = .ok (.aload_n 0, 1) := by decide +kernel
theorem dX8_init_43 : decode cX8_init 43 = .ok (.getfield 10, 3) := by decide +kernel
theorem dX8_init_46 : decode cX8_init 46 = .ok (.getfield 28, 3) := by decide +kernel
theorem dX8_init_49 : decode cX8_init 49 = .ok (.aload_n 0, 1) := by decide +kernel
theorem dX8_init_50 : decode cX8_init 50 = .ok (.getfield 10, 3) := by decide +kernel
theorem dX8_init_53 : decode cX8_init 53 = .ok (.getfield 32, 3) := by decide +kernel
theorem dX8_init_56 : decode cX8_init 56 = .ok (.invokespecial 35, 3) := by decide +kernel
theorem dX8_init_59 : decode cX8_init 59 = .ok (.putfield 38, 3) := by decide +kernel
theorem dX8_init_62 : decode cX8_init 62 = .ok (.aload_n 0, 1) := by decide +kernel
theorem dX8_init_63 : decode cX8_init 63 = .ok (.new 42, 3) := by decide +kernel
theorem dX8_init_66 : decode cX8_init 66 = .ok (.dup, 1) := by decide +kernel
theorem dX8_init_67 : decode cX8_init 67 = .ok (.aload_n 0, 1) := by decide +kernel
theorem dX8_init_68 : decode cX8_init 68 = .ok (.getfield 10, 3) := by decide +kernel
theorem dX8_init_71 : decode cX8_init 71 = .ok (.getfield 44, 3) := by decide +kernel
theorem dX8_init_74 : decode cX8_init 74 = .ok (.invokespecial 47, 3) := by decide +kernel
theorem dX8_init_77 : decode cX8_init 77 = .ok (.putfield 50, 3) := by decide +kernel
theorem dX8_init_80 : decode cX8_init 80 = .ok (.aload_n 0, 1) := by decide +kernel
theorem dX8_init_81 : decode cX8_init 81 = .ok (.new 54, 3) := by decide +kernel
theorem dX8_init_84 : decode cX8_init 84 = .ok (.dup, 1) := by decide +kernel
theorem dX8_init_85 : decode cX8_init 85 = .ok (.invokespecial 56, 3) := by decide +kernel
theorem dX8_init_88 : decode cX8_init 88 = .ok (.putfield 57, 3) := by decide +kernel
theorem dX8_init_91 : decode cX8_init 91 = .ok (.aload_n 0, 1) := by decide +kernel
theorem dX8_init_92 : decode cX8_init 92 = .ok (.iconst 4, 1) := by decide +kernel
theorem dX8_init_93 : decode cX8_init 93 = .ok (.anewarray 61, 3) := by decide +kernel
theorem dX8_init_96 : decode cX8_init 96 = .ok (.putfield 63, 3) := by decide +kernel
theorem dX8_init_99 : decode cX8_init 99 = .ok (.iconst 0, 1) := by decide +kernel
theorem dX8_init_100 : decode cX8_init 100 = .ok (.istore_n 1, 1) := by decide +kernel
theorem dX8_init_101 : decode cX8_init 101 = .ok (.iload_n 1, 1) := by decide +kernel
theorem dX8_init_102 : decode cX8_init 102 = .ok (.iconst 4, 1) := by decide +kernel
theorem dX8_init_103 : decode cX8_init 103 = .ok (.if_icmp .ge 22, 3) := by decide +kernel
theorem dX8_init_106 : decode cX8_init 106 = .ok (.aload_n 0, 1) := by decide +kernel
theorem dX8_init_107 : decode cX8_init 107 = .ok (.getfield 63, 3) := by decide +kernel
theorem dX8_init_110 : decode cX8_init 110 = .ok (.iload_n 1, 1) := by decide +kernel
theorem dX8_init_111 : decode cX8_init 111 = .ok (.new 61, 3) := by decide +kernel
theorem dX8_init_114 : decode cX8_init 114 = .ok (.dup, 1) := by decide +kernel
theorem dX8_init_115 : decode cX8_init 115 = .ok (.invokespecial 67, 3) := by decide +kernel
theorem dX8_init_118 : decode cX8_init 118 = .ok (.aastore, 1) := by decide +kernel
theorem dX8_init_119 : decode cX8_init 119 = .ok (.iinc 1 1, 3) := by decide +kernel
theorem dX8_init_122 : decode cX8_init 122 = .ok (.goto (-21), 3) := by decide +kernel
theorem dX8_init_125 : decode cX8_init 125 = .ok (.aload_n 0, 1) := by decide +kernel
theorem dX8_init_126 : decode cX8_init 126 = .ok (.bipush 6, 2) := by decide +kernel
theorem dX8_init_128 : decode cX8_init 128 = .ok (.newarray .int, 2) := by decide +kernel
theorem dX8_init_130 : decode cX8_init 130 = .ok (.putfield 68, 3) := by decide +kernel
theorem dX8_init_133 : decode cX8_init 133 = .ok (.aload_n 0, 1) := by decide +kernel
theorem dX8_init_134 : decode cX8_init 134 = .ok (.bipush 41, 2) := by decide +kernel
theorem dX8_init_136 : decode cX8_init 136 = .ok (.newarray .int, 2) := by decide +kernel
theorem dX8_init_138 : decode cX8_init 138 = .ok (.putfield 72, 3) := by decide +kernel
theorem dX8_init_141 : decode cX8_init 141 = .ok (.aload_n 0, 1) := by decide +kernel
theorem dX8_init_142 : decode cX8_init 142 = .ok (.bipush 10, 2) := by decide +kernel
theorem dX8_init_144 : decode cX8_init 144 = .ok (.newarray .int, 2) := by decide +kernel
theorem dX8_init_146 : decode cX8_init 146 = .ok (.putfield 75, 3) := by decide +kernel
theorem dX8_init_149 : decode cX8_init 149 = .ok (.aload_n 0, 1) := by decide +kernel
theorem dX8_init_150 : decode cX8_init 150 = .ok (.iconst 0, 1) := by decide +kernel
theorem dX8_init_151 : decode cX8_init 151 = .ok (.putfield 78, 3) := by decide +kernel
theorem dX8_init_154 : decode cX8_init 154 = .ok (.return_, 1) := by decide +kernel
theorem dX8_dish_0 : decode cX8_dish 0 = .ok (.iload_n 1, 1) := by decide +kernel
theorem dX8_dish_1 : decode cX8_dish 1 = .ok (.invokestatic 82, 3) := by decide +kernel
theorem dX8_dish_4 : decode cX8_dish 4 = .ok (.ifCond .eq 22, 3) := by decide +kernel
theorem dX8_dish_7 : decode cX8_dish 7 = .ok (.iload_n 2, 1) := by decide +kernel
theorem dX8_dish_8 : decode cX8_dish 8 = .ok (.iconst 0, 1) := by decide +kernel
theorem dX8_dish_9 : decode cX8_dish 9 = .ok (.iconst 1, 1) := by decide +kernel
theorem dX8_dish_10 : decode cX8_dish 10 = .ok (.invokestatic 86, 3) := by decide +kernel
theorem dX8_dish_13 : decode cX8_dish 13 = .ok (.ifCond .eq 13, 3) := by decide +kernel
theorem dX8_dish_16 : decode cX8_dish 16 = .ok (.iload_n 3, 1) := by decide +kernel
theorem dX8_dish_17 : decode cX8_dish 17 = .ok (.iconst 0, 1) := by decide +kernel
theorem dX8_dish_18 : decode cX8_dish 18 = .ok (.bipush 9, 2) := by decide +kernel
theorem dX8_dish_20 : decode cX8_dish 20 = .ok (.invokestatic 86, 3) := by decide +kernel
theorem dX8_dish_23 : decode cX8_dish 23 = .ok (.ifCond .ne 9, 3) := by decide +kernel
theorem dX8_dish_26 : decode cX8_dish 26 = .ok (.aload_n 0, 1) := by decide +kernel
theorem dX8_dish_27 : decode cX8_dish 27 = .ok (.iconst 1, 1) := by decide +kernel
theorem dX8_dish_28 : decode cX8_dish 28 = .ok (.invokevirtual 90, 3) := by decide +kernel
theorem dX8_dish_31 : decode cX8_dish 31 = .ok (.ireturn, 1) := by decide +kernel
theorem dX8_dish_32 : decode cX8_dish 32 = .ok (.iload_n 2, 1) := by decide +kernel
theorem dX8_dish_33 : decode cX8_dish 33 = .ok (.ifCond .ne 16, 3) := by decide +kernel
theorem dX8_dish_36 : decode cX8_dish 36 = .ok (.aload_n 0, 1) := by decide +kernel
theorem dX8_dish_37 : decode cX8_dish 37 = .ok (.getfield 10, 3) := by decide +kernel
theorem dX8_dish_40 : decode cX8_dish 40 = .ok (.getfield 94, 3) := by decide +kernel
theorem dX8_dish_43 : decode cX8_dish 43 = .ok (.getfield 97, 3) := by decide +kernel
theorem dX8_dish_46 : decode cX8_dish 46 = .ok (.goto 13, 3) := by decide +kernel
theorem dX8_dish_49 : decode cX8_dish 49 = .ok (.aload_n 0, 1) := by decide +kernel
theorem dX8_dish_50 : decode cX8_dish 50 = .ok (.getfield 10, 3) := by decide +kernel
theorem dX8_dish_53 : decode cX8_dish 53 = .ok (.getfield 94, 3) := by decide +kernel
theorem dX8_dish_56 : decode cX8_dish 56 = .ok (.getfield 100, 3) := by decide +kernel
theorem dX8_dish_59 : decode cX8_dish 59 = .ok (.iload_n 1, 1) := by decide +kernel
theorem dX8_dish_60 : decode cX8_dish 60 = .ok (.iload_n 3, 1) := by decide +kernel
theorem dX8_dish_61 : decode cX8_dish 61 = .ok (.invokestatic 103, 3) := by decide +kernel
theorem dX8_dish_64 : decode cX8_dish 64 = .ok (.ireturn, 1) := by decide +kernel
theorem dX8_ofDish_0 : decode cX8_ofDish 0 = .ok (.iload_n 1, 1) := by decide +kernel
theorem dX8_ofDish_1 : decode cX8_ofDish 1 = .ok (.invokestatic 82, 3) := by decide +kernel
theorem dX8_ofDish_4 : decode cX8_ofDish 4 = .ok (.ifCond .eq 12, 3) := by decide +kernel
theorem dX8_ofDish_7 : decode cX8_ofDish 7 = .ok (.iload_n 2, 1) := by decide +kernel
theorem dX8_ofDish_8 : decode cX8_ofDish 8 = .ok (.iconst 0, 1) := by decide +kernel
theorem dX8_ofDish_9 : decode cX8_ofDish 9 = .ok (.iconst 2, 1) := by decide +kernel
theorem dX8_ofDish_10 : decode cX8_ofDish 10 = .ok (.invokestatic 86, 3) := by decide +kernel
theorem dX8_ofDish_13 : decode cX8_ofDish 13 = .ok (.ifCond .ne 9, 3) := by decide +kernel
theorem dX8_ofDish_16 : decode cX8_ofDish 16 = .ok (.aload_n 0, 1) := by decide +kernel
theorem dX8_ofDish_17 : decode cX8_ofDish 17 = .ok (.iconst 1, 1) := by decide +kernel
theorem dX8_ofDish_18 : decode cX8_ofDish 18 = .ok (.invokevirtual 90, 3) := by decide +kernel
theorem dX8_ofDish_21 : decode cX8_ofDish 21 = .ok (.ireturn, 1) := by decide +kernel
theorem dX8_ofDish_22 : decode cX8_ofDish 22 = .ok (.iload_n 2, 1) := by decide +kernel
theorem dX8_ofDish_23 : decode cX8_ofDish 23 = .ok (.ifCond .ne 16, 3) := by decide +kernel
theorem dX8_ofDish_26 : decode cX8_ofDish 26 = .ok (.aload_n 0, 1) := by decide +kernel
theorem dX8_ofDish_27 : decode cX8_ofDish 27 = .ok (.getfield 10, 3) := by decide +kernel
theorem dX8_ofDish_30 : decode cX8_ofDish 30 = .ok (.getfield 94, 3) := by decide +kernel
theorem dX8_ofDish_33 : decode cX8_ofDish 33 = .ok (.getfield 97, 3) := by decide +kernel
theorem dX8_ofDish_36 : decode cX8_ofDish 36 = .ok (.iload_n 1, 1) := by decide +kernel
theorem dX8_ofDish_37 : decode cX8_ofDish 37 = .ok (.iaload, 1) := by decide +kernel
theorem dX8_ofDish_38 : decode cX8_ofDish 38 = .ok (.ireturn, 1) := by decide +kernel
theorem dX8_ofDish_39 : decode cX8_ofDish 39 = .ok (.iload_n 2, 1) := by decide +kernel
theorem dX8_ofDish_40 : decode cX8_ofDish 40 = .ok (.iconst 1, 1) := by decide +kernel
theorem dX8_ofDish_41 : decode cX8_ofDish 41 = .ok (.if_icmp .ne 18, 3) := by decide +kernel
theorem dX8_ofDish_44 : decode cX8_ofDish 44 = .ok (.aload_n 0, 1) := by decide +kernel
theorem dX8_ofDish_45 : decode cX8_ofDish 45 = .ok (.getfield 10, 3) := by decide +kernel
theorem dX8_ofDish_48 : decode cX8_ofDish 48 = .ok (.getfield 94, 3) := by decide +kernel
theorem dX8_ofDish_51 : decode cX8_ofDish 51 = .ok (.getfield 100, 3) := by decide +kernel
theorem dX8_ofDish_54 : decode cX8_ofDish 54 = .ok (.iload_n 1, 1) := by decide +kernel
theorem dX8_ofDish_55 : decode cX8_ofDish 55 = .ok (.iaload, 1) := by decide +kernel
theorem dX8_ofDish_56 : decode cX8_ofDish 56 = .ok (.goto 14, 3) := by decide +kernel
theorem dX8_ofDish_59 : decode cX8_ofDish 59 = .ok (.aload_n 0, 1) := by decide +kernel
theorem dX8_ofDish_60 : decode cX8_ofDish 60 = .ok (.getfield 10, 3) := by decide +kernel
theorem dX8_ofDish_63 : decode cX8_ofDish 63 = .ok (.getfield 94, 3) := by decide +kernel
theorem dX8_ofDish_66 : decode cX8_ofDish 66 = .ok (.iload_n 1, 1) := by decide +kernel
theorem dX8_ofDish_67 : decode cX8_ofDish 67 = .ok (.invokevirtual 107, 3) := by decide +kernel
theorem dX8_ofDish_70 : decode cX8_ofDish 70 = .ok (.ireturn, 1) := by decide +kernel
theorem dX8_menu_0 : decode cX8_menu 0 = .ok (.iload_n 1, 1) := by decide +kernel
theorem dX8_menu_1 : decode cX8_menu 1 = .ok (.invokestatic 110, 3) := by decide +kernel
theorem dX8_menu_4 : decode cX8_menu 4 = .ok (.ifCond .eq 15, 3) := by decide +kernel
theorem dX8_menu_7 : decode cX8_menu 7 = .ok (.iload_n 2, 1) := by decide +kernel
theorem dX8_menu_8 : decode cX8_menu 8 = .ok (.iconst (-1), 1) := by decide +kernel
theorem dX8_menu_9 : decode cX8_menu 9 = .ok (.if_icmp .eq 16, 3) := by decide +kernel
theorem dX8_menu_12 : decode cX8_menu 12 = .ok (.iload_n 2, 1) := by decide +kernel
theorem dX8_menu_13 : decode cX8_menu 13 = .ok (.invokestatic 82, 3) := by decide +kernel
theorem dX8_menu_16 : decode cX8_menu 16 = .ok (.ifCond .ne 9, 3) := by decide +kernel
theorem dX8_menu_19 : decode cX8_menu 19 = .ok (.aload_n 0, 1) := by decide +kernel
theorem dX8_menu_20 : decode cX8_menu 20 = .ok (.iconst 1, 1) := by decide +kernel
theorem dX8_menu_21 : decode cX8_menu 21 = .ok (.invokevirtual 90, 3) := by decide +kernel
theorem dX8_menu_24 : decode cX8_menu 24 = .ok (.ireturn, 1) := by decide +kernel
theorem dX8_menu_25 : decode cX8_menu 25 = .ok (.iload_n 2, 1) := by decide +kernel
theorem dX8_menu_26 : decode cX8_menu 26 = .ok (.iconst (-1), 1) := by decide +kernel
theorem dX8_menu_27 : decode cX8_menu 27 = .ok (.if_icmp .ne 18, 3) := by decide +kernel
theorem dX8_menu_30 : decode cX8_menu 30 = .ok (.aload_n 0, 1) := by decide +kernel
theorem dX8_menu_31 : decode cX8_menu 31 = .ok (.getfield 10, 3) := by decide +kernel
theorem dX8_menu_34 : decode cX8_menu 34 = .ok (.getfield 94, 3) := by decide +kernel
theorem dX8_menu_37 : decode cX8_menu 37 = .ok (.getfield 113, 3) := by decide +kernel
theorem dX8_menu_40 : decode cX8_menu 40 = .ok (.iload_n 1, 1) := by decide +kernel
theorem dX8_menu_41 : decode cX8_menu 41 = .ok (.iaload, 1) := by decide +kernel
theorem dX8_menu_42 : decode cX8_menu 42 = .ok (.goto 18, 3) := by decide +kernel
theorem dX8_menu_45 : decode cX8_menu 45 = .ok (.aload_n 0, 1) := by decide +kernel
theorem dX8_menu_46 : decode cX8_menu 46 = .ok (.getfield 10, 3) := by decide +kernel
theorem dX8_menu_49 : decode cX8_menu 49 = .ok (.getfield 94, 3) := by decide +kernel
theorem dX8_menu_52 : decode cX8_menu 52 = .ok (.getfield 113, 3) := by decide +kernel
theorem dX8_menu_55 : decode cX8_menu 55 = .ok (.iload_n 1, 1) := by decide +kernel
theorem dX8_menu_56 : decode cX8_menu 56 = .ok (.iload_n 2, 1) := by decide +kernel
theorem dX8_menu_57 : decode cX8_menu 57 = .ok (.invokestatic 103, 3) := by decide +kernel
theorem dX8_menu_60 : decode cX8_menu 60 = .ok (.ireturn, 1) := by decide +kernel
theorem dX8_house_0 : decode cX8_house 0 = .ok (.iload_n 1, 1) := by decide +kernel
theorem dX8_house_1 : decode cX8_house 1 = .ok (.iconst 0, 1) := by decide +kernel
theorem dX8_house_2 : decode cX8_house 2 = .ok (.iconst 1, 1) := by decide +kernel
theorem dX8_house_3 : decode cX8_house 3 = .ok (.invokestatic 86, 3) := by decide +kernel
theorem dX8_house_6 : decode cX8_house 6 = .ok (.ifCond .eq 22, 3) := by decide +kernel
theorem dX8_house_9 : decode cX8_house 9 = .ok (.iload_n 2, 1) := by decide +kernel
theorem dX8_house_10 : decode cX8_house 10 = .ok (.iconst 0, 1) := by decide +kernel
theorem dX8_house_11 : decode cX8_house 11 = .ok (.iload_n 1, 1) := by decide +kernel
theorem dX8_house_12 : decode cX8_house 12 = .ok (.ifCond .ne 8, 3) := by decide +kernel
theorem dX8_house_15 : decode cX8_house 15 = .ok (.bipush 40, 2) := by decide +kernel
theorem dX8_house_17 : decode cX8_house 17 = .ok (.goto 5, 3) := by decide +kernel
theorem dX8_house_20 : decode cX8_house 20 = .ok (.ldc 116, 2) := by decide +kernel
theorem dX8_house_22 : decode cX8_house 22 = .ok (.invokestatic 86, 3) := by decide +kernel
theorem dX8_house_25 : decode cX8_house 25 = .ok (.ifCond .ne 9, 3) := by decide +kernel
theorem dX8_house_28 : decode cX8_house 28 = .ok (.aload_n 0, 1) := by decide +kernel
theorem dX8_house_29 : decode cX8_house 29 = .ok (.iconst 1, 1) := by decide +kernel
theorem dX8_house_30 : decode cX8_house 30 = .ok (.invokevirtual 90, 3) := by decide +kernel
theorem dX8_house_33 : decode cX8_house 33 = .ok (.ireturn, 1) := by decide +kernel
theorem dX8_house_34 : decode cX8_house 34 = .ok (.iload_n 1, 1) := by decide +kernel
theorem dX8_house_35 : decode cX8_house 35 = .ok (.ifCond .ne 28, 3) := by decide +kernel
theorem dX8_house_38 : decode cX8_house 38 = .ok (.aload_n 0, 1) := by decide +kernel
theorem dX8_house_39 : decode cX8_house 39 = .ok (.getfield 10, 3) := by decide +kernel
theorem dX8_house_42 : decode cX8_house 42 = .ok (.getfield 94, 3) := by decide +kernel
theorem dX8_house_45 : decode cX8_house 45 = .ok (.getfield 117, 3) := by decide +kernel
theorem dX8_house_48 : decode cX8_house 48 = .ok (.istore_n 3, 1) := by decide +kernel
theorem dX8_house_49 : decode cX8_house 49 = .ok (.aload_n 0, 1) := by decide +kernel
theorem dX8_house_50 : decode cX8_house 50 = .ok (.getfield 10, 3) := by decide +kernel
theorem dX8_house_53 : decode cX8_house 53 = .ok (.getfield 94, 3) := by decide +kernel
theorem dX8_house_56 : decode cX8_house 56 = .ok (.iload_n 2, 1) := by decide +kernel
theorem dX8_house_57 : decode cX8_house 57 = .ok (.putfield 117, 3) := by decide +kernel
theorem dX8_house_60 : decode cX8_house 60 = .ok (.goto 25, 3) := by decide +kernel
theorem dX8_house_63 : decode cX8_house 63 = .ok (.aload_n 0, 1) := by decide +kernel
theorem dX8_house_64 : decode cX8_house 64 = .ok (.getfield 10, 3) := by decide +kernel
theorem dX8_house_67 : decode cX8_house 67 = .ok (.getfield 94, 3) := by decide +kernel
theorem dX8_house_70 : decode cX8_house 70 = .ok (.getfield 120, 3) := by decide +kernel
theorem dX8_house_73 : decode cX8_house 73 = .ok (.istore_n 3, 1) := by decide +kernel
theorem dX8_house_74 : decode cX8_house 74 = .ok (.aload_n 0, 1) := by decide +kernel
theorem dX8_house_75 : decode cX8_house 75 = .ok (.getfield 10, 3) := by decide +kernel
theorem dX8_house_78 : decode cX8_house 78 = .ok (.getfield 94, 3) := by decide +kernel
theorem dX8_house_81 : decode cX8_house 81 = .ok (.iload_n 2, 1) := by decide +kernel
theorem dX8_house_82 : decode cX8_house 82 = .ok (.putfield 120, 3) := by decide +kernel
theorem dX8_house_85 : decode cX8_house 85 = .ok (.iload_n 3, 1) := by decide +kernel
theorem dX8_house_86 : decode cX8_house 86 = .ok (.ireturn, 1) := by decide +kernel
theorem dX8_diner_0 : decode cX8_diner 0 = .ok (.iload_n 1, 1) := by decide +kernel
theorem dX8_diner_1 : decode cX8_diner 1 = .ok (.invokestatic 123, 3) := by decide +kernel
theorem dX8_diner_4 : decode cX8_diner 4 = .ok (.ifCond .eq 13, 3) := by decide +kernel
theorem dX8_diner_7 : decode cX8_diner 7 = .ok (.iload_n 2, 1) := by decide +kernel
theorem dX8_diner_8 : decode cX8_diner 8 = .ok (.iconst 0, 1) := by decide +kernel
theorem dX8_diner_9 : decode cX8_diner 9 = .ok (.bipush 9, 2) := by decide +kernel
theorem dX8_diner_11 : decode cX8_diner 11 = .ok (.invokestatic 86, 3) := by decide +kernel
theorem dX8_diner_14 : decode cX8_diner 14 = .ok (.ifCond .ne 9, 3) := by decide +kernel
theorem dX8_diner_17 : decode cX8_diner 17 = .ok (.aload_n 0, 1) := by decide +kernel
theorem dX8_diner_18 : decode cX8_diner 18 = .ok (.iconst 1, 1) := by decide +kernel
theorem dX8_diner_19 : decode cX8_diner 19 = .ok (.invokevirtual 90, 3) := by decide +kernel
theorem dX8_diner_22 : decode cX8_diner 22 = .ok (.ireturn, 1) := by decide +kernel
theorem dX8_diner_23 : decode cX8_diner 23 = .ok (.aload_n 0, 1) := by decide +kernel
theorem dX8_diner_24 : decode cX8_diner 24 = .ok (.getfield 10, 3) := by decide +kernel
theorem dX8_diner_27 : decode cX8_diner 27 = .ok (.getfield 94, 3) := by decide +kernel
theorem dX8_diner_30 : decode cX8_diner 30 = .ok (.getfield 126, 3) := by decide +kernel
theorem dX8_diner_33 : decode cX8_diner 33 = .ok (.bipush 8, 2) := by decide +kernel
theorem dX8_diner_35 : decode cX8_diner 35 = .ok (.if_icmp .lt 9, 3) := by decide +kernel
theorem dX8_diner_38 : decode cX8_diner 38 = .ok (.aload_n 0, 1) := by decide +kernel
theorem dX8_diner_39 : decode cX8_diner 39 = .ok (.iconst 4, 1) := by decide +kernel
theorem dX8_diner_40 : decode cX8_diner 40 = .ok (.invokevirtual 90, 3) := by decide +kernel
theorem dX8_diner_43 : decode cX8_diner 43 = .ok (.ireturn, 1) := by decide +kernel
theorem dX8_diner_44 : decode cX8_diner 44 = .ok (.aload_n 0, 1) := by decide +kernel
theorem dX8_diner_45 : decode cX8_diner 45 = .ok (.getfield 10, 3) := by decide +kernel
theorem dX8_diner_48 : decode cX8_diner 48 = .ok (.getfield 94, 3) := by decide +kernel
theorem dX8_diner_51 : decode cX8_diner 51 = .ok (.iload_n 1, 1) := by decide +kernel
theorem dX8_diner_52 : decode cX8_diner 52 = .ok (.bipush 10, 2) := by decide +kernel
theorem dX8_diner_54 : decode cX8_diner 54 = .ok (.idiv, 1) := by decide +kernel
theorem dX8_diner_55 : decode cX8_diner 55 = .ok (.iload_n 1, 1) := by decide +kernel
theorem dX8_diner_56 : decode cX8_diner 56 = .ok (.bipush 10, 2) := by decide +kernel
theorem dX8_diner_58 : decode cX8_diner 58 = .ok (.irem, 1) := by decide +kernel
theorem dX8_diner_59 : decode cX8_diner 59 = .ok (.iload_n 2, 1) := by decide +kernel
theorem dX8_diner_60 : decode cX8_diner 60 = .ok (.invokevirtual 129, 3) := by decide +kernel
theorem dX8_diner_63 : decode cX8_diner 63 = .ok (.ireturn, 1) := by decide +kernel
theorem dX8_ofDiner_0 : decode cX8_ofDiner 0 = .ok (.aload_n 0, 1) := by decide +kernel
theorem dX8_ofDiner_1 : decode cX8_ofDiner 1 = .ok (.iload_n 1, 1) := by decide +kernel
theorem dX8_ofDiner_2 : decode cX8_ofDiner 2 = .ok (.invokevirtual 133, 3) := by decide +kernel
theorem dX8_ofDiner_5 : decode cX8_ofDiner 5 = .ok (.ifCond .eq 13, 3) := by decide +kernel
theorem dX8_ofDiner_8 : decode cX8_ofDiner 8 = .ok (.iload_n 2, 1) := by decide +kernel
theorem dX8_ofDiner_9 : decode cX8_ofDiner 9 = .ok (.iconst 0, 1) := by decide +kernel
theorem dX8_ofDiner_10 : decode cX8_ofDiner 10 = .ok (.bipush 11, 2) := by decide +kernel
theorem dX8_ofDiner_12 : decode cX8_ofDiner 12 = .ok (.invokestatic 86, 3) := by decide +kernel
theorem dX8_ofDiner_15 : decode cX8_ofDiner 15 = .ok (.ifCond .ne 9, 3) := by decide +kernel
theorem dX8_ofDiner_18 : decode cX8_ofDiner 18 = .ok (.aload_n 0, 1) := by decide +kernel
theorem dX8_ofDiner_19 : decode cX8_ofDiner 19 = .ok (.iconst 1, 1) := by decide +kernel
theorem dX8_ofDiner_20 : decode cX8_ofDiner 20 = .ok (.invokevirtual 90, 3) := by decide +kernel
theorem dX8_ofDiner_23 : decode cX8_ofDiner 23 = .ok (.ireturn, 1) := by decide +kernel
theorem dX8_ofDiner_24 : decode cX8_ofDiner 24 = .ok (.iload_n 2, 1) := by decide +kernel
theorem dX8_ofDiner_25 : decode cX8_ofDiner 25 = .ok (.tableswitch 116 0 5 #[39, 52, 65, 78, 91, 104], 39) := by decide +kernel
theorem dX8_ofDiner_64 : decode cX8_ofDiner 64 = .ok (.aload_n 0, 1) := by decide +kernel
theorem dX8_ofDiner_65 : decode cX8_ofDiner 65 = .ok (.getfield 10, 3) := by decide +kernel
theorem dX8_ofDiner_68 : decode cX8_ofDiner 68 = .ok (.getfield 94, 3) := by decide +kernel
theorem dX8_ofDiner_71 : decode cX8_ofDiner 71 = .ok (.getfield 136, 3) := by decide +kernel
theorem dX8_ofDiner_74 : decode cX8_ofDiner 74 = .ok (.iload_n 1, 1) := by decide +kernel
theorem dX8_ofDiner_75 : decode cX8_ofDiner 75 = .ok (.iaload, 1) := by decide +kernel
theorem dX8_ofDiner_76 : decode cX8_ofDiner 76 = .ok (.ireturn, 1) := by decide +kernel
theorem dX8_ofDiner_77 : decode cX8_ofDiner 77 = .ok (.aload_n 0, 1) := by decide +kernel
theorem dX8_ofDiner_78 : decode cX8_ofDiner 78 = .ok (.getfield 10, 3) := by decide +kernel
theorem dX8_ofDiner_81 : decode cX8_ofDiner 81 = .ok (.getfield 94, 3) := by decide +kernel
theorem dX8_ofDiner_84 : decode cX8_ofDiner 84 = .ok (.getfield 139, 3) := by decide +kernel
theorem dX8_ofDiner_87 : decode cX8_ofDiner 87 = .ok (.iload_n 1, 1) := by decide +kernel
theorem dX8_ofDiner_88 : decode cX8_ofDiner 88 = .ok (.iaload, 1) := by decide +kernel
theorem dX8_ofDiner_89 : decode cX8_ofDiner 89 = .ok (.ireturn, 1) := by decide +kernel
theorem dX8_ofDiner_90 : decode cX8_ofDiner 90 = .ok (.aload_n 0, 1) := by decide +kernel
theorem dX8_ofDiner_91 : decode cX8_ofDiner 91 = .ok (.getfield 10, 3) := by decide +kernel
theorem dX8_ofDiner_94 : decode cX8_ofDiner 94 = .ok (.getfield 94, 3) := by decide +kernel
theorem dX8_ofDiner_97 : decode cX8_ofDiner 97 = .ok (.getfield 142, 3) := by decide +kernel
theorem dX8_ofDiner_100 : decode cX8_ofDiner 100 = .ok (.iload_n 1, 1) := by decide +kernel
theorem dX8_ofDiner_101 : decode cX8_ofDiner 101 = .ok (.iaload, 1) := by decide +kernel
theorem dX8_ofDiner_102 : decode cX8_ofDiner 102 = .ok (.ireturn, 1) := by decide +kernel
theorem dX8_ofDiner_103 : decode cX8_ofDiner 103 = .ok (.aload_n 0, 1) := by decide +kernel
theorem dX8_ofDiner_104 : decode cX8_ofDiner 104 = .ok (.getfield 10, 3) := by decide +kernel
theorem dX8_ofDiner_107 : decode cX8_ofDiner 107 = .ok (.getfield 94, 3) := by decide +kernel
theorem dX8_ofDiner_110 : decode cX8_ofDiner 110 = .ok (.getfield 145, 3) := by decide +kernel
theorem dX8_ofDiner_113 : decode cX8_ofDiner 113 = .ok (.iload_n 1, 1) := by decide +kernel
theorem dX8_ofDiner_114 : decode cX8_ofDiner 114 = .ok (.iaload, 1) := by decide +kernel
theorem dX8_ofDiner_115 : decode cX8_ofDiner 115 = .ok (.ireturn, 1) := by decide +kernel
theorem dX8_ofDiner_116 : decode cX8_ofDiner 116 = .ok (.aload_n 0, 1) := by decide +kernel
theorem dX8_ofDiner_117 : decode cX8_ofDiner 117 = .ok (.getfield 10, 3) := by decide +kernel
theorem dX8_ofDiner_120 : decode cX8_ofDiner 120 = .ok (.getfield 94, 3) := by decide +kernel
theorem dX8_ofDiner_123 : decode cX8_ofDiner 123 = .ok (.getfield 148, 3) := by decide +kernel
theorem dX8_ofDiner_126 : decode cX8_ofDiner 126 = .ok (.iload_n 1, 1) := by decide +kernel
theorem dX8_ofDiner_127 : decode cX8_ofDiner 127 = .ok (.iaload, 1) := by decide +kernel
theorem dX8_ofDiner_128 : decode cX8_ofDiner 128 = .ok (.ireturn, 1) := by decide +kernel
theorem dX8_ofDiner_129 : decode cX8_ofDiner 129 = .ok (.aload_n 0, 1) := by decide +kernel
theorem dX8_ofDiner_130 : decode cX8_ofDiner 130 = .ok (.getfield 10, 3) := by decide +kernel
theorem dX8_ofDiner_133 : decode cX8_ofDiner 133 = .ok (.getfield 94, 3) := by decide +kernel
theorem dX8_ofDiner_136 : decode cX8_ofDiner 136 = .ok (.iload_n 1, 1) := by decide +kernel
theorem dX8_ofDiner_137 : decode cX8_ofDiner 137 = .ok (.invokevirtual 151, 3) := by decide +kernel
theorem dX8_ofDiner_140 : decode cX8_ofDiner 140 = .ok (.ireturn, 1) := by decide +kernel
theorem dX8_ofDiner_141 : decode cX8_ofDiner 141 = .ok (.aload_n 0, 1) := by decide +kernel
theorem dX8_ofDiner_142 : decode cX8_ofDiner 142 = .ok (.getfield 10, 3) := by decide +kernel
theorem dX8_ofDiner_145 : decode cX8_ofDiner 145 = .ok (.getfield 94, 3) := by decide +kernel
theorem dX8_ofDiner_148 : decode cX8_ofDiner 148 = .ok (.aload_n 0, 1) := by decide +kernel
theorem dX8_ofDiner_149 : decode cX8_ofDiner 149 = .ok (.getfield 38, 3) := by decide +kernel
theorem dX8_ofDiner_152 : decode cX8_ofDiner 152 = .ok (.iload_n 2, 1) := by decide +kernel
theorem dX8_ofDiner_153 : decode cX8_ofDiner 153 = .ok (.bipush 6, 2) := by decide +kernel
theorem dX8_ofDiner_155 : decode cX8_ofDiner 155 = .ok (.isub, 1) := by decide +kernel
theorem dX8_ofDiner_156 : decode cX8_ofDiner 156 = .ok (.iload_n 1, 1) := by decide +kernel
theorem dX8_ofDiner_157 : decode cX8_ofDiner 157 = .ok (.invokevirtual 154, 3) := by decide +kernel
theorem dX8_ofDiner_160 : decode cX8_ofDiner 160 = .ok (.ireturn, 1) := by decide +kernel
theorem dX8_change_0 : decode cX8_change 0 = .ok (.aload_n 0, 1) := by decide +kernel
theorem dX8_change_1 : decode cX8_change 1 = .ok (.iload_n 1, 1) := by decide +kernel
theorem dX8_change_2 : decode cX8_change 2 = .ok (.invokevirtual 133, 3) := by decide +kernel
theorem dX8_change_5 : decode cX8_change 5 = .ok (.ifCond .eq 12, 3) := by decide +kernel
theorem dX8_change_8 : decode cX8_change 8 = .ok (.iload_n 2, 1) := by decide +kernel
theorem dX8_change_9 : decode cX8_change 9 = .ok (.iconst 0, 1) := by decide +kernel
theorem dX8_change_10 : decode cX8_change 10 = .ok (.iconst 2, 1) := by decide +kernel
theorem dX8_change_11 : decode cX8_change 11 = .ok (.invokestatic 86, 3) := by decide +kernel
theorem dX8_change_14 : decode cX8_change 14 = .ok (.ifCond .ne 9, 3) := by decide +kernel
theorem dX8_change_17 : decode cX8_change 17 = .ok (.aload_n 0, 1) := by decide +kernel
theorem dX8_change_18 : decode cX8_change 18 = .ok (.iconst 1, 1) := by decide +kernel
theorem dX8_change_19 : decode cX8_change 19 = .ok (.invokevirtual 90, 3) := by decide +kernel
theorem dX8_change_22 : decode cX8_change 22 = .ok (.ireturn, 1) := by decide +kernel
theorem dX8_change_23 : decode cX8_change 23 = .ok (.iload_n 2, 1) := by decide +kernel
theorem dX8_change_24 : decode cX8_change 24 = .ok (.ifCond .ne 37, 3) := by decide +kernel
theorem dX8_change_27 : decode cX8_change 27 = .ok (.iload_n 3, 1) := by decide +kernel
theorem dX8_change_28 : decode cX8_change 28 = .ok (.iconst 0, 1) := by decide +kernel
theorem dX8_change_29 : decode cX8_change 29 = .ok (.bipush 9, 2) := by decide +kernel
theorem dX8_change_31 : decode cX8_change 31 = .ok (.invokestatic 86, 3) := by decide +kernel
theorem dX8_change_34 : decode cX8_change 34 = .ok (.ifCond .eq 21, 3) := by decide +kernel
theorem dX8_change_37 : decode cX8_change 37 = .ok (.aload_n 0, 1) := by decide +kernel
theorem dX8_change_38 : decode cX8_change 38 = .ok (.getfield 10, 3) := by decide +kernel
theorem dX8_change_41 : decode cX8_change 41 = .ok (.getfield 94, 3) := by decide +kernel
theorem dX8_change_44 : decode cX8_change 44 = .ok (.getfield 142, 3) := by decide +kernel
theorem dX8_change_47 : decode cX8_change 47 = .ok (.iload_n 1, 1) := by decide +kernel
theorem dX8_change_48 : decode cX8_change 48 = .ok (.iload_n 3, 1) := by decide +kernel
theorem dX8_change_49 : decode cX8_change 49 = .ok (.invokestatic 103, 3) := by decide +kernel
theorem dX8_change_52 : decode cX8_change 52 = .ok (.goto 8, 3) := by decide +kernel
theorem dX8_change_55 : decode cX8_change 55 = .ok (.aload_n 0, 1) := by decide +kernel
theorem dX8_change_56 : decode cX8_change 56 = .ok (.iconst 1, 1) := by decide +kernel
theorem dX8_change_57 : decode cX8_change 57 = .ok (.invokevirtual 90, 3) := by decide +kernel
theorem dX8_change_60 : decode cX8_change 60 = .ok (.ireturn, 1) := by decide +kernel
theorem dX8_change_61 : decode cX8_change 61 = .ok (.iload_n 2, 1) := by decide +kernel
theorem dX8_change_62 : decode cX8_change 62 = .ok (.iconst 1, 1) := by decide +kernel
theorem dX8_change_63 : decode cX8_change 63 = .ok (.if_icmp .ne 37, 3) := by decide +kernel
theorem dX8_change_66 : decode cX8_change 66 = .ok (.iload_n 3, 1) := by decide +kernel
theorem dX8_change_67 : decode cX8_change 67 = .ok (.iconst 0, 1) := by decide +kernel
theorem dX8_change_68 : decode cX8_change 68 = .ok (.bipush 7, 2) := by decide +kernel
theorem dX8_change_70 : decode cX8_change 70 = .ok (.invokestatic 86, 3) := by decide +kernel
theorem dX8_change_73 : decode cX8_change 73 = .ok (.ifCond .eq 21, 3) := by decide +kernel
theorem dX8_change_76 : decode cX8_change 76 = .ok (.aload_n 0, 1) := by decide +kernel
theorem dX8_change_77 : decode cX8_change 77 = .ok (.getfield 10, 3) := by decide +kernel
theorem dX8_change_80 : decode cX8_change 80 = .ok (.getfield 94, 3) := by decide +kernel
theorem dX8_change_83 : decode cX8_change 83 = .ok (.getfield 145, 3) := by decide +kernel
theorem dX8_change_86 : decode cX8_change 86 = .ok (.iload_n 1, 1) := by decide +kernel
theorem dX8_change_87 : decode cX8_change 87 = .ok (.iload_n 3, 1) := by decide +kernel
theorem dX8_change_88 : decode cX8_change 88 = .ok (.invokestatic 103, 3) := by decide +kernel
theorem dX8_change_91 : decode cX8_change 91 = .ok (.goto 8, 3) := by decide +kernel
theorem dX8_change_94 : decode cX8_change 94 = .ok (.aload_n 0, 1) := by decide +kernel
theorem dX8_change_95 : decode cX8_change 95 = .ok (.iconst 1, 1) := by decide +kernel
theorem dX8_change_96 : decode cX8_change 96 = .ok (.invokevirtual 90, 3) := by decide +kernel
theorem dX8_change_99 : decode cX8_change 99 = .ok (.ireturn, 1) := by decide +kernel
theorem dX8_change_100 : decode cX8_change 100 = .ok (.iload_n 3, 1) := by decide +kernel
theorem dX8_change_101 : decode cX8_change 101 = .ok (.invokestatic 158, 3) := by decide +kernel
theorem dX8_change_104 : decode cX8_change 104 = .ok (.ifCond .eq 21, 3) := by decide +kernel
theorem dX8_change_107 : decode cX8_change 107 = .ok (.aload_n 0, 1) := by decide +kernel
theorem dX8_change_108 : decode cX8_change 108 = .ok (.getfield 10, 3) := by decide +kernel
theorem dX8_change_111 : decode cX8_change 111 = .ok (.getfield 94, 3) := by decide +kernel
theorem dX8_change_114 : decode cX8_change 114 = .ok (.getfield 148, 3) := by decide +kernel
theorem dX8_change_117 : decode cX8_change 117 = .ok (.iload_n 1, 1) := by decide +kernel
theorem dX8_change_118 : decode cX8_change 118 = .ok (.iload_n 3, 1) := by decide +kernel
theorem dX8_change_119 : decode cX8_change 119 = .ok (.invokestatic 103, 3) := by decide +kernel
theorem dX8_change_122 : decode cX8_change 122 = .ok (.goto 8, 3) := by decide +kernel
theorem dX8_change_125 : decode cX8_change 125 = .ok (.aload_n 0, 1) := by decide +kernel
theorem dX8_change_126 : decode cX8_change 126 = .ok (.iconst 1, 1) := by decide +kernel
theorem dX8_change_127 : decode cX8_change 127 = .ok (.invokevirtual 90, 3) := by decide +kernel
theorem dX8_change_130 : decode cX8_change 130 = .ok (.ireturn, 1) := by decide +kernel
theorem dX8_become_0 : decode cX8_become 0 = .ok (.aload_n 0, 1) := by decide +kernel
theorem dX8_become_1 : decode cX8_become 1 = .ok (.iload_n 1, 1) := by decide +kernel
theorem dX8_become_2 : decode cX8_become 2 = .ok (.invokevirtual 133, 3) := by decide +kernel
theorem dX8_become_5 : decode cX8_become 5 = .ok (.ifCond .eq 10, 3) := by decide +kernel
theorem dX8_become_8 : decode cX8_become 8 = .ok (.iload_n 2, 1) := by decide +kernel
theorem dX8_become_9 : decode cX8_become 9 = .ok (.invokestatic 123, 3) := by decide +kernel
theorem dX8_become_12 : decode cX8_become 12 = .ok (.ifCond .ne 9, 3) := by decide +kernel
theorem dX8_become_15 : decode cX8_become 15 = .ok (.aload_n 0, 1) := by decide +kernel
theorem dX8_become_16 : decode cX8_become 16 = .ok (.iconst 1, 1) := by decide +kernel
theorem dX8_become_17 : decode cX8_become 17 = .ok (.invokevirtual 90, 3) := by decide +kernel
theorem dX8_become_20 : decode cX8_become 20 = .ok (.ireturn, 1) := by decide +kernel
theorem dX8_become_21 : decode cX8_become 21 = .ok (.aload_n 0, 1) := by decide +kernel
theorem dX8_become_22 : decode cX8_become 22 = .ok (.getfield 10, 3) := by decide +kernel
theorem dX8_become_25 : decode cX8_become 25 = .ok (.getfield 94, 3) := by decide +kernel
theorem dX8_become_28 : decode cX8_become 28 = .ok (.getfield 139, 3) := by decide +kernel
theorem dX8_become_31 : decode cX8_become 31 = .ok (.iload_n 1, 1) := by decide +kernel
theorem dX8_become_32 : decode cX8_become 32 = .ok (.iload_n 2, 1) := by decide +kernel
theorem dX8_become_33 : decode cX8_become 33 = .ok (.bipush 10, 2) := by decide +kernel
theorem dX8_become_35 : decode cX8_become 35 = .ok (.irem, 1) := by decide +kernel
theorem dX8_become_36 : decode cX8_become 36 = .ok (.iastore, 1) := by decide +kernel
theorem dX8_become_37 : decode cX8_become 37 = .ok (.aload_n 0, 1) := by decide +kernel
theorem dX8_become_38 : decode cX8_become 38 = .ok (.getfield 10, 3) := by decide +kernel
theorem dX8_become_41 : decode cX8_become 41 = .ok (.getfield 94, 3) := by decide +kernel
theorem dX8_become_44 : decode cX8_become 44 = .ok (.getfield 136, 3) := by decide +kernel
theorem dX8_become_47 : decode cX8_become 47 = .ok (.iload_n 1, 1) := by decide +kernel
theorem dX8_become_48 : decode cX8_become 48 = .ok (.iload_n 2, 1) := by decide +kernel
theorem dX8_become_49 : decode cX8_become 49 = .ok (.bipush 10, 2) := by decide +kernel
theorem dX8_become_51 : decode cX8_become 51 = .ok (.idiv, 1) := by decide +kernel
theorem dX8_become_52 : decode cX8_become 52 = .ok (.invokestatic 103, 3) := by decide +kernel
theorem dX8_become_55 : decode cX8_become 55 = .ok (.ireturn, 1) := by decide +kernel
theorem dX8_as_0 : decode cX8_as 0 = .ok (.aload_n 0, 1) := by decide +kernel
theorem dX8_as_1 : decode cX8_as 1 = .ok (.iload_n 1, 1) := by decide +kernel
theorem dX8_as_2 : decode cX8_as 2 = .ok (.invokevirtual 133, 3) := by decide +kernel
theorem dX8_as_5 : decode cX8_as 5 = .ok (.ifCond .eq 13, 3) := by decide +kernel
theorem dX8_as_8 : decode cX8_as 8 = .ok (.iload_n 2, 1) := by decide +kernel
theorem dX8_as_9 : decode cX8_as 9 = .ok (.iconst 0, 1) := by decide +kernel
theorem dX8_as_10 : decode cX8_as 10 = .ok (.bipush 6, 2) := by decide +kernel
theorem dX8_as_12 : decode cX8_as 12 = .ok (.invokestatic 86, 3) := by decide +kernel
theorem dX8_as_15 : decode cX8_as 15 = .ok (.ifCond .ne 9, 3) := by decide +kernel
theorem dX8_as_18 : decode cX8_as 18 = .ok (.aload_n 0, 1) := by decide +kernel
theorem dX8_as_19 : decode cX8_as 19 = .ok (.iconst 1, 1) := by decide +kernel
theorem dX8_as_20 : decode cX8_as 20 = .ok (.invokevirtual 90, 3) := by decide +kernel
theorem dX8_as_23 : decode cX8_as 23 = .ok (.ireturn, 1) := by decide +kernel
theorem dX8_as_24 : decode cX8_as 24 = .ok (.aload_n 0, 1) := by decide +kernel
theorem dX8_as_25 : decode cX8_as 25 = .ok (.getfield 10, 3) := by decide +kernel
theorem dX8_as_28 : decode cX8_as 28 = .ok (.getfield 94, 3) := by decide +kernel
theorem dX8_as_31 : decode cX8_as 31 = .ok (.getfield 136, 3) := by decide +kernel
theorem dX8_as_34 : decode cX8_as 34 = .ok (.iload_n 1, 1) := by decide +kernel
theorem dX8_as_35 : decode cX8_as 35 = .ok (.iaload, 1) := by decide +kernel
theorem dX8_as_36 : decode cX8_as 36 = .ok (.iload_n 2, 1) := by decide +kernel
theorem dX8_as_37 : decode cX8_as 37 = .ok (.invokestatic 163, 3) := by decide +kernel
theorem dX8_as_40 : decode cX8_as 40 = .ok (.ifCond .eq 18, 3) := by decide +kernel
theorem dX8_as_43 : decode cX8_as 43 = .ok (.aload_n 0, 1) := by decide +kernel
theorem dX8_as_44 : decode cX8_as 44 = .ok (.getfield 10, 3) := by decide +kernel
theorem dX8_as_47 : decode cX8_as 47 = .ok (.getfield 94, 3) := by decide +kernel
theorem dX8_as_50 : decode cX8_as 50 = .ok (.getfield 139, 3) := by decide +kernel
theorem dX8_as_53 : decode cX8_as 53 = .ok (.iload_n 1, 1) := by decide +kernel
theorem dX8_as_54 : decode cX8_as 54 = .ok (.iaload, 1) := by decide +kernel
theorem dX8_as_55 : decode cX8_as 55 = .ok (.goto 8, 3) := by decide +kernel
theorem dX8_as_58 : decode cX8_as 58 = .ok (.aload_n 0, 1) := by decide +kernel
theorem dX8_as_59 : decode cX8_as 59 = .ok (.iconst 5, 1) := by decide +kernel
theorem dX8_as_60 : decode cX8_as 60 = .ok (.invokevirtual 90, 3) := by decide +kernel
theorem dX8_as_63 : decode cX8_as 63 = .ok (.ireturn, 1) := by decide +kernel
theorem dX8_feed_0 : decode cX8_feed 0 = .ok (.iload_n 3, 1) := by decide +kernel
theorem dX8_feed_1 : decode cX8_feed 1 = .ok (.iconst 1, 1) := by decide +kernel
theorem dX8_feed_2 : decode cX8_feed 2 = .ok (.bipush 8, 2) := by decide +kernel
theorem dX8_feed_4 : decode cX8_feed 4 = .ok (.invokestatic 86, 3) := by decide +kernel
theorem dX8_feed_7 : decode cX8_feed 7 = .ok (.ifCond .ne 9, 3) := by decide +kernel
theorem dX8_feed_10 : decode cX8_feed 10 = .ok (.aload_n 0, 1) := by decide +kernel
theorem dX8_feed_11 : decode cX8_feed 11 = .ok (.iconst 1, 1) := by decide +kernel
theorem dX8_feed_12 : decode cX8_feed 12 = .ok (.invokevirtual 90, 3) := by decide +kernel
theorem dX8_feed_15 : decode cX8_feed 15 = .ok (.ireturn, 1) := by decide +kernel
theorem dX8_feed_16 : decode cX8_feed 16 = .ok (.aload_n 0, 1) := by decide +kernel
theorem dX8_feed_17 : decode cX8_feed 17 = .ok (.getfield 10, 3) := by decide +kernel
theorem dX8_feed_20 : decode cX8_feed 20 = .ok (.getfield 44, 3) := by decide +kernel
theorem dX8_feed_23 : decode cX8_feed 23 = .ok (.getfield 167, 3) := by decide +kernel
theorem dX8_feed_26 : decode cX8_feed 26 = .ok (.iload_n 3, 1) := by decide +kernel
theorem dX8_feed_27 : decode cX8_feed 27 = .ok (.iadd, 1) := by decide +kernel
theorem dX8_feed_28 : decode cX8_feed 28 = .ok (.bipush 50, 2) := by decide +kernel
theorem dX8_feed_30 : decode cX8_feed 30 = .ok (.if_icmp .le 9, 3) := by decide +kernel
theorem dX8_feed_33 : decode cX8_feed 33 = .ok (.aload_n 0, 1) := by decide +kernel
theorem dX8_feed_34 : decode cX8_feed 34 = .ok (.iconst 4, 1) := by decide +kernel
theorem dX8_feed_35 : decode cX8_feed 35 = .ok (.invokevirtual 90, 3) := by decide +kernel
theorem dX8_feed_38 : decode cX8_feed 38 = .ok (.ireturn, 1) := by decide +kernel
theorem dX8_feed_39 : decode cX8_feed 39 = .ok (.iconst 0, 1) := by decide +kernel
theorem dX8_feed_40 : decode cX8_feed 40 = .ok (.istore 4, 2) := by decide +kernel
theorem dX8_feed_42 : decode cX8_feed 42 = .ok (.iload 4, 2) := by decide +kernel
theorem dX8_feed_44 : decode cX8_feed 44 = .ok (.iload_n 3, 1) := by decide +kernel
theorem dX8_feed_45 : decode cX8_feed 45 = .ok (.if_icmp .ge 31, 3) := by decide +kernel
theorem dX8_feed_48 : decode cX8_feed 48 = .ok (.aload_n 0, 1) := by decide +kernel
theorem dX8_feed_49 : decode cX8_feed 49 = .ok (.getfield 10, 3) := by decide +kernel
theorem dX8_feed_52 : decode cX8_feed 52 = .ok (.getfield 44, 3) := by decide +kernel
theorem dX8_feed_55 : decode cX8_feed 55 = .ok (.lload_n 1, 1) := by decide +kernel
theorem dX8_feed_56 : decode cX8_feed 56 = .ok (.bipush 8, 2) := by decide +kernel
theorem dX8_feed_58 : decode cX8_feed 58 = .ok (.iload 4, 2) := by decide +kernel
theorem dX8_feed_60 : decode cX8_feed 60 = .ok (.imul, 1) := by decide +kernel
theorem dX8_feed_61 : decode cX8_feed 61 = .ok (.lushr, 1) := by decide +kernel
theorem dX8_feed_62 : decode cX8_feed 62 = .ok (.l2i, 1) := by decide +kernel
theorem dX8_feed_63 : decode cX8_feed 63 = .ok (.sipush 255, 3) := by decide +kernel
theorem dX8_feed_66 : decode cX8_feed 66 = .ok (.iand, 1) := by decide +kernel
theorem dX8_feed_67 : decode cX8_feed 67 = .ok (.invokevirtual 172, 3) := by decide +kernel
theorem dX8_feed_70 : decode cX8_feed 70 = .ok (.iinc 4 1, 3) := by decide +kernel
theorem dX8_feed_73 : decode cX8_feed 73 = .ok (.goto (-31), 3) := by decide +kernel
theorem dX8_feed_76 : decode cX8_feed 76 = .ok (.aload_n 0, 1) := by decide +kernel
theorem dX8_feed_77 : decode cX8_feed 77 = .ok (.getfield 10, 3) := by decide +kernel
theorem dX8_feed_80 : decode cX8_feed 80 = .ok (.getfield 44, 3) := by decide +kernel
theorem dX8_feed_83 : decode cX8_feed 83 = .ok (.getfield 167, 3) := by decide +kernel
theorem dX8_feed_86 : decode cX8_feed 86 = .ok (.ireturn, 1) := by decide +kernel
theorem dX8_text_0 : decode cX8_text 0 = .ok (.iload_n 1, 1) := by decide +kernel
theorem dX8_text_1 : decode cX8_text 1 = .ok (.iconst 0, 1) := by decide +kernel
theorem dX8_text_2 : decode cX8_text 2 = .ok (.iconst 1, 1) := by decide +kernel
theorem dX8_text_3 : decode cX8_text 3 = .ok (.invokestatic 86, 3) := by decide +kernel
theorem dX8_text_6 : decode cX8_text 6 = .ok (.ifCond .ne 9, 3) := by decide +kernel
theorem dX8_text_9 : decode cX8_text 9 = .ok (.aload_n 0, 1) := by decide +kernel
theorem dX8_text_10 : decode cX8_text 10 = .ok (.iconst 1, 1) := by decide +kernel
theorem dX8_text_11 : decode cX8_text 11 = .ok (.invokevirtual 90, 3) := by decide +kernel
theorem dX8_text_14 : decode cX8_text 14 = .ok (.ireturn, 1) := by decide +kernel
theorem dX8_text_15 : decode cX8_text 15 = .ok (.aload_n 0, 1) := by decide +kernel
theorem dX8_text_16 : decode cX8_text 16 = .ok (.getfield 50, 3) := by decide +kernel
theorem dX8_text_19 : decode cX8_text 19 = .ok (.iload_n 1, 1) := by decide +kernel
theorem dX8_text_20 : decode cX8_text 20 = .ok (.invokevirtual 176, 3) := by decide +kernel
theorem dX8_text_23 : decode cX8_text 23 = .ok (.istore_n 2, 1) := by decide +kernel
theorem dX8_text_24 : decode cX8_text 24 = .ok (.aload_n 0, 1) := by decide +kernel
theorem dX8_text_25 : decode cX8_text 25 = .ok (.getfield 10, 3) := by decide +kernel
theorem dX8_text_28 : decode cX8_text 28 = .ok (.getfield 44, 3) := by decide +kernel
theorem dX8_text_31 : decode cX8_text 31 = .ok (.iconst 0, 1) := by decide +kernel
theorem dX8_text_32 : decode cX8_text 32 = .ok (.putfield 167, 3) := by decide +kernel
theorem dX8_text_35 : decode cX8_text 35 = .ok (.iload_n 2, 1) := by decide +kernel
theorem dX8_text_36 : decode cX8_text 36 = .ok (.ifCond .lt 8, 3) := by decide +kernel
theorem dX8_text_39 : decode cX8_text 39 = .ok (.bipush (-10), 2) := by decide +kernel
theorem dX8_text_41 : decode cX8_text 41 = .ok (.iload_n 2, 1) := by decide +kernel
theorem dX8_text_42 : decode cX8_text 42 = .ok (.isub, 1) := by decide +kernel
theorem dX8_text_43 : decode cX8_text 43 = .ok (.ireturn, 1) := by decide +kernel
theorem dX8_text_44 : decode cX8_text 44 = .ok (.aload_n 0, 1) := by decide +kernel
theorem dX8_text_45 : decode cX8_text 45 = .ok (.getfield 10, 3) := by decide +kernel
theorem dX8_text_48 : decode cX8_text 48 = .ok (.iload_n 1, 1) := by decide +kernel
theorem dX8_text_49 : decode cX8_text 49 = .ok (.invokevirtual 179, 3) := by decide +kernel
theorem dX8_text_52 : decode cX8_text 52 = .ok (.aload_n 0, 1) := by decide +kernel
theorem dX8_text_53 : decode cX8_text 53 = .ok (.getfield 50, 3) := by decide +kernel
theorem dX8_text_56 : decode cX8_text 56 = .ok (.getfield 183, 3) := by decide +kernel
theorem dX8_text_59 : decode cX8_text 59 = .ok (.invokevirtual 186, 3) := by decide +kernel
theorem dX8_text_62 : decode cX8_text 62 = .ok (.aload_n 0, 1) := by decide +kernel
theorem dX8_text_63 : decode cX8_text 63 = .ok (.getfield 38, 3) := by decide +kernel
theorem dX8_text_66 : decode cX8_text 66 = .ok (.invokevirtual 189, 3) := by decide +kernel
theorem dX8_text_69 : decode cX8_text 69 = .ok (.iconst 1, 1) := by decide +kernel
theorem dX8_text_70 : decode cX8_text 70 = .ok (.ireturn, 1) := by decide +kernel
theorem dX8_law_0 : decode cX8_law 0 = .ok (.iload_n 1, 1) := by decide +kernel
theorem dX8_law_1 : decode cX8_law 1 = .ok (.iconst 0, 1) := by decide +kernel
theorem dX8_law_2 : decode cX8_law 2 = .ok (.iconst 1, 1) := by decide +kernel
theorem dX8_law_3 : decode cX8_law 3 = .ok (.invokestatic 86, 3) := by decide +kernel
theorem dX8_law_6 : decode cX8_law 6 = .ok (.ifCond .ne 9, 3) := by decide +kernel
theorem dX8_law_9 : decode cX8_law 9 = .ok (.aload_n 0, 1) := by decide +kernel
theorem dX8_law_10 : decode cX8_law 10 = .ok (.iconst 1, 1) := by decide +kernel
theorem dX8_law_11 : decode cX8_law 11 = .ok (.invokevirtual 90, 3) := by decide +kernel
theorem dX8_law_14 : decode cX8_law 14 = .ok (.ireturn, 1) := by decide +kernel
theorem dX8_law_15 : decode cX8_law 15 = .ok (.aload_n 0, 1) := by decide +kernel
theorem dX8_law_16 : decode cX8_law 16 = .ok (.getfield 38, 3) := by decide +kernel
theorem dX8_law_19 : decode cX8_law 19 = .ok (.iload_n 1, 1) := by decide +kernel
theorem dX8_law_20 : decode cX8_law 20 = .ok (.iload_n 2, 1) := by decide +kernel
theorem dX8_law_21 : decode cX8_law 21 = .ok (.iload_n 3, 1) := by decide +kernel
theorem dX8_law_22 : decode cX8_law 22 = .ok (.iload 4, 2) := by decide +kernel
theorem dX8_law_24 : decode cX8_law 24 = .ok (.invokevirtual 192, 3) := by decide +kernel
theorem dX8_law_27 : decode cX8_law 27 = .ok (.ireturn, 1) := by decide +kernel
theorem dX8_days_0 : decode cX8_days 0 = .ok (.iload_n 1, 1) := by decide +kernel
theorem dX8_days_1 : decode cX8_days 1 = .ok (.iconst 1, 1) := by decide +kernel
theorem dX8_days_2 : decode cX8_days 2 = .ok (.bipush 60, 2) := by decide +kernel
theorem dX8_days_4 : decode cX8_days 4 = .ok (.invokestatic 86, 3) := by decide +kernel
theorem dX8_days_7 : decode cX8_days 7 = .ok (.ifCond .ne 9, 3) := by decide +kernel
theorem dX8_days_10 : decode cX8_days 10 = .ok (.aload_n 0, 1) := by decide +kernel
theorem dX8_days_11 : decode cX8_days 11 = .ok (.iconst 1, 1) := by decide +kernel
theorem dX8_days_12 : decode cX8_days 12 = .ok (.invokevirtual 90, 3) := by decide +kernel
theorem dX8_days_15 : decode cX8_days 15 = .ok (.ireturn, 1) := by decide +kernel
theorem dX8_days_16 : decode cX8_days 16 = .ok (.aload_n 0, 1) := by decide +kernel
theorem dX8_days_17 : decode cX8_days 17 = .ok (.getfield 10, 3) := by decide +kernel
theorem dX8_days_20 : decode cX8_days 20 = .ok (.getfield 94, 3) := by decide +kernel
theorem dX8_days_23 : decode cX8_days 23 = .ok (.getfield 196, 3) := by decide +kernel
theorem dX8_days_26 : decode cX8_days 26 = .ok (.iload_n 1, 1) := by decide +kernel
theorem dX8_days_27 : decode cX8_days 27 = .ok (.iadd, 1) := by decide +kernel
theorem dX8_days_28 : decode cX8_days 28 = .ok (.sipush 9999, 3) := by decide +kernel
theorem dX8_days_31 : decode cX8_days 31 = .ok (.if_icmp .le 9, 3) := by decide +kernel
theorem dX8_days_34 : decode cX8_days 34 = .ok (.aload_n 0, 1) := by decide +kernel
theorem dX8_days_35 : decode cX8_days 35 = .ok (.iconst 3, 1) := by decide +kernel
theorem dX8_days_36 : decode cX8_days 36 = .ok (.invokevirtual 90, 3) := by decide +kernel
theorem dX8_days_39 : decode cX8_days 39 = .ok (.ireturn, 1) := by decide +kernel
theorem dX8_days_40 : decode cX8_days 40 = .ok (.aload_n 0, 1) := by decide +kernel
theorem dX8_days_41 : decode cX8_days 41 = .ok (.getfield 10, 3) := by decide +kernel
theorem dX8_days_44 : decode cX8_days 44 = .ok (.getfield 94, 3) := by decide +kernel
theorem dX8_days_47 : decode cX8_days 47 = .ok (.aload_n 0, 1) := by decide +kernel
theorem dX8_days_48 : decode cX8_days 48 = .ok (.getfield 38, 3) := by decide +kernel
theorem dX8_days_51 : decode cX8_days 51 = .ok (.iload_n 1, 1) := by decide +kernel
theorem dX8_days_52 : decode cX8_days 52 = .ok (.invokevirtual 199, 3) := by decide +kernel
theorem dX8_days_55 : decode cX8_days 55 = .ok (.aload_n 0, 1) := by decide +kernel
theorem dX8_days_56 : decode cX8_days 56 = .ok (.getfield 10, 3) := by decide +kernel
theorem dX8_days_59 : decode cX8_days 59 = .ok (.getfield 94, 3) := by decide +kernel
theorem dX8_days_62 : decode cX8_days 62 = .ok (.getfield 120, 3) := by decide +kernel
theorem dX8_days_65 : decode cX8_days 65 = .ok (.ireturn, 1) := by decide +kernel
theorem dX8_loose_0 : decode cX8_loose 0 = .ok (.iload_n 1, 1) := by decide +kernel
theorem dX8_loose_1 : decode cX8_loose 1 = .ok (.iconst 1, 1) := by decide +kernel
theorem dX8_loose_2 : decode cX8_loose 2 = .ok (.bipush 40, 2) := by decide +kernel
theorem dX8_loose_4 : decode cX8_loose 4 = .ok (.invokestatic 86, 3) := by decide +kernel
theorem dX8_loose_7 : decode cX8_loose 7 = .ok (.ifCond .ne 9, 3) := by decide +kernel
theorem dX8_loose_10 : decode cX8_loose 10 = .ok (.aload_n 0, 1) := by decide +kernel
theorem dX8_loose_11 : decode cX8_loose 11 = .ok (.iconst 1, 1) := by decide +kernel
theorem dX8_loose_12 : decode cX8_loose 12 = .ok (.invokevirtual 90, 3) := by decide +kernel
theorem dX8_loose_15 : decode cX8_loose 15 = .ok (.ireturn, 1) := by decide +kernel
theorem dX8_loose_16 : decode cX8_loose 16 = .ok (.aload_n 0, 1) := by decide +kernel
theorem dX8_loose_17 : decode cX8_loose 17 = .ok (.getfield 10, 3) := by decide +kernel
theorem dX8_loose_20 : decode cX8_loose 20 = .ok (.getfield 94, 3) := by decide +kernel
theorem dX8_loose_23 : decode cX8_loose 23 = .ok (.getfield 196, 3) := by decide +kernel
theorem dX8_loose_26 : decode cX8_loose 26 = .ok (.iload_n 1, 1) := by decide +kernel
theorem dX8_loose_27 : decode cX8_loose 27 = .ok (.iadd, 1) := by decide +kernel
theorem dX8_loose_28 : decode cX8_loose 28 = .ok (.sipush 9999, 3) := by decide +kernel
theorem dX8_loose_31 : decode cX8_loose 31 = .ok (.if_icmp .le 9, 3) := by decide +kernel
theorem dX8_loose_34 : decode cX8_loose 34 = .ok (.aload_n 0, 1) := by decide +kernel
theorem dX8_loose_35 : decode cX8_loose 35 = .ok (.iconst 3, 1) := by decide +kernel
theorem dX8_loose_36 : decode cX8_loose 36 = .ok (.invokevirtual 90, 3) := by decide +kernel
theorem dX8_loose_39 : decode cX8_loose 39 = .ok (.ireturn, 1) := by decide +kernel
theorem dX8_loose_40 : decode cX8_loose 40 = .ok (.iconst 0, 1) := by decide +kernel
theorem dX8_loose_41 : decode cX8_loose 41 = .ok (.istore_n 2, 1) := by decide +kernel
theorem dX8_loose_42 : decode cX8_loose 42 = .ok (.iload_n 2, 1) := by decide +kernel
theorem dX8_loose_43 : decode cX8_loose 43 = .ok (.iload_n 1, 1) := by decide +kernel
theorem dX8_loose_44 : decode cX8_loose 44 = .ok (.if_icmp .ge 57, 3) := by decide +kernel
theorem dX8_loose_47 : decode cX8_loose 47 = .ok (.aload_n 0, 1) := by decide +kernel
theorem dX8_loose_48 : decode cX8_loose 48 = .ok (.getfield 10, 3) := by decide +kernel
theorem dX8_loose_51 : decode cX8_loose 51 = .ok (.invokevirtual 203, 3) := by decide +kernel
theorem dX8_loose_54 : decode cX8_loose 54 = .ok (.bipush 6, 2) := by decide +kernel
theorem dX8_loose_56 : decode cX8_loose 56 = .ok (.irem, 1) := by decide +kernel
theorem dX8_loose_57 : decode cX8_loose 57 = .ok (.istore_n 3, 1) := by decide +kernel
theorem dX8_loose_58 : decode cX8_loose 58 = .ok (.aload_n 0, 1) := by decide +kernel
theorem dX8_loose_59 : decode cX8_loose 59 = .ok (.getfield 10, 3) := by decide +kernel
theorem dX8_loose_62 : decode cX8_loose 62 = .ok (.getfield 94, 3) := by decide +kernel
theorem dX8_loose_65 : decode cX8_loose 65 = .ok (.getfield 113, 3) := by decide +kernel
theorem dX8_loose_68 : decode cX8_loose 68 = .ok (.iload_n 3, 1) := by decide +kernel
theorem dX8_loose_69 : decode cX8_loose 69 = .ok (.aload_n 0, 1) := by decide +kernel
theorem dX8_loose_70 : decode cX8_loose 70 = .ok (.getfield 10, 3) := by decide +kernel
theorem dX8_loose_73 : decode cX8_loose 73 = .ok (.invokevirtual 203, 3) := by decide +kernel
theorem dX8_loose_76 : decode cX8_loose 76 = .ok (.bipush 16, 2) := by decide +kernel
theorem dX8_loose_78 : decode cX8_loose 78 = .ok (.irem, 1) := by decide +kernel
theorem dX8_loose_79 : decode cX8_loose 79 = .ok (.iastore, 1) := by decide +kernel
theorem dX8_loose_80 : decode cX8_loose 80 = .ok (.aload_n 0, 1) := by decide +kernel
theorem dX8_loose_81 : decode cX8_loose 81 = .ok (.getfield 10, 3) := by decide +kernel
theorem dX8_loose_84 : decode cX8_loose 84 = .ok (.getfield 94, 3) := by decide +kernel
theorem dX8_loose_87 : decode cX8_loose 87 = .ok (.aload_n 0, 1) := by decide +kernel
theorem dX8_loose_88 : decode cX8_loose 88 = .ok (.getfield 38, 3) := by decide +kernel
theorem dX8_loose_91 : decode cX8_loose 91 = .ok (.iconst 1, 1) := by decide +kernel
theorem dX8_loose_92 : decode cX8_loose 92 = .ok (.invokevirtual 199, 3) := by decide +kernel
theorem dX8_loose_95 : decode cX8_loose 95 = .ok (.iinc 2 1, 3) := by decide +kernel
theorem dX8_loose_98 : decode cX8_loose 98 = .ok (.goto (-56), 3) := by decide +kernel
theorem dX8_loose_101 : decode cX8_loose 101 = .ok (.aload_n 0, 1) := by decide +kernel
theorem dX8_loose_102 : decode cX8_loose 102 = .ok (.getfield 10, 3) := by decide +kernel
theorem dX8_loose_105 : decode cX8_loose 105 = .ok (.getfield 94, 3) := by decide +kernel
theorem dX8_loose_108 : decode cX8_loose 108 = .ok (.getfield 120, 3) := by decide +kernel
theorem dX8_loose_111 : decode cX8_loose 111 = .ok (.ireturn, 1) := by decide +kernel
theorem dX8_then_0 : decode cX8_then 0 = .ok (.iload_n 1, 1) := by decide +kernel
theorem dX8_then_1 : decode cX8_then 1 = .ok (.invokestatic 207, 3) := by decide +kernel
theorem dX8_then_4 : decode cX8_then 4 = .ok (.ifCond .eq 20, 3) := by decide +kernel
theorem dX8_then_7 : decode cX8_then 7 = .ok (.aload_n 0, 1) := by decide +kernel
theorem dX8_then_8 : decode cX8_then 8 = .ok (.iload_n 2, 1) := by decide +kernel
theorem dX8_then_9 : decode cX8_then 9 = .ok (.invokevirtual 133, 3) := by decide +kernel
theorem dX8_then_12 : decode cX8_then 12 = .ok (.ifCond .eq 12, 3) := by decide +kernel
theorem dX8_then_15 : decode cX8_then 15 = .ok (.iload_n 3, 1) := by decide +kernel
theorem dX8_then_16 : decode cX8_then 16 = .ok (.iconst 0, 1) := by decide +kernel
theorem dX8_then_17 : decode cX8_then 17 = .ok (.iconst 1, 1) := by decide +kernel
theorem dX8_then_18 : decode cX8_then 18 = .ok (.invokestatic 86, 3) := by decide +kernel
theorem dX8_then_21 : decode cX8_then 21 = .ok (.ifCond .ne 9, 3) := by decide +kernel
theorem dX8_then_24 : decode cX8_then 24 = .ok (.aload_n 0, 1) := by decide +kernel
theorem dX8_then_25 : decode cX8_then 25 = .ok (.iconst 1, 1) := by decide +kernel
theorem dX8_then_26 : decode cX8_then 26 = .ok (.invokevirtual 90, 3) := by decide +kernel
theorem dX8_then_29 : decode cX8_then 29 = .ok (.ireturn, 1) := by decide +kernel
theorem dX8_then_30 : decode cX8_then 30 = .ok (.aload_n 0, 1) := by decide +kernel
theorem dX8_then_31 : decode cX8_then 31 = .ok (.invokevirtual 210, 3) := by decide +kernel
theorem dX8_then_34 : decode cX8_then 34 = .ok (.aload_n 0, 1) := by decide +kernel
theorem dX8_then_35 : decode cX8_then 35 = .ok (.getfield 22, 3) := by decide +kernel
theorem dX8_then_38 : decode cX8_then 38 = .ok (.aload_n 0, 1) := by decide +kernel
theorem dX8_then_39 : decode cX8_then 39 = .ok (.getfield 38, 3) := by decide +kernel
theorem dX8_then_42 : decode cX8_then 42 = .ok (.iload_n 1, 1) := by decide +kernel
theorem dX8_then_43 : decode cX8_then 43 = .ok (.invokevirtual 199, 3) := by decide +kernel
theorem dX8_then_46 : decode cX8_then 46 = .ok (.iload_n 3, 1) := by decide +kernel
theorem dX8_then_47 : decode cX8_then 47 = .ok (.ifCond .ne 15, 3) := by decide +kernel
theorem dX8_then_50 : decode cX8_then 50 = .ok (.aload_n 0, 1) := by decide +kernel
theorem dX8_then_51 : decode cX8_then 51 = .ok (.getfield 22, 3) := by decide +kernel
theorem dX8_then_54 : decode cX8_then 54 = .ok (.getfield 142, 3) := by decide +kernel
theorem dX8_then_57 : decode cX8_then 57 = .ok (.iload_n 2, 1) := by decide +kernel
theorem dX8_then_58 : decode cX8_then 58 = .ok (.iaload, 1) := by decide +kernel
theorem dX8_then_59 : decode cX8_then 59 = .ok (.goto 12, 3) := by decide +kernel
theorem dX8_then_62 : decode cX8_then 62 = .ok (.aload_n 0, 1) := by decide +kernel
theorem dX8_then_63 : decode cX8_then 63 = .ok (.getfield 22, 3) := by decide +kernel
theorem dX8_then_66 : decode cX8_then 66 = .ok (.getfield 148, 3) := by decide +kernel
theorem dX8_then_69 : decode cX8_then 69 = .ok (.iload_n 2, 1) := by decide +kernel
theorem dX8_then_70 : decode cX8_then 70 = .ok (.iaload, 1) := by decide +kernel
theorem dX8_then_71 : decode cX8_then 71 = .ok (.ireturn, 1) := by decide +kernel
theorem dX8_out_0 : decode cX8_out 0 = .ok (.aload_n 0, 1) := by decide +kernel
theorem dX8_out_1 : decode cX8_out 1 = .ok (.iload_n 1, 1) := by decide +kernel
theorem dX8_out_2 : decode cX8_out 2 = .ok (.invokevirtual 133, 3) := by decide +kernel
theorem dX8_out_5 : decode cX8_out 5 = .ok (.ifCond .eq 10, 3) := by decide +kernel
theorem dX8_out_8 : decode cX8_out 8 = .ok (.iload_n 2, 1) := by decide +kernel
theorem dX8_out_9 : decode cX8_out 9 = .ok (.invokestatic 158, 3) := by decide +kernel
theorem dX8_out_12 : decode cX8_out 12 = .ok (.ifCond .ne 9, 3) := by decide +kernel
theorem dX8_out_15 : decode cX8_out 15 = .ok (.aload_n 0, 1) := by decide +kernel
theorem dX8_out_16 : decode cX8_out 16 = .ok (.iconst 1, 1) := by decide +kernel
theorem dX8_out_17 : decode cX8_out 17 = .ok (.invokevirtual 90, 3) := by decide +kernel
theorem dX8_out_20 : decode cX8_out 20 = .ok (.ireturn, 1) := by decide +kernel
theorem dX8_out_21 : decode cX8_out 21 = .ok (.aload_n 0, 1) := by decide +kernel
theorem dX8_out_22 : decode cX8_out 22 = .ok (.invokevirtual 210, 3) := by decide +kernel
theorem dX8_out_25 : decode cX8_out 25 = .ok (.iconst 0, 1) := by decide +kernel
theorem dX8_out_26 : decode cX8_out 26 = .ok (.istore_n 3, 1) := by decide +kernel
theorem dX8_out_27 : decode cX8_out 27 = .ok (.iload_n 3, 1) := by decide +kernel
theorem dX8_out_28 : decode cX8_out 28 = .ok (.bipush 60, 2) := by decide +kernel
theorem dX8_out_30 : decode cX8_out 30 = .ok (.if_icmp .gt 36, 3) := by decide +kernel
theorem dX8_out_33 : decode cX8_out 33 = .ok (.aload_n 0, 1) := by decide +kernel
theorem dX8_out_34 : decode cX8_out 34 = .ok (.getfield 22, 3) := by decide +kernel
theorem dX8_out_37 : decode cX8_out 37 = .ok (.getfield 148, 3) := by decide +kernel
theorem dX8_out_40 : decode cX8_out 40 = .ok (.iload_n 1, 1) := by decide +kernel
theorem dX8_out_41 : decode cX8_out 41 = .ok (.iaload, 1) := by decide +kernel
theorem dX8_out_42 : decode cX8_out 42 = .ok (.iload_n 2, 1) := by decide +kernel
theorem dX8_out_43 : decode cX8_out 43 = .ok (.if_icmp .lt 5, 3) := by decide +kernel
theorem dX8_out_46 : decode cX8_out 46 = .ok (.iload_n 3, 1) := by decide +kernel
theorem dX8_out_47 : decode cX8_out 47 = .ok (.ireturn, 1) := by decide +kernel
theorem dX8_out_48 : decode cX8_out 48 = .ok (.aload_n 0, 1) := by decide +kernel
theorem dX8_out_49 : decode cX8_out 49 = .ok (.getfield 22, 3) := by decide +kernel
theorem dX8_out_52 : decode cX8_out 52 = .ok (.aload_n 0, 1) := by decide +kernel
theorem dX8_out_53 : decode cX8_out 53 = .ok (.getfield 38, 3) := by decide +kernel
theorem dX8_out_56 : decode cX8_out 56 = .ok (.iconst 1, 1) := by decide +kernel
theorem dX8_out_57 : decode cX8_out 57 = .ok (.invokevirtual 199, 3) := by decide +kernel
theorem dX8_out_60 : decode cX8_out 60 = .ok (.iinc 3 1, 3) := by decide +kernel
theorem dX8_out_63 : decode cX8_out 63 = .ok (.goto (-36), 3) := by decide +kernel
theorem dX8_out_66 : decode cX8_out 66 = .ok (.aload_n 0, 1) := by decide +kernel
theorem dX8_out_67 : decode cX8_out 67 = .ok (.iconst 2, 1) := by decide +kernel
theorem dX8_out_68 : decode cX8_out 68 = .ok (.invokevirtual 90, 3) := by decide +kernel
theorem dX8_out_71 : decode cX8_out 71 = .ok (.ireturn, 1) := by decide +kernel
theorem dX8_first_0 : decode cX8_first 0 = .ok (.iload_n 1, 1) := by decide +kernel
theorem dX8_first_1 : decode cX8_first 1 = .ok (.iconst 0, 1) := by decide +kernel
theorem dX8_first_2 : decode cX8_first 2 = .ok (.iconst 1, 1) := by decide +kernel
theorem dX8_first_3 : decode cX8_first 3 = .ok (.invokestatic 86, 3) := by decide +kernel
theorem dX8_first_6 : decode cX8_first 6 = .ok (.ifCond .ne 9, 3) := by decide +kernel
theorem dX8_first_9 : decode cX8_first 9 = .ok (.aload_n 0, 1) := by decide +kernel
theorem dX8_first_10 : decode cX8_first 10 = .ok (.iconst 1, 1) := by decide +kernel
theorem dX8_first_11 : decode cX8_first 11 = .ok (.invokevirtual 90, 3) := by decide +kernel
theorem dX8_first_14 : decode cX8_first 14 = .ok (.ireturn, 1) := by decide +kernel
theorem dX8_first_15 : decode cX8_first 15 = .ok (.aload_n 0, 1) := by decide +kernel
theorem dX8_first_16 : decode cX8_first 16 = .ok (.invokevirtual 210, 3) := by decide +kernel
theorem dX8_first_19 : decode cX8_first 19 = .ok (.iconst 0, 1) := by decide +kernel
theorem dX8_first_20 : decode cX8_first 20 = .ok (.istore_n 2, 1) := by decide +kernel
theorem dX8_first_21 : decode cX8_first 21 = .ok (.iload_n 2, 1) := by decide +kernel
theorem dX8_first_22 : decode cX8_first 22 = .ok (.bipush 60, 2) := by decide +kernel
theorem dX8_first_24 : decode cX8_first 24 = .ok (.if_icmp .gt 47, 3) := by decide +kernel
theorem dX8_first_27 : decode cX8_first 27 = .ok (.aload_n 0, 1) := by decide +kernel
theorem dX8_first_28 : decode cX8_first 28 = .ok (.getfield 22, 3) := by decide +kernel
theorem dX8_first_31 : decode cX8_first 31 = .ok (.aload_n 0, 1) := by decide +kernel
theorem dX8_first_32 : decode cX8_first 32 = .ok (.getfield 38, 3) := by decide +kernel
theorem dX8_first_35 : decode cX8_first 35 = .ok (.invokevirtual 213, 3) := by decide +kernel
theorem dX8_first_38 : decode cX8_first 38 = .ok (.istore_n 3, 1) := by decide +kernel
theorem dX8_first_39 : decode cX8_first 39 = .ok (.iload_n 3, 1) := by decide +kernel
theorem dX8_first_40 : decode cX8_first 40 = .ok (.ifCond .lt 13, 3) := by decide +kernel
theorem dX8_first_43 : decode cX8_first 43 = .ok (.iload_n 1, 1) := by decide +kernel
theorem dX8_first_44 : decode cX8_first 44 = .ok (.ifCond .ne 7, 3) := by decide +kernel
theorem dX8_first_47 : decode cX8_first 47 = .ok (.iload_n 2, 1) := by decide +kernel
theorem dX8_first_48 : decode cX8_first 48 = .ok (.goto 4, 3) := by decide +kernel
theorem dX8_first_51 : decode cX8_first 51 = .ok (.iload_n 3, 1) := by decide +kernel
theorem dX8_first_52 : decode cX8_first 52 = .ok (.ireturn, 1) := by decide +kernel
theorem dX8_first_53 : decode cX8_first 53 = .ok (.aload_n 0, 1) := by decide +kernel
theorem dX8_first_54 : decode cX8_first 54 = .ok (.getfield 22, 3) := by decide +kernel
theorem dX8_first_57 : decode cX8_first 57 = .ok (.aload_n 0, 1) := by decide +kernel
theorem dX8_first_58 : decode cX8_first 58 = .ok (.getfield 38, 3) := by decide +kernel
theorem dX8_first_61 : decode cX8_first 61 = .ok (.iconst 1, 1) := by decide +kernel
theorem dX8_first_62 : decode cX8_first 62 = .ok (.invokevirtual 199, 3) := by decide +kernel
theorem dX8_first_65 : decode cX8_first 65 = .ok (.iinc 2 1, 3) := by decide +kernel
theorem dX8_first_68 : decode cX8_first 68 = .ok (.goto (-47), 3) := by decide +kernel
theorem dX8_first_71 : decode cX8_first 71 = .ok (.aload_n 0, 1) := by decide +kernel
theorem dX8_first_72 : decode cX8_first 72 = .ok (.iconst 2, 1) := by decide +kernel
theorem dX8_first_73 : decode cX8_first 73 = .ok (.invokevirtual 90, 3) := by decide +kernel
theorem dX8_first_76 : decode cX8_first 76 = .ok (.ireturn, 1) := by decide +kernel
theorem dX8_roomFor_0 : decode cX8_roomFor 0 = .ok (.aload_n 0, 1) := by decide +kernel
theorem dX8_roomFor_1 : decode cX8_roomFor 1 = .ok (.iload_n 1, 1) := by decide +kernel
theorem dX8_roomFor_2 : decode cX8_roomFor 2 = .ok (.invokevirtual 133, 3) := by decide +kernel
theorem dX8_roomFor_5 : decode cX8_roomFor 5 = .ok (.ifCond .eq 20, 3) := by decide +kernel
theorem dX8_roomFor_8 : decode cX8_roomFor 8 = .ok (.iload_n 2, 1) := by decide +kernel
theorem dX8_roomFor_9 : decode cX8_roomFor 9 = .ok (.invokestatic 158, 3) := by decide +kernel
theorem dX8_roomFor_12 : decode cX8_roomFor 12 = .ok (.ifCond .eq 13, 3) := by decide +kernel
theorem dX8_roomFor_15 : decode cX8_roomFor 15 = .ok (.iload_n 3, 1) := by decide +kernel
theorem dX8_roomFor_16 : decode cX8_roomFor 16 = .ok (.iconst 0, 1) := by decide +kernel
theorem dX8_roomFor_17 : decode cX8_roomFor 17 = .ok (.bipush 30, 2) := by decide +kernel
theorem dX8_roomFor_19 : decode cX8_roomFor 19 = .ok (.invokestatic 86, 3) := by decide +kernel
theorem dX8_roomFor_22 : decode cX8_roomFor 22 = .ok (.ifCond .ne 9, 3) := by decide +kernel
theorem dX8_roomFor_25 : decode cX8_roomFor 25 = .ok (.aload_n 0, 1) := by decide +kernel
theorem dX8_roomFor_26 : decode cX8_roomFor 26 = .ok (.iconst 1, 1) := by decide +kernel
theorem dX8_roomFor_27 : decode cX8_roomFor 27 = .ok (.invokevirtual 90, 3) := by decide +kernel
theorem dX8_roomFor_30 : decode cX8_roomFor 30 = .ok (.ireturn, 1) := by decide +kernel
theorem dX8_roomFor_31 : decode cX8_roomFor 31 = .ok (.iconst 0, 1) := by decide +kernel
theorem dX8_roomFor_32 : decode cX8_roomFor 32 = .ok (.istore 4, 2) := by decide +kernel
theorem dX8_roomFor_34 : decode cX8_roomFor 34 = .ok (.iload 4, 2) := by decide +kernel
theorem dX8_roomFor_36 : decode cX8_roomFor 36 = .ok (.bipush 40, 2) := by decide +kernel
theorem dX8_roomFor_38 : decode cX8_roomFor 38 = .ok (.if_icmp .gt 50, 3) := by decide +kernel
theorem dX8_roomFor_41 : decode cX8_roomFor 41 = .ok (.aload_n 0, 1) := by decide +kernel
theorem dX8_roomFor_42 : decode cX8_roomFor 42 = .ok (.invokevirtual 210, 3) := by decide +kernel
theorem dX8_roomFor_45 : decode cX8_roomFor 45 = .ok (.aload_n 0, 1) := by decide +kernel
theorem dX8_roomFor_46 : decode cX8_roomFor 46 = .ok (.getfield 22, 3) := by decide +kernel
theorem dX8_roomFor_49 : decode cX8_roomFor 49 = .ok (.iload 4, 2) := by decide +kernel
theorem dX8_roomFor_51 : decode cX8_roomFor 51 = .ok (.putfield 117, 3) := by decide +kernel
theorem dX8_roomFor_54 : decode cX8_roomFor 54 = .ok (.aload_n 0, 1) := by decide +kernel
theorem dX8_roomFor_55 : decode cX8_roomFor 55 = .ok (.getfield 22, 3) := by decide +kernel
theorem dX8_roomFor_58 : decode cX8_roomFor 58 = .ok (.aload_n 0, 1) := by decide +kernel
theorem dX8_roomFor_59 : decode cX8_roomFor 59 = .ok (.getfield 38, 3) := by decide +kernel
theorem dX8_roomFor_62 : decode cX8_roomFor 62 = .ok (.iload_n 3, 1) := by decide +kernel
theorem dX8_roomFor_63 : decode cX8_roomFor 63 = .ok (.invokevirtual 199, 3) := by decide +kernel
theorem dX8_roomFor_66 : decode cX8_roomFor 66 = .ok (.aload_n 0, 1) := by decide +kernel
theorem dX8_roomFor_67 : decode cX8_roomFor 67 = .ok (.getfield 22, 3) := by decide +kernel
theorem dX8_roomFor_70 : decode cX8_roomFor 70 = .ok (.getfield 148, 3) := by decide +kernel
theorem dX8_roomFor_73 : decode cX8_roomFor 73 = .ok (.iload_n 1, 1) := by decide +kernel
theorem dX8_roomFor_74 : decode cX8_roomFor 74 = .ok (.iaload, 1) := by decide +kernel
theorem dX8_roomFor_75 : decode cX8_roomFor 75 = .ok (.iload_n 2, 1) := by decide +kernel
theorem dX8_roomFor_76 : decode cX8_roomFor 76 = .ok (.if_icmp .lt 6, 3) := by decide +kernel
theorem dX8_roomFor_79 : decode cX8_roomFor 79 = .ok (.iload 4, 2) := by decide +kernel
theorem dX8_roomFor_81 : decode cX8_roomFor 81 = .ok (.ireturn, 1) := by decide +kernel
theorem dX8_roomFor_82 : decode cX8_roomFor 82 = .ok (.iinc 4 1, 3) := by decide +kernel
theorem dX8_roomFor_85 : decode cX8_roomFor 85 = .ok (.goto (-51), 3) := by decide +kernel
theorem dX8_roomFor_88 : decode cX8_roomFor 88 = .ok (.aload_n 0, 1) := by decide +kernel
theorem dX8_roomFor_89 : decode cX8_roomFor 89 = .ok (.iconst 2, 1) := by decide +kernel
theorem dX8_roomFor_90 : decode cX8_roomFor 90 = .ok (.invokevirtual 90, 3) := by decide +kernel
theorem dX8_roomFor_93 : decode cX8_roomFor 93 = .ok (.ireturn, 1) := by decide +kernel
theorem dX8_best_0 : decode cX8_best 0 = .ok (.iload_n 1, 1) := by decide +kernel
theorem dX8_best_1 : decode cX8_best 1 = .ok (.invokestatic 110, 3) := by decide +kernel
theorem dX8_best_4 : decode cX8_best 4 = .ok (.ifCond .eq 22, 3) := by decide +kernel
theorem dX8_best_7 : decode cX8_best 7 = .ok (.iload_n 2, 1) := by decide +kernel
theorem dX8_best_8 : decode cX8_best 8 = .ok (.iconst 0, 1) := by decide +kernel
theorem dX8_best_9 : decode cX8_best 9 = .ok (.bipush 20, 2) := by decide +kernel
theorem dX8_best_11 : decode cX8_best 11 = .ok (.invokestatic 86, 3) := by decide +kernel
theorem dX8_best_14 : decode cX8_best 14 = .ok (.ifCond .eq 12, 3) := by decide +kernel
theorem dX8_best_17 : decode cX8_best 17 = .ok (.iload_n 3, 1) := by decide +kernel
theorem dX8_best_18 : decode cX8_best 18 = .ok (.iconst 0, 1) := by decide +kernel
theorem dX8_best_19 : decode cX8_best 19 = .ok (.iconst 1, 1) := by decide +kernel
theorem dX8_best_20 : decode cX8_best 20 = .ok (.invokestatic 86, 3) := by decide +kernel
theorem dX8_best_23 : decode cX8_best 23 = .ok (.ifCond .ne 9, 3) := by decide +kernel
theorem dX8_best_26 : decode cX8_best 26 = .ok (.aload_n 0, 1) := by decide +kernel
theorem dX8_best_27 : decode cX8_best 27 = .ok (.iconst 1, 1) := by decide +kernel
theorem dX8_best_28 : decode cX8_best 28 = .ok (.invokevirtual 90, 3) := by decide +kernel
theorem dX8_best_31 : decode cX8_best 31 = .ok (.ireturn, 1) := by decide +kernel
theorem dX8_best_32 : decode cX8_best 32 = .ok (.iconst (-1), 1) := by decide +kernel
theorem dX8_best_33 : decode cX8_best 33 = .ok (.istore 4, 2) := by decide +kernel
theorem dX8_best_35 : decode cX8_best 35 = .ok (.iconst (-1), 1) := by decide +kernel
theorem dX8_best_36 : decode cX8_best 36 = .ok (.istore 5, 2) := by decide +kernel
theorem dX8_best_38 : decode cX8_best 38 = .ok (.iconst 0, 1) := by decide +kernel
theorem dX8_best_39 : decode cX8_best 39 = .ok (.istore 6, 2) := by decide +kernel
theorem dX8_best_41 : decode cX8_best 41 = .ok (.iload 6, 2) := by decide +kernel
theorem dX8_best_43 : decode cX8_best 43 = .ok (.bipush 16, 2) := by decide +kernel
theorem dX8_best_45 : decode cX8_best 45 = .ok (.if_icmp .ge 60, 3) := by decide +kernel
theorem dX8_best_48 : decode cX8_best 48 = .ok (.aload_n 0, 1) := by decide +kernel
theorem dX8_best_49 : decode cX8_best 49 = .ok (.invokevirtual 210, 3) := by decide +kernel
theorem dX8_best_52 : decode cX8_best 52 = .ok (.aload_n 0, 1) := by decide +kernel
theorem dX8_best_53 : decode cX8_best 53 = .ok (.getfield 22, 3) := by decide +kernel
theorem dX8_best_56 : decode cX8_best 56 = .ok (.getfield 113, 3) := by decide +kernel
theorem dX8_best_59 : decode cX8_best 59 = .ok (.iload_n 1, 1) := by decide +kernel
theorem dX8_best_60 : decode cX8_best 60 = .ok (.iload 6, 2) := by decide +kernel
theorem dX8_best_62 : decode cX8_best 62 = .ok (.iastore, 1) := by decide +kernel
theorem dX8_best_63 : decode cX8_best 63 = .ok (.aload_n 0, 1) := by decide +kernel
theorem dX8_best_64 : decode cX8_best 64 = .ok (.getfield 22, 3) := by decide +kernel
theorem dX8_best_67 : decode cX8_best 67 = .ok (.aload_n 0, 1) := by decide +kernel
theorem dX8_best_68 : decode cX8_best 68 = .ok (.getfield 38, 3) := by decide +kernel
theorem dX8_best_71 : decode cX8_best 71 = .ok (.iload_n 2, 1) := by decide +kernel
theorem dX8_best_72 : decode cX8_best 72 = .ok (.invokevirtual 199, 3) := by decide +kernel
theorem dX8_best_75 : decode cX8_best 75 = .ok (.aload_n 0, 1) := by decide +kernel
theorem dX8_best_76 : decode cX8_best 76 = .ok (.getfield 22, 3) := by decide +kernel
theorem dX8_best_79 : decode cX8_best 79 = .ok (.invokevirtual 217, 3) := by decide +kernel
theorem dX8_best_82 : decode cX8_best 82 = .ok (.istore 7, 2) := by decide +kernel
theorem dX8_best_84 : decode cX8_best 84 = .ok (.iload 7, 2) := by decide +kernel
theorem dX8_best_86 : decode cX8_best 86 = .ok (.iload 5, 2) := by decide +kernel
theorem dX8_best_88 : decode cX8_best 88 = .ok (.if_icmp .le 11, 3) := by decide +kernel
theorem dX8_best_91 : decode cX8_best 91 = .ok (.iload 7, 2) := by decide +kernel
theorem dX8_best_93 : decode cX8_best 93 = .ok (.istore 5, 2) := by decide +kernel
theorem dX8_best_95 : decode cX8_best 95 = .ok (.iload 6, 2) := by decide +kernel
theorem dX8_best_97 : decode cX8_best 97 = .ok (.istore 4, 2) := by decide +kernel
theorem dX8_best_99 : decode cX8_best 99 = .ok (.iinc 6 1, 3) := by decide +kernel
theorem dX8_best_102 : decode cX8_best 102 = .ok (.goto (-61), 3) := by decide +kernel
theorem dX8_best_105 : decode cX8_best 105 = .ok (.iload_n 3, 1) := by decide +kernel
theorem dX8_best_106 : decode cX8_best 106 = .ok (.ifCond .ne 8, 3) := by decide +kernel
theorem dX8_best_109 : decode cX8_best 109 = .ok (.iload 4, 2) := by decide +kernel
theorem dX8_best_111 : decode cX8_best 111 = .ok (.goto 5, 3) := by decide +kernel
theorem dX8_best_114 : decode cX8_best 114 = .ok (.iload 5, 2) := by decide +kernel
theorem dX8_best_116 : decode cX8_best 116 = .ok (.ireturn, 1) := by decide +kernel
theorem dX8_swap_0 : decode cX8_swap 0 = .ok (.iload_n 1, 1) := by decide +kernel
theorem dX8_swap_1 : decode cX8_swap 1 = .ok (.iconst 0, 1) := by decide +kernel
theorem dX8_swap_2 : decode cX8_swap 2 = .ok (.bipush 20, 2) := by decide +kernel
theorem dX8_swap_4 : decode cX8_swap 4 = .ok (.invokestatic 86, 3) := by decide +kernel
theorem dX8_swap_7 : decode cX8_swap 7 = .ok (.ifCond .ne 9, 3) := by decide +kernel
theorem dX8_swap_10 : decode cX8_swap 10 = .ok (.aload_n 0, 1) := by decide +kernel
theorem dX8_swap_11 : decode cX8_swap 11 = .ok (.iconst 1, 1) := by decide +kernel
theorem dX8_swap_12 : decode cX8_swap 12 = .ok (.invokevirtual 90, 3) := by decide +kernel
theorem dX8_swap_15 : decode cX8_swap 15 = .ok (.ireturn, 1) := by decide +kernel
theorem dX8_swap_16 : decode cX8_swap 16 = .ok (.aload_n 0, 1) := by decide +kernel
theorem dX8_swap_17 : decode cX8_swap 17 = .ok (.invokevirtual 210, 3) := by decide +kernel
theorem dX8_swap_20 : decode cX8_swap 20 = .ok (.aload_n 0, 1) := by decide +kernel
theorem dX8_swap_21 : decode cX8_swap 21 = .ok (.getfield 22, 3) := by decide +kernel
theorem dX8_swap_24 : decode cX8_swap 24 = .ok (.aload_n 0, 1) := by decide +kernel
theorem dX8_swap_25 : decode cX8_swap 25 = .ok (.getfield 38, 3) := by decide +kernel
theorem dX8_swap_28 : decode cX8_swap 28 = .ok (.iload_n 1, 1) := by decide +kernel
theorem dX8_swap_29 : decode cX8_swap 29 = .ok (.invokevirtual 199, 3) := by decide +kernel
theorem dX8_swap_32 : decode cX8_swap 32 = .ok (.aload_n 0, 1) := by decide +kernel
theorem dX8_swap_33 : decode cX8_swap 33 = .ok (.getfield 22, 3) := by decide +kernel
theorem dX8_swap_36 : decode cX8_swap 36 = .ok (.invokevirtual 217, 3) := by decide +kernel
theorem dX8_swap_39 : decode cX8_swap 39 = .ok (.istore_n 2, 1) := by decide +kernel
theorem dX8_swap_40 : decode cX8_swap 40 = .ok (.iconst (-1), 1) := by decide +kernel
theorem dX8_swap_41 : decode cX8_swap 41 = .ok (.istore_n 3, 1) := by decide +kernel
theorem dX8_swap_42 : decode cX8_swap 42 = .ok (.iconst 0, 1) := by decide +kernel
theorem dX8_swap_43 : decode cX8_swap 43 = .ok (.istore 4, 2) := by decide +kernel
theorem dX8_swap_45 : decode cX8_swap 45 = .ok (.iload 4, 2) := by decide +kernel
theorem dX8_swap_47 : decode cX8_swap 47 = .ok (.bipush 6, 2) := by decide +kernel
theorem dX8_swap_49 : decode cX8_swap 49 = .ok (.if_icmp .ge 118, 3) := by decide +kernel
theorem dX8_swap_52 : decode cX8_swap 52 = .ok (.iload 4, 2) := by decide +kernel
theorem dX8_swap_54 : decode cX8_swap 54 = .ok (.iconst 1, 1) := by decide +kernel
theorem dX8_swap_55 : decode cX8_swap 55 = .ok (.iadd, 1) := by decide +kernel
theorem dX8_swap_56 : decode cX8_swap 56 = .ok (.istore 5, 2) := by decide +kernel
theorem dX8_swap_58 : decode cX8_swap 58 = .ok (.iload 5, 2) := by decide +kernel
theorem dX8_swap_60 : decode cX8_swap 60 = .ok (.bipush 6, 2) := by decide +kernel
theorem dX8_swap_62 : decode cX8_swap 62 = .ok (.if_icmp .ge 99, 3) := by decide +kernel
theorem dX8_swap_65 : decode cX8_swap 65 = .ok (.aload_n 0, 1) := by decide +kernel
theorem dX8_swap_66 : decode cX8_swap 66 = .ok (.invokevirtual 210, 3) := by decide +kernel
theorem dX8_swap_69 : decode cX8_swap 69 = .ok (.aload_n 0, 1) := by decide +kernel
theorem dX8_swap_70 : decode cX8_swap 70 = .ok (.getfield 22, 3) := by decide +kernel
theorem dX8_swap_73 : decode cX8_swap 73 = .ok (.getfield 113, 3) := by decide +kernel
theorem dX8_swap_76 : decode cX8_swap 76 = .ok (.iload 4, 2) := by decide +kernel
theorem dX8_swap_78 : decode cX8_swap 78 = .ok (.aload_n 0, 1) := by decide +kernel
theorem dX8_swap_79 : decode cX8_swap 79 = .ok (.getfield 10, 3) := by decide +kernel
theorem dX8_swap_82 : decode cX8_swap 82 = .ok (.getfield 94, 3) := by decide +kernel
theorem dX8_swap_85 : decode cX8_swap 85 = .ok (.getfield 113, 3) := by decide +kernel
theorem dX8_swap_88 : decode cX8_swap 88 = .ok (.iload 5, 2) := by decide +kernel
theorem dX8_swap_90 : decode cX8_swap 90 = .ok (.iaload, 1) := by decide +kernel
theorem dX8_swap_91 : decode cX8_swap 91 = .ok (.iastore, 1) := by decide +kernel
theorem dX8_swap_92 : decode cX8_swap 92 = .ok (.aload_n 0, 1) := by decide +kernel
theorem dX8_swap_93 : decode cX8_swap 93 = .ok (.getfield 22, 3) := by decide +kernel
theorem dX8_swap_96 : decode cX8_swap 96 = .ok (.getfield 113, 3) := by decide +kernel
theorem dX8_swap_99 : decode cX8_swap 99 = .ok (.iload 5, 2) := by decide +kernel
theorem dX8_swap_101 : decode cX8_swap 101 = .ok (.aload_n 0, 1) := by decide +kernel
theorem dX8_swap_102 : decode cX8_swap 102 = .ok (.getfield 10, 3) := by decide +kernel
theorem dX8_swap_105 : decode cX8_swap 105 = .ok (.getfield 94, 3) := by decide +kernel
theorem dX8_swap_108 : decode cX8_swap 108 = .ok (.getfield 113, 3) := by decide +kernel
theorem dX8_swap_111 : decode cX8_swap 111 = .ok (.iload 4, 2) := by decide +kernel
theorem dX8_swap_113 : decode cX8_swap 113 = .ok (.iaload, 1) := by decide +kernel
theorem dX8_swap_114 : decode cX8_swap 114 = .ok (.iastore, 1) := by decide +kernel
theorem dX8_swap_115 : decode cX8_swap 115 = .ok (.aload_n 0, 1) := by decide +kernel
theorem dX8_swap_116 : decode cX8_swap 116 = .ok (.getfield 22, 3) := by decide +kernel
theorem dX8_swap_119 : decode cX8_swap 119 = .ok (.aload_n 0, 1) := by decide +kernel
theorem dX8_swap_120 : decode cX8_swap 120 = .ok (.getfield 38, 3) := by decide +kernel
theorem dX8_swap_123 : decode cX8_swap 123 = .ok (.iload_n 1, 1) := by decide +kernel
theorem dX8_swap_124 : decode cX8_swap 124 = .ok (.invokevirtual 199, 3) := by decide +kernel
theorem dX8_swap_127 : decode cX8_swap 127 = .ok (.aload_n 0, 1) := by decide +kernel
theorem dX8_swap_128 : decode cX8_swap 128 = .ok (.getfield 22, 3) := by decide +kernel
theorem dX8_swap_131 : decode cX8_swap 131 = .ok (.invokevirtual 217, 3) := by decide +kernel
theorem dX8_swap_134 : decode cX8_swap 134 = .ok (.iload_n 2, 1) := by decide +kernel
theorem dX8_swap_135 : decode cX8_swap 135 = .ok (.if_icmp .le 20, 3) := by decide +kernel
theorem dX8_swap_138 : decode cX8_swap 138 = .ok (.aload_n 0, 1) := by decide +kernel
theorem dX8_swap_139 : decode cX8_swap 139 = .ok (.getfield 22, 3) := by decide +kernel
theorem dX8_swap_142 : decode cX8_swap 142 = .ok (.invokevirtual 217, 3) := by decide +kernel
theorem dX8_swap_145 : decode cX8_swap 145 = .ok (.istore_n 2, 1) := by decide +kernel
theorem dX8_swap_146 : decode cX8_swap 146 = .ok (.bipush 10, 2) := by decide +kernel
theorem dX8_swap_148 : decode cX8_swap 148 = .ok (.iload 4, 2) := by decide +kernel
theorem dX8_swap_150 : decode cX8_swap 150 = .ok (.imul, 1) := by decide +kernel
theorem dX8_swap_151 : decode cX8_swap 151 = .ok (.iload 5, 2) := by decide +kernel
theorem dX8_swap_153 : decode cX8_swap 153 = .ok (.iadd, 1) := by decide +kernel
theorem dX8_swap_154 : decode cX8_swap 154 = .ok (.istore_n 3, 1) := by decide +kernel
theorem dX8_swap_155 : decode cX8_swap 155 = .ok (.iinc 5 1, 3) := by decide +kernel
theorem dX8_swap_158 : decode cX8_swap 158 = .ok (.goto (-100), 3) := by decide +kernel
theorem dX8_swap_161 : decode cX8_swap 161 = .ok (.iinc 4 1, 3) := by decide +kernel
theorem dX8_swap_164 : decode cX8_swap 164 = .ok (.goto (-119), 3) := by decide +kernel
theorem dX8_swap_167 : decode cX8_swap 167 = .ok (.iload_n 3, 1) := by decide +kernel
theorem dX8_swap_168 : decode cX8_swap 168 = .ok (.ireturn, 1) := by decide +kernel
theorem dX8_whose_0 : decode cX8_whose 0 = .ok (.iload_n 1, 1) := by decide +kernel
theorem dX8_whose_1 : decode cX8_whose 1 = .ok (.invokestatic 220, 3) := by decide +kernel
theorem dX8_whose_4 : decode cX8_whose 4 = .ok (.ifCond .eq 20, 3) := by decide +kernel
theorem dX8_whose_7 : decode cX8_whose 7 = .ok (.aload_n 0, 1) := by decide +kernel
theorem dX8_whose_8 : decode cX8_whose 8 = .ok (.iload_n 2, 1) := by decide +kernel
theorem dX8_whose_9 : decode cX8_whose 9 = .ok (.invokevirtual 133, 3) := by decide +kernel
theorem dX8_whose_12 : decode cX8_whose 12 = .ok (.ifCond .eq 12, 3) := by decide +kernel
theorem dX8_whose_15 : decode cX8_whose 15 = .ok (.iload_n 3, 1) := by decide +kernel
theorem dX8_whose_16 : decode cX8_whose 16 = .ok (.iconst 0, 1) := by decide +kernel
theorem dX8_whose_17 : decode cX8_whose 17 = .ok (.iconst 1, 1) := by decide +kernel
theorem dX8_whose_18 : decode cX8_whose 18 = .ok (.invokestatic 86, 3) := by decide +kernel
theorem dX8_whose_21 : decode cX8_whose 21 = .ok (.ifCond .ne 9, 3) := by decide +kernel
theorem dX8_whose_24 : decode cX8_whose 24 = .ok (.aload_n 0, 1) := by decide +kernel
theorem dX8_whose_25 : decode cX8_whose 25 = .ok (.iconst 1, 1) := by decide +kernel
theorem dX8_whose_26 : decode cX8_whose 26 = .ok (.invokevirtual 90, 3) := by decide +kernel
theorem dX8_whose_29 : decode cX8_whose 29 = .ok (.ireturn, 1) := by decide +kernel
theorem dX8_whose_30 : decode cX8_whose 30 = .ok (.aload_n 0, 1) := by decide +kernel
theorem dX8_whose_31 : decode cX8_whose 31 = .ok (.getfield 63, 3) := by decide +kernel
theorem dX8_whose_34 : decode cX8_whose 34 = .ok (.iload_n 1, 1) := by decide +kernel
theorem dX8_whose_35 : decode cX8_whose 35 = .ok (.aaload, 1) := by decide +kernel
theorem dX8_whose_36 : decode cX8_whose 36 = .ok (.getfield 223, 3) := by decide +kernel
theorem dX8_whose_39 : decode cX8_whose 39 = .ok (.ifCond .ne 9, 3) := by decide +kernel
theorem dX8_whose_42 : decode cX8_whose 42 = .ok (.aload_n 0, 1) := by decide +kernel
theorem dX8_whose_43 : decode cX8_whose 43 = .ok (.iconst 2, 1) := by decide +kernel
theorem dX8_whose_44 : decode cX8_whose 44 = .ok (.invokevirtual 90, 3) := by decide +kernel
theorem dX8_whose_47 : decode cX8_whose 47 = .ok (.ireturn, 1) := by decide +kernel
theorem dX8_whose_48 : decode cX8_whose 48 = .ok (.aload_n 0, 1) := by decide +kernel
theorem dX8_whose_49 : decode cX8_whose 49 = .ok (.invokevirtual 210, 3) := by decide +kernel
theorem dX8_whose_52 : decode cX8_whose 52 = .ok (.iconst 0, 1) := by decide +kernel
theorem dX8_whose_53 : decode cX8_whose 53 = .ok (.istore 4, 2) := by decide +kernel
theorem dX8_whose_55 : decode cX8_whose 55 = .ok (.iconst 0, 1) := by decide +kernel
theorem dX8_whose_56 : decode cX8_whose 56 = .ok (.istore 5, 2) := by decide +kernel
theorem dX8_whose_58 : decode cX8_whose 58 = .ok (.iload 5, 2) := by decide +kernel
theorem dX8_whose_60 : decode cX8_whose 60 = .ok (.bipush 6, 2) := by decide +kernel
theorem dX8_whose_62 : decode cX8_whose 62 = .ok (.if_icmp .gt 60, 3) := by decide +kernel
theorem dX8_whose_65 : decode cX8_whose 65 = .ok (.iconst 0, 1) := by decide +kernel
theorem dX8_whose_66 : decode cX8_whose 66 = .ok (.istore 6, 2) := by decide +kernel
theorem dX8_whose_68 : decode cX8_whose 68 = .ok (.iload 6, 2) := by decide +kernel
theorem dX8_whose_70 : decode cX8_whose 70 = .ok (.bipush 9, 2) := by decide +kernel
theorem dX8_whose_72 : decode cX8_whose 72 = .ok (.if_icmp .gt 44, 3) := by decide +kernel
theorem dX8_whose_75 : decode cX8_whose 75 = .ok (.aload_n 0, 1) := by decide +kernel
theorem dX8_whose_76 : decode cX8_whose 76 = .ok (.aload_n 0, 1) := by decide +kernel
theorem dX8_whose_77 : decode cX8_whose 77 = .ok (.getfield 63, 3) := by decide +kernel
theorem dX8_whose_80 : decode cX8_whose 80 = .ok (.iload_n 1, 1) := by decide +kernel
theorem dX8_whose_81 : decode cX8_whose 81 = .ok (.aaload, 1) := by decide +kernel
theorem dX8_whose_82 : decode cX8_whose 82 = .ok (.iload_n 2, 1) := by decide +kernel
theorem dX8_whose_83 : decode cX8_whose 83 = .ok (.iload 5, 2) := by decide +kernel
theorem dX8_whose_85 : decode cX8_whose 85 = .ok (.iload 6, 2) := by decide +kernel
theorem dX8_whose_87 : decode cX8_whose 87 = .ok (.invokevirtual 226, 3) := by decide +kernel
theorem dX8_whose_90 : decode cX8_whose 90 = .ok (.ifCond .eq 20, 3) := by decide +kernel
theorem dX8_whose_93 : decode cX8_whose 93 = .ok (.iload_n 3, 1) := by decide +kernel
theorem dX8_whose_94 : decode cX8_whose 94 = .ok (.iconst 1, 1) := by decide +kernel
theorem dX8_whose_95 : decode cX8_whose 95 = .ok (.if_icmp .ne 12, 3) := by decide +kernel
theorem dX8_whose_98 : decode cX8_whose 98 = .ok (.bipush 10, 2) := by decide +kernel
theorem dX8_whose_100 : decode cX8_whose 100 = .ok (.iload 5, 2) := by decide +kernel
theorem dX8_whose_102 : decode cX8_whose 102 = .ok (.imul, 1) := by decide +kernel
theorem dX8_whose_103 : decode cX8_whose 103 = .ok (.iload 6, 2) := by decide +kernel
theorem dX8_whose_105 : decode cX8_whose 105 = .ok (.iadd, 1) := by decide +kernel
theorem dX8_whose_106 : decode cX8_whose 106 = .ok (.ireturn, 1) := by decide +kernel
theorem dX8_whose_107 : decode cX8_whose 107 = .ok (.iinc 4 1, 3) := by decide +kernel
theorem dX8_whose_110 : decode cX8_whose 110 = .ok (.iinc 6 1, 3) := by decide +kernel
theorem dX8_whose_113 : decode cX8_whose 113 = .ok (.goto (-45), 3) := by decide +kernel
theorem dX8_whose_116 : decode cX8_whose 116 = .ok (.iinc 5 1, 3) := by decide +kernel
theorem dX8_whose_119 : decode cX8_whose 119 = .ok (.goto (-61), 3) := by decide +kernel
theorem dX8_whose_122 : decode cX8_whose 122 = .ok (.iload_n 3, 1) := by decide +kernel
theorem dX8_whose_123 : decode cX8_whose 123 = .ok (.ifCond .ne 8, 3) := by decide +kernel
theorem dX8_whose_126 : decode cX8_whose 126 = .ok (.iload 4, 2) := by decide +kernel
theorem dX8_whose_128 : decode cX8_whose 128 = .ok (.goto 8, 3) := by decide +kernel
theorem dX8_whose_131 : decode cX8_whose 131 = .ok (.aload_n 0, 1) := by decide +kernel
theorem dX8_whose_132 : decode cX8_whose 132 = .ok (.iconst 2, 1) := by decide +kernel
theorem dX8_whose_133 : decode cX8_whose 133 = .ok (.invokevirtual 90, 3) := by decide +kernel
theorem dX8_whose_136 : decode cX8_whose 136 = .ok (.ireturn, 1) := by decide +kernel
theorem dX8_loved_0 : decode cX8_loved 0 = .ok (.iload_n 1, 1) := by decide +kernel
theorem dX8_loved_1 : decode cX8_loved 1 = .ok (.invokestatic 220, 3) := by decide +kernel
theorem dX8_loved_4 : decode cX8_loved 4 = .ok (.ifCond .eq 11, 3) := by decide +kernel
theorem dX8_loved_7 : decode cX8_loved 7 = .ok (.aload_n 0, 1) := by decide +kernel
theorem dX8_loved_8 : decode cX8_loved 8 = .ok (.iload_n 2, 1) := by decide +kernel
theorem dX8_loved_9 : decode cX8_loved 9 = .ok (.invokevirtual 133, 3) := by decide +kernel
theorem dX8_loved_12 : decode cX8_loved 12 = .ok (.ifCond .ne 9, 3) := by decide +kernel
theorem dX8_loved_15 : decode cX8_loved 15 = .ok (.aload_n 0, 1) := by decide +kernel
theorem dX8_loved_16 : decode cX8_loved 16 = .ok (.iconst 1, 1) := by decide +kernel
theorem dX8_loved_17 : decode cX8_loved 17 = .ok (.invokevirtual 90, 3) := by decide +kernel
theorem dX8_loved_20 : decode cX8_loved 20 = .ok (.ireturn, 1) := by decide +kernel
theorem dX8_loved_21 : decode cX8_loved 21 = .ok (.aload_n 0, 1) := by decide +kernel
theorem dX8_loved_22 : decode cX8_loved 22 = .ok (.getfield 63, 3) := by decide +kernel
theorem dX8_loved_25 : decode cX8_loved 25 = .ok (.iload_n 1, 1) := by decide +kernel
theorem dX8_loved_26 : decode cX8_loved 26 = .ok (.aaload, 1) := by decide +kernel
theorem dX8_loved_27 : decode cX8_loved 27 = .ok (.astore_n 3, 1) := by decide +kernel
theorem dX8_loved_28 : decode cX8_loved 28 = .ok (.aload_n 3, 1) := by decide +kernel
theorem dX8_loved_29 : decode cX8_loved 29 = .ok (.getfield 223, 3) := by decide +kernel
theorem dX8_loved_32 : decode cX8_loved 32 = .ok (.ifCond .ne 9, 3) := by decide +kernel
theorem dX8_loved_35 : decode cX8_loved 35 = .ok (.aload_n 0, 1) := by decide +kernel
theorem dX8_loved_36 : decode cX8_loved 36 = .ok (.iconst 2, 1) := by decide +kernel
theorem dX8_loved_37 : decode cX8_loved 37 = .ok (.invokevirtual 90, 3) := by decide +kernel
theorem dX8_loved_40 : decode cX8_loved 40 = .ok (.ireturn, 1) := by decide +kernel
theorem dX8_loved_41 : decode cX8_loved 41 = .ok (.iconst 0, 1) := by decide +kernel
theorem dX8_loved_42 : decode cX8_loved 42 = .ok (.istore 4, 2) := by decide +kernel
theorem dX8_loved_44 : decode cX8_loved 44 = .ok (.iconst 0, 1) := by decide +kernel
theorem dX8_loved_45 : decode cX8_loved 45 = .ok (.istore 5, 2) := by decide +kernel
theorem dX8_loved_47 : decode cX8_loved 47 = .ok (.iload 5, 2) := by decide +kernel
theorem dX8_loved_49 : decode cX8_loved 49 = .ok (.bipush 8, 2) := by decide +kernel
theorem dX8_loved_51 : decode cX8_loved 51 = .ok (.if_icmp .ge 102, 3) := by decide +kernel
theorem dX8_loved_54 : decode cX8_loved 54 = .ok (.aload_n 0, 1) := by decide +kernel
theorem dX8_loved_55 : decode cX8_loved 55 = .ok (.invokevirtual 210, 3) := by decide +kernel
theorem dX8_loved_58 : decode cX8_loved 58 = .ok (.aload_n 0, 1) := by decide +kernel
theorem dX8_loved_59 : decode cX8_loved 59 = .ok (.getfield 22, 3) := by decide +kernel
theorem dX8_loved_62 : decode cX8_loved 62 = .ok (.getfield 145, 3) := by decide +kernel
theorem dX8_loved_65 : decode cX8_loved 65 = .ok (.iload_n 2, 1) := by decide +kernel
theorem dX8_loved_66 : decode cX8_loved 66 = .ok (.iload 5, 2) := by decide +kernel
theorem dX8_loved_68 : decode cX8_loved 68 = .ok (.iastore, 1) := by decide +kernel
theorem dX8_loved_69 : decode cX8_loved 69 = .ok (.iconst 1, 1) := by decide +kernel
theorem dX8_loved_70 : decode cX8_loved 70 = .ok (.istore 6, 2) := by decide +kernel
theorem dX8_loved_72 : decode cX8_loved 72 = .ok (.iconst 0, 1) := by decide +kernel
theorem dX8_loved_73 : decode cX8_loved 73 = .ok (.istore 7, 2) := by decide +kernel
theorem dX8_loved_75 : decode cX8_loved 75 = .ok (.iload 6, 2) := by decide +kernel
theorem dX8_loved_77 : decode cX8_loved 77 = .ok (.ifCond .eq 56, 3) := by decide +kernel
theorem dX8_loved_80 : decode cX8_loved 80 = .ok (.iload 7, 2) := by decide +kernel
theorem dX8_loved_82 : decode cX8_loved 82 = .ok (.aload_n 3, 1) := by decide +kernel
theorem dX8_loved_83 : decode cX8_loved 83 = .ok (.getfield 230, 3) := by decide +kernel
theorem dX8_loved_86 : decode cX8_loved 86 = .ok (.if_icmp .ge 47, 3) := by decide +kernel
theorem dX8_loved_89 : decode cX8_loved 89 = .ok (.aload_n 0, 1) := by decide +kernel
theorem dX8_loved_90 : decode cX8_loved 90 = .ok (.getfield 22, 3) := by decide +kernel
theorem dX8_loved_93 : decode cX8_loved 93 = .ok (.aload_n 0, 1) := by decide +kernel
theorem dX8_loved_94 : decode cX8_loved 94 = .ok (.getfield 38, 3) := by decide +kernel
theorem dX8_loved_97 : decode cX8_loved 97 = .ok (.iconst 1, 1) := by decide +kernel
theorem dX8_loved_98 : decode cX8_loved 98 = .ok (.invokevirtual 199, 3) := by decide +kernel
theorem dX8_loved_101 : decode cX8_loved 101 = .ok (.aload_n 0, 1) := by decide +kernel
theorem dX8_loved_102 : decode cX8_loved 102 = .ok (.getfield 22, 3) := by decide +kernel
theorem dX8_loved_105 : decode cX8_loved 105 = .ok (.getfield 142, 3) := by decide +kernel
theorem dX8_loved_108 : decode cX8_loved 108 = .ok (.iload_n 2, 1) := by decide +kernel
theorem dX8_loved_109 : decode cX8_loved 109 = .ok (.iaload, 1) := by decide +kernel
theorem dX8_loved_110 : decode cX8_loved 110 = .ok (.aload_n 3, 1) := by decide +kernel
theorem dX8_loved_111 : decode cX8_loved 111 = .ok (.getfield 231, 3) := by decide +kernel
theorem dX8_loved_114 : decode cX8_loved 114 = .ok (.iload 7, 2) := by decide +kernel
theorem dX8_loved_116 : decode cX8_loved 116 = .ok (.iaload, 1) := by decide +kernel
theorem dX8_loved_117 : decode cX8_loved 117 = .ok (.if_icmp .ne 7, 3) := by decide +kernel
theorem dX8_loved_120 : decode cX8_loved 120 = .ok (.iconst 1, 1) := by decide +kernel
theorem dX8_loved_121 : decode cX8_loved 121 = .ok (.goto 4, 3) := by decide +kernel
theorem dX8_loved_124 : decode cX8_loved 124 = .ok (.iconst 0, 1) := by decide +kernel
theorem dX8_loved_125 : decode cX8_loved 125 = .ok (.istore 6, 2) := by decide +kernel
theorem dX8_loved_127 : decode cX8_loved 127 = .ok (.iinc 7 1, 3) := by decide +kernel
theorem dX8_loved_130 : decode cX8_loved 130 = .ok (.goto (-55), 3) := by decide +kernel
theorem dX8_loved_133 : decode cX8_loved 133 = .ok (.iload 6, 2) := by decide +kernel
theorem dX8_loved_135 : decode cX8_loved 135 = .ok (.ifCond .eq 12, 3) := by decide +kernel
theorem dX8_loved_138 : decode cX8_loved 138 = .ok (.iload 4, 2) := by decide +kernel
theorem dX8_loved_140 : decode cX8_loved 140 = .ok (.iconst 1, 1) := by decide +kernel
theorem dX8_loved_141 : decode cX8_loved 141 = .ok (.iload 5, 2) := by decide +kernel
theorem dX8_loved_143 : decode cX8_loved 143 = .ok (.ishl, 1) := by decide +kernel
theorem dX8_loved_144 : decode cX8_loved 144 = .ok (.ior, 1) := by decide +kernel
theorem dX8_loved_145 : decode cX8_loved 145 = .ok (.istore 4, 2) := by decide +kernel
theorem dX8_loved_147 : decode cX8_loved 147 = .ok (.iinc 5 1, 3) := by decide +kernel
theorem dX8_loved_150 : decode cX8_loved 150 = .ok (.goto (-103), 3) := by decide +kernel
theorem dX8_loved_153 : decode cX8_loved 153 = .ok (.iload 4, 2) := by decide +kernel
theorem dX8_loved_155 : decode cX8_loved 155 = .ok (.ireturn, 1) := by decide +kernel
theorem dX8_pack_0 : decode cX8_pack 0 = .ok (.iload_n 1, 1) := by decide +kernel
theorem dX8_pack_1 : decode cX8_pack 1 = .ok (.iconst 0, 1) := by decide +kernel
theorem dX8_pack_2 : decode cX8_pack 2 = .ok (.bipush 40, 2) := by decide +kernel
theorem dX8_pack_4 : decode cX8_pack 4 = .ok (.invokestatic 86, 3) := by decide +kernel
theorem dX8_pack_7 : decode cX8_pack 7 = .ok (.ifCond .ne 9, 3) := by decide +kernel
theorem dX8_pack_10 : decode cX8_pack 10 = .ok (.aload_n 0, 1) := by decide +kernel
theorem dX8_pack_11 : decode cX8_pack 11 = .ok (.iconst 1, 1) := by decide +kernel
theorem dX8_pack_12 : decode cX8_pack 12 = .ok (.invokevirtual 90, 3) := by decide +kernel
theorem dX8_pack_15 : decode cX8_pack 15 = .ok (.ireturn, 1) := by decide +kernel
theorem dX8_pack_16 : decode cX8_pack 16 = .ok (.aload_n 0, 1) := by decide +kernel
theorem dX8_pack_17 : decode cX8_pack 17 = .ok (.getfield 72, 3) := by decide +kernel
theorem dX8_pack_20 : decode cX8_pack 20 = .ok (.iconst 0, 1) := by decide +kernel
theorem dX8_pack_21 : decode cX8_pack 21 = .ok (.invokestatic 234, 3) := by decide +kernel
theorem dX8_pack_24 : decode cX8_pack 24 = .ok (.iconst 0, 1) := by decide +kernel
theorem dX8_pack_25 : decode cX8_pack 25 = .ok (.istore_n 2, 1) := by decide +kernel
theorem dX8_pack_26 : decode cX8_pack 26 = .ok (.iload_n 2, 1) := by decide +kernel
theorem dX8_pack_27 : decode cX8_pack 27 = .ok (.bipush 6, 2) := by decide +kernel
theorem dX8_pack_29 : decode cX8_pack 29 = .ok (.if_icmp .ge 79, 3) := by decide +kernel
theorem dX8_pack_32 : decode cX8_pack 32 = .ok (.iconst 0, 1) := by decide +kernel
theorem dX8_pack_33 : decode cX8_pack 33 = .ok (.istore_n 3, 1) := by decide +kernel
theorem dX8_pack_34 : decode cX8_pack 34 = .ok (.iload_n 3, 1) := by decide +kernel
theorem dX8_pack_35 : decode cX8_pack 35 = .ok (.aload_n 0, 1) := by decide +kernel
theorem dX8_pack_36 : decode cX8_pack 36 = .ok (.getfield 10, 3) := by decide +kernel
theorem dX8_pack_39 : decode cX8_pack 39 = .ok (.getfield 94, 3) := by decide +kernel
theorem dX8_pack_42 : decode cX8_pack 42 = .ok (.getfield 126, 3) := by decide +kernel
theorem dX8_pack_45 : decode cX8_pack 45 = .ok (.if_icmp .ge 57, 3) := by decide +kernel
theorem dX8_pack_48 : decode cX8_pack 48 = .ok (.aload_n 0, 1) := by decide +kernel
theorem dX8_pack_49 : decode cX8_pack 49 = .ok (.getfield 10, 3) := by decide +kernel
theorem dX8_pack_52 : decode cX8_pack 52 = .ok (.getfield 94, 3) := by decide +kernel
theorem dX8_pack_55 : decode cX8_pack 55 = .ok (.aload_n 0, 1) := by decide +kernel
theorem dX8_pack_56 : decode cX8_pack 56 = .ok (.getfield 38, 3) := by decide +kernel
theorem dX8_pack_59 : decode cX8_pack 59 = .ok (.iload_n 2, 1) := by decide +kernel
theorem dX8_pack_60 : decode cX8_pack 60 = .ok (.iload_n 3, 1) := by decide +kernel
theorem dX8_pack_61 : decode cX8_pack 61 = .ok (.invokevirtual 154, 3) := by decide +kernel
theorem dX8_pack_64 : decode cX8_pack 64 = .ok (.istore 4, 2) := by decide +kernel
theorem dX8_pack_66 : decode cX8_pack 66 = .ok (.iload 4, 2) := by decide +kernel
theorem dX8_pack_68 : decode cX8_pack 68 = .ok (.ifCond .le 28, 3) := by decide +kernel
theorem dX8_pack_71 : decode cX8_pack 71 = .ok (.aload_n 0, 1) := by decide +kernel
theorem dX8_pack_72 : decode cX8_pack 72 = .ok (.iload_n 1, 1) := by decide +kernel
theorem dX8_pack_73 : decode cX8_pack 73 = .ok (.iload 4, 2) := by decide +kernel
theorem dX8_pack_75 : decode cX8_pack 75 = .ok (.aload_n 0, 1) := by decide +kernel
theorem dX8_pack_76 : decode cX8_pack 76 = .ok (.getfield 10, 3) := by decide +kernel
theorem dX8_pack_79 : decode cX8_pack 79 = .ok (.getfield 94, 3) := by decide +kernel
theorem dX8_pack_82 : decode cX8_pack 82 = .ok (.aload_n 0, 1) := by decide +kernel
theorem dX8_pack_83 : decode cX8_pack 83 = .ok (.getfield 38, 3) := by decide +kernel
theorem dX8_pack_86 : decode cX8_pack 86 = .ok (.iload_n 2, 1) := by decide +kernel
theorem dX8_pack_87 : decode cX8_pack 87 = .ok (.iload_n 3, 1) := by decide +kernel
theorem dX8_pack_88 : decode cX8_pack 88 = .ok (.iload 4, 2) := by decide +kernel
theorem dX8_pack_90 : decode cX8_pack 90 = .ok (.invokevirtual 240, 3) := by decide +kernel
theorem dX8_pack_93 : decode cX8_pack 93 = .ok (.invokevirtual 244, 3) := by decide +kernel
theorem dX8_pack_96 : decode cX8_pack 96 = .ok (.iinc 3 1, 3) := by decide +kernel
theorem dX8_pack_99 : decode cX8_pack 99 = .ok (.goto (-65), 3) := by decide +kernel
theorem dX8_pack_102 : decode cX8_pack 102 = .ok (.iinc 2 1, 3) := by decide +kernel
theorem dX8_pack_105 : decode cX8_pack 105 = .ok (.goto (-79), 3) := by decide +kernel
theorem dX8_pack_108 : decode cX8_pack 108 = .ok (.aload_n 0, 1) := by decide +kernel
theorem dX8_pack_109 : decode cX8_pack 109 = .ok (.getfield 72, 3) := by decide +kernel
theorem dX8_pack_112 : decode cX8_pack 112 = .ok (.iload_n 1, 1) := by decide +kernel
theorem dX8_pack_113 : decode cX8_pack 113 = .ok (.iaload, 1) := by decide +kernel
theorem dX8_pack_114 : decode cX8_pack 114 = .ok (.ireturn, 1) := by decide +kernel
theorem dX8_few_0 : decode cX8_few 0 = .ok (.iload_n 1, 1) := by decide +kernel
theorem dX8_few_1 : decode cX8_few 1 = .ok (.iconst 0, 1) := by decide +kernel
theorem dX8_few_2 : decode cX8_few 2 = .ok (.sipush 999, 3) := by decide +kernel
theorem dX8_few_5 : decode cX8_few 5 = .ok (.invokestatic 86, 3) := by decide +kernel
theorem dX8_few_8 : decode cX8_few 8 = .ok (.ifCond .ne 9, 3) := by decide +kernel
theorem dX8_few_11 : decode cX8_few 11 = .ok (.aload_n 0, 1) := by decide +kernel
theorem dX8_few_12 : decode cX8_few 12 = .ok (.iconst 1, 1) := by decide +kernel
theorem dX8_few_13 : decode cX8_few 13 = .ok (.invokevirtual 90, 3) := by decide +kernel
theorem dX8_few_16 : decode cX8_few 16 = .ok (.ireturn, 1) := by decide +kernel
theorem dX8_few_17 : decode cX8_few 17 = .ok (.aload_n 0, 1) := by decide +kernel
theorem dX8_few_18 : decode cX8_few 18 = .ok (.invokevirtual 248, 3) := by decide +kernel
theorem dX8_few_21 : decode cX8_few 21 = .ok (.iconst 0, 1) := by decide +kernel
theorem dX8_few_22 : decode cX8_few 22 = .ok (.istore_n 2, 1) := by decide +kernel
theorem dX8_few_23 : decode cX8_few 23 = .ok (.iconst 0, 1) := by decide +kernel
theorem dX8_few_24 : decode cX8_few 24 = .ok (.istore_n 3, 1) := by decide +kernel
theorem dX8_few_25 : decode cX8_few 25 = .ok (.bipush 9, 2) := by decide +kernel
theorem dX8_few_27 : decode cX8_few 27 = .ok (.istore 4, 2) := by decide +kernel
theorem dX8_few_29 : decode cX8_few 29 = .ok (.iload 4, 2) := by decide +kernel
theorem dX8_few_31 : decode cX8_few 31 = .ok (.ifCond .le 43, 3) := by decide +kernel
theorem dX8_few_34 : decode cX8_few 34 = .ok (.iconst 0, 1) := by decide +kernel
theorem dX8_few_35 : decode cX8_few 35 = .ok (.istore 5, 2) := by decide +kernel
theorem dX8_few_37 : decode cX8_few 37 = .ok (.iload 5, 2) := by decide +kernel
theorem dX8_few_39 : decode cX8_few 39 = .ok (.aload_n 0, 1) := by decide +kernel
theorem dX8_few_40 : decode cX8_few 40 = .ok (.getfield 75, 3) := by decide +kernel
theorem dX8_few_43 : decode cX8_few 43 = .ok (.iload 4, 2) := by decide +kernel
theorem dX8_few_45 : decode cX8_few 45 = .ok (.iaload, 1) := by decide +kernel
theorem dX8_few_46 : decode cX8_few 46 = .ok (.if_icmp .ge 22, 3) := by decide +kernel
theorem dX8_few_49 : decode cX8_few 49 = .ok (.iload_n 3, 1) := by decide +kernel
theorem dX8_few_50 : decode cX8_few 50 = .ok (.iload_n 1, 1) := by decide +kernel
theorem dX8_few_51 : decode cX8_few 51 = .ok (.if_icmp .ge 17, 3) := by decide +kernel
theorem dX8_few_54 : decode cX8_few 54 = .ok (.iload_n 3, 1) := by decide +kernel
theorem dX8_few_55 : decode cX8_few 55 = .ok (.iload 4, 2) := by decide +kernel
theorem dX8_few_57 : decode cX8_few 57 = .ok (.iadd, 1) := by decide +kernel
theorem dX8_few_58 : decode cX8_few 58 = .ok (.istore_n 3, 1) := by decide +kernel
theorem dX8_few_59 : decode cX8_few 59 = .ok (.iinc 2 1, 3) := by decide +kernel
theorem dX8_few_62 : decode cX8_few 62 = .ok (.iinc 5 1, 3) := by decide +kernel
theorem dX8_few_65 : decode cX8_few 65 = .ok (.goto (-28), 3) := by decide +kernel
theorem dX8_few_68 : decode cX8_few 68 = .ok (.iinc 4 (-1), 3) := by decide +kernel
theorem dX8_few_71 : decode cX8_few 71 = .ok (.goto (-42), 3) := by decide +kernel
theorem dX8_few_74 : decode cX8_few 74 = .ok (.iload_n 3, 1) := by decide +kernel
theorem dX8_few_75 : decode cX8_few 75 = .ok (.iload_n 1, 1) := by decide +kernel
theorem dX8_few_76 : decode cX8_few 76 = .ok (.if_icmp .lt 7, 3) := by decide +kernel
theorem dX8_few_79 : decode cX8_few 79 = .ok (.iload_n 2, 1) := by decide +kernel
theorem dX8_few_80 : decode cX8_few 80 = .ok (.goto 8, 3) := by decide +kernel
theorem dX8_few_83 : decode cX8_few 83 = .ok (.aload_n 0, 1) := by decide +kernel
theorem dX8_few_84 : decode cX8_few 84 = .ok (.iconst 2, 1) := by decide +kernel
theorem dX8_few_85 : decode cX8_few 85 = .ok (.invokevirtual 90, 3) := by decide +kernel
theorem dX8_few_88 : decode cX8_few 88 = .ok (.ireturn, 1) := by decide +kernel
theorem dX8_broken_0 : decode cX8_broken 0 = .ok (.iload_n 1, 1) := by decide +kernel
theorem dX8_broken_1 : decode cX8_broken 1 = .ok (.invokestatic 207, 3) := by decide +kernel
theorem dX8_broken_4 : decode cX8_broken 4 = .ok (.ifCond .ne 9, 3) := by decide +kernel
theorem dX8_broken_7 : decode cX8_broken 7 = .ok (.aload_n 0, 1) := by decide +kernel
theorem dX8_broken_8 : decode cX8_broken 8 = .ok (.iconst 1, 1) := by decide +kernel
theorem dX8_broken_9 : decode cX8_broken 9 = .ok (.invokevirtual 90, 3) := by decide +kernel
theorem dX8_broken_12 : decode cX8_broken 12 = .ok (.ireturn, 1) := by decide +kernel
theorem dX8_broken_13 : decode cX8_broken 13 = .ok (.aload_n 0, 1) := by decide +kernel
theorem dX8_broken_14 : decode cX8_broken 14 = .ok (.invokevirtual 210, 3) := by decide +kernel
theorem dX8_broken_17 : decode cX8_broken 17 = .ok (.aload_n 0, 1) := by decide +kernel
theorem dX8_broken_18 : decode cX8_broken 18 = .ok (.getfield 22, 3) := by decide +kernel
theorem dX8_broken_21 : decode cX8_broken 21 = .ok (.aload_n 0, 1) := by decide +kernel
theorem dX8_broken_22 : decode cX8_broken 22 = .ok (.getfield 38, 3) := by decide +kernel
theorem dX8_broken_25 : decode cX8_broken 25 = .ok (.iload_n 1, 1) := by decide +kernel
theorem dX8_broken_26 : decode cX8_broken 26 = .ok (.invokevirtual 199, 3) := by decide +kernel
theorem dX8_broken_29 : decode cX8_broken 29 = .ok (.iconst 0, 1) := by decide +kernel
theorem dX8_broken_30 : decode cX8_broken 30 = .ok (.istore_n 2, 1) := by decide +kernel
theorem dX8_broken_31 : decode cX8_broken 31 = .ok (.iconst 0, 1) := by decide +kernel
theorem dX8_broken_32 : decode cX8_broken 32 = .ok (.istore_n 3, 1) := by decide +kernel
theorem dX8_broken_33 : decode cX8_broken 33 = .ok (.iload_n 3, 1) := by decide +kernel
theorem dX8_broken_34 : decode cX8_broken 34 = .ok (.aload_n 0, 1) := by decide +kernel
theorem dX8_broken_35 : decode cX8_broken 35 = .ok (.getfield 22, 3) := by decide +kernel
theorem dX8_broken_38 : decode cX8_broken 38 = .ok (.getfield 126, 3) := by decide +kernel
theorem dX8_broken_41 : decode cX8_broken 41 = .ok (.if_icmp .ge 29, 3) := by decide +kernel
theorem dX8_broken_44 : decode cX8_broken 44 = .ok (.aload_n 0, 1) := by decide +kernel
theorem dX8_broken_45 : decode cX8_broken 45 = .ok (.getfield 22, 3) := by decide +kernel
theorem dX8_broken_48 : decode cX8_broken 48 = .ok (.getfield 142, 3) := by decide +kernel
theorem dX8_broken_51 : decode cX8_broken 51 = .ok (.iload_n 3, 1) := by decide +kernel
theorem dX8_broken_52 : decode cX8_broken 52 = .ok (.iaload, 1) := by decide +kernel
theorem dX8_broken_53 : decode cX8_broken 53 = .ok (.bipush 9, 2) := by decide +kernel
theorem dX8_broken_55 : decode cX8_broken 55 = .ok (.if_icmp .ne 9, 3) := by decide +kernel
theorem dX8_broken_58 : decode cX8_broken 58 = .ok (.iload_n 2, 1) := by decide +kernel
theorem dX8_broken_59 : decode cX8_broken 59 = .ok (.iconst 1, 1) := by decide +kernel
theorem dX8_broken_60 : decode cX8_broken 60 = .ok (.iload_n 3, 1) := by decide +kernel
theorem dX8_broken_61 : decode cX8_broken 61 = .ok (.ishl, 1) := by decide +kernel
theorem dX8_broken_62 : decode cX8_broken 62 = .ok (.ior, 1) := by decide +kernel
theorem dX8_broken_63 : decode cX8_broken 63 = .ok (.istore_n 2, 1) := by decide +kernel
theorem dX8_broken_64 : decode cX8_broken 64 = .ok (.iinc 3 1, 3) := by decide +kernel
theorem dX8_broken_67 : decode cX8_broken 67 = .ok (.goto (-34), 3) := by decide +kernel
theorem dX8_broken_70 : decode cX8_broken 70 = .ok (.iload_n 2, 1) := by decide +kernel
theorem dX8_broken_71 : decode cX8_broken 71 = .ok (.ireturn, 1) := by decide +kernel
theorem dX8_swill_0 : decode cX8_swill 0 = .ok (.iload_n 1, 1) := by decide +kernel
theorem dX8_swill_1 : decode cX8_swill 1 = .ok (.invokestatic 207, 3) := by decide +kernel
theorem dX8_swill_4 : decode cX8_swill 4 = .ok (.ifCond .ne 9, 3) := by decide +kernel
theorem dX8_swill_7 : decode cX8_swill 7 = .ok (.aload_n 0, 1) := by decide +kernel
theorem dX8_swill_8 : decode cX8_swill 8 = .ok (.iconst 1, 1) := by decide +kernel
theorem dX8_swill_9 : decode cX8_swill 9 = .ok (.invokevirtual 90, 3) := by decide +kernel
theorem dX8_swill_12 : decode cX8_swill 12 = .ok (.ireturn, 1) := by decide +kernel
theorem dX8_swill_13 : decode cX8_swill 13 = .ok (.aload_n 0, 1) := by decide +kernel
theorem dX8_swill_14 : decode cX8_swill 14 = .ok (.invokevirtual 210, 3) := by decide +kernel
theorem dX8_swill_17 : decode cX8_swill 17 = .ok (.aload_n 0, 1) := by decide +kernel
theorem dX8_swill_18 : decode cX8_swill 18 = .ok (.getfield 22, 3) := by decide +kernel
theorem dX8_swill_21 : decode cX8_swill 21 = .ok (.aload_n 0, 1) := by decide +kernel
theorem dX8_swill_22 : decode cX8_swill 22 = .ok (.getfield 38, 3) := by decide +kernel
theorem dX8_swill_25 : decode cX8_swill 25 = .ok (.iload_n 1, 1) := by decide +kernel
theorem dX8_swill_26 : decode cX8_swill 26 = .ok (.invokevirtual 199, 3) := by decide +kernel
theorem dX8_swill_29 : decode cX8_swill 29 = .ok (.aload_n 0, 1) := by decide +kernel
theorem dX8_swill_30 : decode cX8_swill 30 = .ok (.getfield 22, 3) := by decide +kernel
theorem dX8_swill_33 : decode cX8_swill 33 = .ok (.getfield 120, 3) := by decide +kernel
theorem dX8_swill_36 : decode cX8_swill 36 = .ok (.aload_n 0, 1) := by decide +kernel
theorem dX8_swill_37 : decode cX8_swill 37 = .ok (.getfield 10, 3) := by decide +kernel
theorem dX8_swill_40 : decode cX8_swill 40 = .ok (.getfield 94, 3) := by decide +kernel
theorem dX8_swill_43 : decode cX8_swill 43 = .ok (.getfield 120, 3) := by decide +kernel
theorem dX8_swill_46 : decode cX8_swill 46 = .ok (.isub, 1) := by decide +kernel
theorem dX8_swill_47 : decode cX8_swill 47 = .ok (.ireturn, 1) := by decide +kernel
theorem dX8_cheer_0 : decode cX8_cheer 0 = .ok (.aload_n 0, 1) := by decide +kernel
theorem dX8_cheer_1 : decode cX8_cheer 1 = .ok (.iload_n 1, 1) := by decide +kernel
theorem dX8_cheer_2 : decode cX8_cheer 2 = .ok (.invokevirtual 133, 3) := by decide +kernel
theorem dX8_cheer_5 : decode cX8_cheer 5 = .ok (.ifCond .eq 13, 3) := by decide +kernel
theorem dX8_cheer_8 : decode cX8_cheer 8 = .ok (.iload_n 2, 1) := by decide +kernel
theorem dX8_cheer_9 : decode cX8_cheer 9 = .ok (.iconst 0, 1) := by decide +kernel
theorem dX8_cheer_10 : decode cX8_cheer 10 = .ok (.bipush 24, 2) := by decide +kernel
theorem dX8_cheer_12 : decode cX8_cheer 12 = .ok (.invokestatic 86, 3) := by decide +kernel
theorem dX8_cheer_15 : decode cX8_cheer 15 = .ok (.ifCond .ne 9, 3) := by decide +kernel
theorem dX8_cheer_18 : decode cX8_cheer 18 = .ok (.aload_n 0, 1) := by decide +kernel
theorem dX8_cheer_19 : decode cX8_cheer 19 = .ok (.iconst 1, 1) := by decide +kernel
theorem dX8_cheer_20 : decode cX8_cheer 20 = .ok (.invokevirtual 90, 3) := by decide +kernel
theorem dX8_cheer_23 : decode cX8_cheer 23 = .ok (.ireturn, 1) := by decide +kernel
theorem dX8_cheer_24 : decode cX8_cheer 24 = .ok (.aload_n 0, 1) := by decide +kernel
theorem dX8_cheer_25 : decode cX8_cheer 25 = .ok (.invokevirtual 210, 3) := by decide +kernel
theorem dX8_cheer_28 : decode cX8_cheer 28 = .ok (.bipush 9, 2) := by decide +kernel
theorem dX8_cheer_30 : decode cX8_cheer 30 = .ok (.istore_n 3, 1) := by decide +kernel
theorem dX8_cheer_31 : decode cX8_cheer 31 = .ok (.iload_n 3, 1) := by decide +kernel
theorem dX8_cheer_32 : decode cX8_cheer 32 = .ok (.ifCond .lt 37, 3) := by decide +kernel
theorem dX8_cheer_35 : decode cX8_cheer 35 = .ok (.aload_n 0, 1) := by decide +kernel
theorem dX8_cheer_36 : decode cX8_cheer 36 = .ok (.getfield 22, 3) := by decide +kernel
theorem dX8_cheer_39 : decode cX8_cheer 39 = .ok (.getfield 142, 3) := by decide +kernel
theorem dX8_cheer_42 : decode cX8_cheer 42 = .ok (.iload_n 1, 1) := by decide +kernel
theorem dX8_cheer_43 : decode cX8_cheer 43 = .ok (.iload_n 3, 1) := by decide +kernel
theorem dX8_cheer_44 : decode cX8_cheer 44 = .ok (.iastore, 1) := by decide +kernel
theorem dX8_cheer_45 : decode cX8_cheer 45 = .ok (.aload_n 0, 1) := by decide +kernel
theorem dX8_cheer_46 : decode cX8_cheer 46 = .ok (.getfield 22, 3) := by decide +kernel
theorem dX8_cheer_49 : decode cX8_cheer 49 = .ok (.aload_n 0, 1) := by decide +kernel
theorem dX8_cheer_50 : decode cX8_cheer 50 = .ok (.getfield 38, 3) := by decide +kernel
theorem dX8_cheer_53 : decode cX8_cheer 53 = .ok (.iload_n 1, 1) := by decide +kernel
theorem dX8_cheer_54 : decode cX8_cheer 54 = .ok (.invokevirtual 251, 3) := by decide +kernel
theorem dX8_cheer_57 : decode cX8_cheer 57 = .ok (.iload_n 2, 1) := by decide +kernel
theorem dX8_cheer_58 : decode cX8_cheer 58 = .ok (.if_icmp .gt 5, 3) := by decide +kernel
theorem dX8_cheer_61 : decode cX8_cheer 61 = .ok (.iload_n 3, 1) := by decide +kernel
theorem dX8_cheer_62 : decode cX8_cheer 62 = .ok (.ireturn, 1) := by decide +kernel
theorem dX8_cheer_63 : decode cX8_cheer 63 = .ok (.iinc 3 (-1), 3) := by decide +kernel
theorem dX8_cheer_66 : decode cX8_cheer 66 = .ok (.goto (-35), 3) := by decide +kernel
theorem dX8_cheer_69 : decode cX8_cheer 69 = .ok (.aload_n 0, 1) := by decide +kernel
theorem dX8_cheer_70 : decode cX8_cheer 70 = .ok (.iconst 2, 1) := by decide +kernel
theorem dX8_cheer_71 : decode cX8_cheer 71 = .ok (.invokevirtual 90, 3) := by decide +kernel
theorem dX8_cheer_74 : decode cX8_cheer 74 = .ok (.ireturn, 1) := by decide +kernel
theorem dX8_odds_0 : decode cX8_odds 0 = .ok (.aload_n 0, 1) := by decide +kernel
theorem dX8_odds_1 : decode cX8_odds 1 = .ok (.iload_n 1, 1) := by decide +kernel
theorem dX8_odds_2 : decode cX8_odds 2 = .ok (.invokevirtual 133, 3) := by decide +kernel
theorem dX8_odds_5 : decode cX8_odds 5 = .ok (.ifCond .eq 30, 3) := by decide +kernel
theorem dX8_odds_8 : decode cX8_odds 8 = .ok (.iload_n 2, 1) := by decide +kernel
theorem dX8_odds_9 : decode cX8_odds 9 = .ok (.iconst 0, 1) := by decide +kernel
theorem dX8_odds_10 : decode cX8_odds 10 = .ok (.bipush 30, 2) := by decide +kernel
theorem dX8_odds_12 : decode cX8_odds 12 = .ok (.invokestatic 86, 3) := by decide +kernel
theorem dX8_odds_15 : decode cX8_odds 15 = .ok (.ifCond .eq 20, 3) := by decide +kernel
theorem dX8_odds_18 : decode cX8_odds 18 = .ok (.iload_n 3, 1) := by decide +kernel
theorem dX8_odds_19 : decode cX8_odds 19 = .ok (.invokestatic 158, 3) := by decide +kernel
theorem dX8_odds_22 : decode cX8_odds 22 = .ok (.ifCond .eq 13, 3) := by decide +kernel
theorem dX8_odds_25 : decode cX8_odds 25 = .ok (.iload 4, 2) := by decide +kernel
theorem dX8_odds_27 : decode cX8_odds 27 = .ok (.iconst 0, 1) := by decide +kernel
theorem dX8_odds_28 : decode cX8_odds 28 = .ok (.iconst 1, 1) := by decide +kernel
theorem dX8_odds_29 : decode cX8_odds 29 = .ok (.invokestatic 86, 3) := by decide +kernel
theorem dX8_odds_32 : decode cX8_odds 32 = .ok (.ifCond .ne 9, 3) := by decide +kernel
theorem dX8_odds_35 : decode cX8_odds 35 = .ok (.aload_n 0, 1) := by decide +kernel
theorem dX8_odds_36 : decode cX8_odds 36 = .ok (.iconst 1, 1) := by decide +kernel
theorem dX8_odds_37 : decode cX8_odds 37 = .ok (.invokevirtual 90, 3) := by decide +kernel
theorem dX8_odds_40 : decode cX8_odds 40 = .ok (.ireturn, 1) := by decide +kernel
theorem dX8_odds_41 : decode cX8_odds 41 = .ok (.iconst 0, 1) := by decide +kernel
theorem dX8_odds_42 : decode cX8_odds 42 = .ok (.istore 5, 2) := by decide +kernel
theorem dX8_odds_44 : decode cX8_odds 44 = .ok (.iconst 0, 1) := by decide +kernel
theorem dX8_odds_45 : decode cX8_odds 45 = .ok (.istore 6, 2) := by decide +kernel
theorem dX8_odds_47 : decode cX8_odds 47 = .ok (.iload 6, 2) := by decide +kernel
theorem dX8_odds_49 : decode cX8_odds 49 = .ok (.bipush 10, 2) := by decide +kernel
theorem dX8_odds_51 : decode cX8_odds 51 = .ok (.if_icmp .ge 52, 3) := by decide +kernel
theorem dX8_odds_54 : decode cX8_odds 54 = .ok (.aload_n 0, 1) := by decide +kernel
theorem dX8_odds_55 : decode cX8_odds 55 = .ok (.invokevirtual 210, 3) := by decide +kernel
theorem dX8_odds_58 : decode cX8_odds 58 = .ok (.aload_n 0, 1) := by decide +kernel
theorem dX8_odds_59 : decode cX8_odds 59 = .ok (.getfield 22, 3) := by decide +kernel
theorem dX8_odds_62 : decode cX8_odds 62 = .ok (.iconst 4, 1) := by decide +kernel
theorem dX8_odds_63 : decode cX8_odds 63 = .ok (.iload 6, 2) := by decide +kernel
theorem dX8_odds_65 : decode cX8_odds 65 = .ok (.imul, 1) := by decide +kernel
theorem dX8_odds_66 : decode cX8_odds 66 = .ok (.putfield 117, 3) := by decide +kernel
theorem dX8_odds_69 : decode cX8_odds 69 = .ok (.aload_n 0, 1) := by decide +kernel
theorem dX8_odds_70 : decode cX8_odds 70 = .ok (.getfield 22, 3) := by decide +kernel
theorem dX8_odds_73 : decode cX8_odds 73 = .ok (.aload_n 0, 1) := by decide +kernel
theorem dX8_odds_74 : decode cX8_odds 74 = .ok (.getfield 38, 3) := by decide +kernel
theorem dX8_odds_77 : decode cX8_odds 77 = .ok (.iload_n 2, 1) := by decide +kernel
theorem dX8_odds_78 : decode cX8_odds 78 = .ok (.invokevirtual 199, 3) := by decide +kernel
theorem dX8_odds_81 : decode cX8_odds 81 = .ok (.aload_n 0, 1) := by decide +kernel
theorem dX8_odds_82 : decode cX8_odds 82 = .ok (.getfield 22, 3) := by decide +kernel
theorem dX8_odds_85 : decode cX8_odds 85 = .ok (.getfield 148, 3) := by decide +kernel
theorem dX8_odds_88 : decode cX8_odds 88 = .ok (.iload_n 1, 1) := by decide +kernel
theorem dX8_odds_89 : decode cX8_odds 89 = .ok (.iaload, 1) := by decide +kernel
theorem dX8_odds_90 : decode cX8_odds 90 = .ok (.iload_n 3, 1) := by decide +kernel
theorem dX8_odds_91 : decode cX8_odds 91 = .ok (.if_icmp .lt 6, 3) := by decide +kernel
theorem dX8_odds_94 : decode cX8_odds 94 = .ok (.iinc 5 1, 3) := by decide +kernel
theorem dX8_odds_97 : decode cX8_odds 97 = .ok (.iinc 6 1, 3) := by decide +kernel
theorem dX8_odds_100 : decode cX8_odds 100 = .ok (.goto (-53), 3) := by decide +kernel
theorem dX8_odds_103 : decode cX8_odds 103 = .ok (.iconst 1, 1) := by decide +kernel
theorem dX8_odds_104 : decode cX8_odds 104 = .ok (.iload 5, 2) := by decide +kernel
theorem dX8_odds_106 : decode cX8_odds 106 = .ok (.bipush 10, 2) := by decide +kernel
