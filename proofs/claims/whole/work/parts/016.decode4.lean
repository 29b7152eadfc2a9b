theorem dX9_whose_30 : decode cX9_whose 30 = .ok (.ireturn, 1) := by decide +kernel
theorem dX9_whose_31 : decode cX9_whose 31 = .ok (.aload_n 0, 1) := by decide +kernel
theorem dX9_whose_32 : decode cX9_whose 32 = .ok (.getfield 28, 3) := by decide +kernel
theorem dX9_whose_35 : decode cX9_whose 35 = .ok (.iload_n 1, 1) := by decide +kernel
theorem dX9_whose_36 : decode cX9_whose 36 = .ok (.iaload, 1) := by decide +kernel
theorem dX9_whose_37 : decode cX9_whose 37 = .ok (.ifCond .ne 10, 3) := by decide +kernel
theorem dX9_whose_40 : decode cX9_whose 40 = .ok (.aload_n 0, 1) := by decide +kernel
theorem dX9_whose_41 : decode cX9_whose 41 = .ok (.ldc 214, 2) := by decide +kernel
theorem dX9_whose_43 : decode cX9_whose 43 = .ok (.invokevirtual 66, 3) := by decide +kernel
theorem dX9_whose_46 : decode cX9_whose 46 = .ok (.ireturn, 1) := by decide +kernel
theorem dX9_whose_47 : decode cX9_whose 47 = .ok (.aload_n 0, 1) := by decide +kernel
theorem dX9_whose_48 : decode cX9_whose 48 = .ok (.aload_n 0, 1) := by decide +kernel
theorem dX9_whose_49 : decode cX9_whose 49 = .ok (.getfield 7, 3) := by decide +kernel
theorem dX9_whose_52 : decode cX9_whose 52 = .ok (.aload_n 0, 1) := by decide +kernel
theorem dX9_whose_53 : decode cX9_whose 53 = .ok (.getfield 16, 3) := by decide +kernel
theorem dX9_whose_56 : decode cX9_whose 56 = .ok (.invokevirtual 174, 3) := by decide +kernel
theorem dX9_whose_59 : decode cX9_whose 59 = .ok (.iconst 0, 1) := by decide +kernel
theorem dX9_whose_60 : decode cX9_whose 60 = .ok (.istore 4, 2) := by decide +kernel
theorem dX9_whose_62 : decode cX9_whose 62 = .ok (.ldc 214, 2) := by decide +kernel
theorem dX9_whose_64 : decode cX9_whose 64 = .ok (.istore 5, 2) := by decide +kernel
theorem dX9_whose_66 : decode cX9_whose 66 = .ok (.bipush 69, 2) := by decide +kernel
theorem dX9_whose_68 : decode cX9_whose 68 = .ok (.istore 6, 2) := by decide +kernel
theorem dX9_whose_70 : decode cX9_whose 70 = .ok (.iload 6, 2) := by decide +kernel
theorem dX9_whose_72 : decode cX9_whose 72 = .ok (.ifCond .lt 68, 3) := by decide +kernel
theorem dX9_whose_75 : decode cX9_whose 75 = .ok (.aload_n 0, 1) := by decide +kernel
theorem dX9_whose_76 : decode cX9_whose 76 = .ok (.iload_n 2, 1) := by decide +kernel
theorem dX9_whose_77 : decode cX9_whose 77 = .ok (.iconst 0, 1) := by decide +kernel
theorem dX9_whose_78 : decode cX9_whose 78 = .ok (.iload 6, 2) := by decide +kernel
theorem dX9_whose_80 : decode cX9_whose 80 = .ok (.bipush 10, 2) := by decide +kernel
theorem dX9_whose_82 : decode cX9_whose 82 = .ok (.idiv, 1) := by decide +kernel
theorem dX9_whose_83 : decode cX9_whose 83 = .ok (.invokevirtual 78, 3) := by decide +kernel
theorem dX9_whose_86 : decode cX9_whose 86 = .ok (.aload_n 0, 1) := by decide +kernel
theorem dX9_whose_87 : decode cX9_whose 87 = .ok (.iload_n 2, 1) := by decide +kernel
theorem dX9_whose_88 : decode cX9_whose 88 = .ok (.iconst 2, 1) := by decide +kernel
theorem dX9_whose_89 : decode cX9_whose 89 = .ok (.iload 6, 2) := by decide +kernel
theorem dX9_whose_91 : decode cX9_whose 91 = .ok (.bipush 10, 2) := by decide +kernel
theorem dX9_whose_93 : decode cX9_whose 93 = .ok (.irem, 1) := by decide +kernel
theorem dX9_whose_94 : decode cX9_whose 94 = .ok (.invokevirtual 78, 3) := by decide +kernel
theorem dX9_whose_97 : decode cX9_whose 97 = .ok (.aload_n 0, 1) := by decide +kernel
theorem dX9_whose_98 : decode cX9_whose 98 = .ok (.iload_n 1, 1) := by decide +kernel
theorem dX9_whose_99 : decode cX9_whose 99 = .ok (.iload_n 2, 1) := by decide +kernel
theorem dX9_whose_100 : decode cX9_whose 100 = .ok (.invokevirtual 228, 3) := by decide +kernel
theorem dX9_whose_103 : decode cX9_whose 103 = .ok (.istore 7, 2) := by decide +kernel
theorem dX9_whose_105 : decode cX9_whose 105 = .ok (.iload 4, 2) := by decide +kernel
theorem dX9_whose_107 : decode cX9_whose 107 = .ok (.iload 7, 2) := by decide +kernel
theorem dX9_whose_109 : decode cX9_whose 109 = .ok (.ifCond .eq 7, 3) := by decide +kernel
theorem dX9_whose_112 : decode cX9_whose 112 = .ok (.iconst 1, 1) := by decide +kernel
theorem dX9_whose_113 : decode cX9_whose 113 = .ok (.goto 4, 3) := by decide +kernel
theorem dX9_whose_116 : decode cX9_whose 116 = .ok (.iconst 0, 1) := by decide +kernel
theorem dX9_whose_117 : decode cX9_whose 117 = .ok (.iadd, 1) := by decide +kernel
theorem dX9_whose_118 : decode cX9_whose 118 = .ok (.istore 4, 2) := by decide +kernel
theorem dX9_whose_120 : decode cX9_whose 120 = .ok (.iload 7, 2) := by decide +kernel
theorem dX9_whose_122 : decode cX9_whose 122 = .ok (.ifCond .eq 8, 3) := by decide +kernel
theorem dX9_whose_125 : decode cX9_whose 125 = .ok (.iload 6, 2) := by decide +kernel
theorem dX9_whose_127 : decode cX9_whose 127 = .ok (.goto 5, 3) := by decide +kernel
theorem dX9_whose_130 : decode cX9_whose 130 = .ok (.iload 5, 2) := by decide +kernel
theorem dX9_whose_132 : decode cX9_whose 132 = .ok (.istore 5, 2) := by decide +kernel
theorem dX9_whose_134 : decode cX9_whose 134 = .ok (.iinc 6 (-1), 3) := by decide +kernel
theorem dX9_whose_137 : decode cX9_whose 137 = .ok (.goto (-67), 3) := by decide +kernel
theorem dX9_whose_140 : decode cX9_whose 140 = .ok (.aload_n 0, 1) := by decide +kernel
theorem dX9_whose_141 : decode cX9_whose 141 = .ok (.aload_n 0, 1) := by decide +kernel
theorem dX9_whose_142 : decode cX9_whose 142 = .ok (.getfield 16, 3) := by decide +kernel
theorem dX9_whose_145 : decode cX9_whose 145 = .ok (.aload_n 0, 1) := by decide +kernel
theorem dX9_whose_146 : decode cX9_whose 146 = .ok (.getfield 7, 3) := by decide +kernel
theorem dX9_whose_149 : decode cX9_whose 149 = .ok (.invokevirtual 174, 3) := by decide +kernel
theorem dX9_whose_152 : decode cX9_whose 152 = .ok (.iload_n 3, 1) := by decide +kernel
theorem dX9_whose_153 : decode cX9_whose 153 = .ok (.ifCond .ne 8, 3) := by decide +kernel
theorem dX9_whose_156 : decode cX9_whose 156 = .ok (.iload 4, 2) := by decide +kernel
theorem dX9_whose_158 : decode cX9_whose 158 = .ok (.goto 19, 3) := by decide +kernel
theorem dX9_whose_161 : decode cX9_whose 161 = .ok (.iload 5, 2) := by decide +kernel
theorem dX9_whose_163 : decode cX9_whose 163 = .ok (.ifCond .ge 12, 3) := by decide +kernel
theorem dX9_whose_166 : decode cX9_whose 166 = .ok (.aload_n 0, 1) := by decide +kernel
theorem dX9_whose_167 : decode cX9_whose 167 = .ok (.ldc 214, 2) := by decide +kernel
theorem dX9_whose_169 : decode cX9_whose 169 = .ok (.invokevirtual 66, 3) := by decide +kernel
theorem dX9_whose_172 : decode cX9_whose 172 = .ok (.goto 5, 3) := by decide +kernel
theorem dX9_whose_175 : decode cX9_whose 175 = .ok (.iload 5, 2) := by decide +kernel
theorem dX9_whose_177 : decode cX9_whose 177 = .ok (.ireturn, 1) := by decide +kernel
theorem dX9_grievesSo_0 : decode cX9_grievesSo 0 = .ok (.iconst 1, 1) := by decide +kernel
theorem dX9_grievesSo_1 : decode cX9_grievesSo 1 = .ok (.istore_n 3, 1) := by decide +kernel
theorem dX9_grievesSo_2 : decode cX9_grievesSo 2 = .ok (.iconst 0, 1) := by decide +kernel
theorem dX9_grievesSo_3 : decode cX9_grievesSo 3 = .ok (.istore 4, 2) := by decide +kernel
theorem dX9_grievesSo_5 : decode cX9_grievesSo 5 = .ok (.iload 4, 2) := by decide +kernel
theorem dX9_grievesSo_7 : decode cX9_grievesSo 7 = .ok (.aload_n 0, 1) := by decide +kernel
theorem dX9_grievesSo_8 : decode cX9_grievesSo 8 = .ok (.getfield 31, 3) := by decide +kernel
theorem dX9_grievesSo_11 : decode cX9_grievesSo 11 = .ok (.iload_n 1, 1) := by decide +kernel
theorem dX9_grievesSo_12 : decode cX9_grievesSo 12 = .ok (.iaload, 1) := by decide +kernel
theorem dX9_grievesSo_13 : decode cX9_grievesSo 13 = .ok (.if_icmp .ge 44, 3) := by decide +kernel
theorem dX9_grievesSo_16 : decode cX9_grievesSo 16 = .ok (.iload_n 3, 1) := by decide +kernel
theorem dX9_grievesSo_17 : decode cX9_grievesSo 17 = .ok (.ifCond .eq 40, 3) := by decide +kernel
theorem dX9_grievesSo_20 : decode cX9_grievesSo 20 = .ok (.aload_n 0, 1) := by decide +kernel
theorem dX9_grievesSo_21 : decode cX9_grievesSo 21 = .ok (.invokevirtual 202, 3) := by decide +kernel
theorem dX9_grievesSo_24 : decode cX9_grievesSo 24 = .ok (.aload_n 0, 1) := by decide +kernel
theorem dX9_grievesSo_25 : decode cX9_grievesSo 25 = .ok (.getfield 34, 3) := by decide +kernel
theorem dX9_grievesSo_28 : decode cX9_grievesSo 28 = .ok (.bipush 40, 2) := by decide +kernel
theorem dX9_grievesSo_30 : decode cX9_grievesSo 30 = .ok (.iload_n 1, 1) := by decide +kernel
theorem dX9_grievesSo_31 : decode cX9_grievesSo 31 = .ok (.imul, 1) := by decide +kernel
theorem dX9_grievesSo_32 : decode cX9_grievesSo 32 = .ok (.iload 4, 2) := by decide +kernel
theorem dX9_grievesSo_34 : decode cX9_grievesSo 34 = .ok (.iadd, 1) := by decide +kernel
theorem dX9_grievesSo_35 : decode cX9_grievesSo 35 = .ok (.iaload, 1) := by decide +kernel
theorem dX9_grievesSo_36 : decode cX9_grievesSo 36 = .ok (.aload_n 0, 1) := by decide +kernel
theorem dX9_grievesSo_37 : decode cX9_grievesSo 37 = .ok (.iload_n 2, 1) := by decide +kernel
theorem dX9_grievesSo_38 : decode cX9_grievesSo 38 = .ok (.iconst 2, 1) := by decide +kernel
theorem dX9_grievesSo_39 : decode cX9_grievesSo 39 = .ok (.invokevirtual 85, 3) := by decide +kernel
theorem dX9_grievesSo_42 : decode cX9_grievesSo 42 = .ok (.if_icmp .ne 7, 3) := by decide +kernel
theorem dX9_grievesSo_45 : decode cX9_grievesSo 45 = .ok (.iconst 1, 1) := by decide +kernel
theorem dX9_grievesSo_46 : decode cX9_grievesSo 46 = .ok (.goto 4, 3) := by decide +kernel
theorem dX9_grievesSo_49 : decode cX9_grievesSo 49 = .ok (.iconst 0, 1) := by decide +kernel
theorem dX9_grievesSo_50 : decode cX9_grievesSo 50 = .ok (.istore_n 3, 1) := by decide +kernel
theorem dX9_grievesSo_51 : decode cX9_grievesSo 51 = .ok (.iinc 4 1, 3) := by decide +kernel
theorem dX9_grievesSo_54 : decode cX9_grievesSo 54 = .ok (.goto (-49), 3) := by decide +kernel
theorem dX9_grievesSo_57 : decode cX9_grievesSo 57 = .ok (.aload_n 0, 1) := by decide +kernel
theorem dX9_grievesSo_58 : decode cX9_grievesSo 58 = .ok (.aload_n 0, 1) := by decide +kernel
theorem dX9_grievesSo_59 : decode cX9_grievesSo 59 = .ok (.getfield 16, 3) := by decide +kernel
theorem dX9_grievesSo_62 : decode cX9_grievesSo 62 = .ok (.aload_n 0, 1) := by decide +kernel
theorem dX9_grievesSo_63 : decode cX9_grievesSo 63 = .ok (.getfield 7, 3) := by decide +kernel
theorem dX9_grievesSo_66 : decode cX9_grievesSo 66 = .ok (.invokevirtual 174, 3) := by decide +kernel
theorem dX9_grievesSo_69 : decode cX9_grievesSo 69 = .ok (.iload_n 3, 1) := by decide +kernel
theorem dX9_grievesSo_70 : decode cX9_grievesSo 70 = .ok (.ireturn, 1) := by decide +kernel
theorem dX9_loved_0 : decode cX9_loved 0 = .ok (.iload_n 1, 1) := by decide +kernel
theorem dX9_loved_1 : decode cX9_loved 1 = .ok (.invokestatic 225, 3) := by decide +kernel
theorem dX9_loved_4 : decode cX9_loved 4 = .ok (.ifCond .eq 11, 3) := by decide +kernel
theorem dX9_loved_7 : decode cX9_loved 7 = .ok (.aload_n 0, 1) := by decide +kernel
theorem dX9_loved_8 : decode cX9_loved 8 = .ok (.iload_n 2, 1) := by decide +kernel
theorem dX9_loved_9 : decode cX9_loved 9 = .ok (.invokevirtual 82, 3) := by decide +kernel
theorem dX9_loved_12 : decode cX9_loved 12 = .ok (.ifCond .ne 10, 3) := by decide +kernel
theorem dX9_loved_15 : decode cX9_loved 15 = .ok (.aload_n 0, 1) := by decide +kernel
theorem dX9_loved_16 : decode cX9_loved 16 = .ok (.ldc 65, 2) := by decide +kernel
theorem dX9_loved_18 : decode cX9_loved 18 = .ok (.invokevirtual 66, 3) := by decide +kernel
theorem dX9_loved_21 : decode cX9_loved 21 = .ok (.ireturn, 1) := by decide +kernel
theorem dX9_loved_22 : decode cX9_loved 22 = .ok (.aload_n 0, 1) := by decide +kernel
theorem dX9_loved_23 : decode cX9_loved 23 = .ok (.getfield 28, 3) := by decide +kernel
theorem dX9_loved_26 : decode cX9_loved 26 = .ok (.iload_n 1, 1) := by decide +kernel
theorem dX9_loved_27 : decode cX9_loved 27 = .ok (.iaload, 1) := by decide +kernel
theorem dX9_loved_28 : decode cX9_loved 28 = .ok (.ifCond .ne 10, 3) := by decide +kernel
theorem dX9_loved_31 : decode cX9_loved 31 = .ok (.aload_n 0, 1) := by decide +kernel
theorem dX9_loved_32 : decode cX9_loved 32 = .ok (.ldc 214, 2) := by decide +kernel
theorem dX9_loved_34 : decode cX9_loved 34 = .ok (.invokevirtual 66, 3) := by decide +kernel
theorem dX9_loved_37 : decode cX9_loved 37 = .ok (.ireturn, 1) := by decide +kernel
theorem dX9_loved_38 : decode cX9_loved 38 = .ok (.aload_n 0, 1) := by decide +kernel
theorem dX9_loved_39 : decode cX9_loved 39 = .ok (.aload_n 0, 1) := by decide +kernel
theorem dX9_loved_40 : decode cX9_loved 40 = .ok (.getfield 7, 3) := by decide +kernel
theorem dX9_loved_43 : decode cX9_loved 43 = .ok (.aload_n 0, 1) := by decide +kernel
theorem dX9_loved_44 : decode cX9_loved 44 = .ok (.getfield 16, 3) := by decide +kernel
theorem dX9_loved_47 : decode cX9_loved 47 = .ok (.invokevirtual 174, 3) := by decide +kernel
theorem dX9_loved_50 : decode cX9_loved 50 = .ok (.iconst 0, 1) := by decide +kernel
theorem dX9_loved_51 : decode cX9_loved 51 = .ok (.istore_n 3, 1) := by decide +kernel
theorem dX9_loved_52 : decode cX9_loved 52 = .ok (.iconst 0, 1) := by decide +kernel
theorem dX9_loved_53 : decode cX9_loved 53 = .ok (.istore 4, 2) := by decide +kernel
theorem dX9_loved_55 : decode cX9_loved 55 = .ok (.iload 4, 2) := by decide +kernel
theorem dX9_loved_57 : decode cX9_loved 57 = .ok (.bipush 8, 2) := by decide +kernel
theorem dX9_loved_59 : decode cX9_loved 59 = .ok (.if_icmp .ge 37, 3) := by decide +kernel
theorem dX9_loved_62 : decode cX9_loved 62 = .ok (.aload_n 0, 1) := by decide +kernel
theorem dX9_loved_63 : decode cX9_loved 63 = .ok (.iload_n 2, 1) := by decide +kernel
theorem dX9_loved_64 : decode cX9_loved 64 = .ok (.iconst 3, 1) := by decide +kernel
theorem dX9_loved_65 : decode cX9_loved 65 = .ok (.iload 4, 2) := by decide +kernel
theorem dX9_loved_67 : decode cX9_loved 67 = .ok (.invokevirtual 78, 3) := by decide +kernel
theorem dX9_loved_70 : decode cX9_loved 70 = .ok (.iload_n 3, 1) := by decide +kernel
theorem dX9_loved_71 : decode cX9_loved 71 = .ok (.aload_n 0, 1) := by decide +kernel
theorem dX9_loved_72 : decode cX9_loved 72 = .ok (.iload_n 1, 1) := by decide +kernel
theorem dX9_loved_73 : decode cX9_loved 73 = .ok (.iload_n 2, 1) := by decide +kernel
theorem dX9_loved_74 : decode cX9_loved 74 = .ok (.invokevirtual 232, 3) := by decide +kernel
theorem dX9_loved_77 : decode cX9_loved 77 = .ok (.ifCond .eq 10, 3) := by decide +kernel
theorem dX9_loved_80 : decode cX9_loved 80 = .ok (.iconst 1, 1) := by decide +kernel
theorem dX9_loved_81 : decode cX9_loved 81 = .ok (.iload 4, 2) := by decide +kernel
theorem dX9_loved_83 : decode cX9_loved 83 = .ok (.ishl, 1) := by decide +kernel
theorem dX9_loved_84 : decode cX9_loved 84 = .ok (.goto 4, 3) := by decide +kernel
theorem dX9_loved_87 : decode cX9_loved 87 = .ok (.iconst 0, 1) := by decide +kernel
theorem dX9_loved_88 : decode cX9_loved 88 = .ok (.ior, 1) := by decide +kernel
theorem dX9_loved_89 : decode cX9_loved 89 = .ok (.istore_n 3, 1) := by decide +kernel
theorem dX9_loved_90 : decode cX9_loved 90 = .ok (.iinc 4 1, 3) := by decide +kernel
theorem dX9_loved_93 : decode cX9_loved 93 = .ok (.goto (-38), 3) := by decide +kernel
theorem dX9_loved_96 : decode cX9_loved 96 = .ok (.iload_n 3, 1) := by decide +kernel
theorem dX9_loved_97 : decode cX9_loved 97 = .ok (.ireturn, 1) := by decide +kernel
theorem dX9_pack_0 : decode cX9_pack 0 = .ok (.iload_n 1, 1) := by decide +kernel
theorem dX9_pack_1 : decode cX9_pack 1 = .ok (.iconst 0, 1) := by decide +kernel
theorem dX9_pack_2 : decode cX9_pack 2 = .ok (.bipush 40, 2) := by decide +kernel
theorem dX9_pack_4 : decode cX9_pack 4 = .ok (.invokestatic 53, 3) := by decide +kernel
theorem dX9_pack_7 : decode cX9_pack 7 = .ok (.ifCond .ne 10, 3) := by decide +kernel
theorem dX9_pack_10 : decode cX9_pack 10 = .ok (.aload_n 0, 1) := by decide +kernel
theorem dX9_pack_11 : decode cX9_pack 11 = .ok (.ldc 65, 2) := by decide +kernel
theorem dX9_pack_13 : decode cX9_pack 13 = .ok (.invokevirtual 66, 3) := by decide +kernel
theorem dX9_pack_16 : decode cX9_pack 16 = .ok (.ireturn, 1) := by decide +kernel
theorem dX9_pack_17 : decode cX9_pack 17 = .ok (.iconst 0, 1) := by decide +kernel
theorem dX9_pack_18 : decode cX9_pack 18 = .ok (.istore_n 2, 1) := by decide +kernel
theorem dX9_pack_19 : decode cX9_pack 19 = .ok (.iload_n 2, 1) := by decide +kernel
theorem dX9_pack_20 : decode cX9_pack 20 = .ok (.bipush 40, 2) := by decide +kernel
theorem dX9_pack_22 : decode cX9_pack 22 = .ok (.if_icmp .gt 16, 3) := by decide +kernel
theorem dX9_pack_25 : decode cX9_pack 25 = .ok (.aload_n 0, 1) := by decide +kernel
theorem dX9_pack_26 : decode cX9_pack 26 = .ok (.getfield 40, 3) := by decide +kernel
theorem dX9_pack_29 : decode cX9_pack 29 = .ok (.iload_n 2, 1) := by decide +kernel
theorem dX9_pack_30 : decode cX9_pack 30 = .ok (.iconst 0, 1) := by decide +kernel
theorem dX9_pack_31 : decode cX9_pack 31 = .ok (.iastore, 1) := by decide +kernel
theorem dX9_pack_32 : decode cX9_pack 32 = .ok (.iinc 2 1, 3) := by decide +kernel
theorem dX9_pack_35 : decode cX9_pack 35 = .ok (.goto (-16), 3) := by decide +kernel
theorem dX9_pack_38 : decode cX9_pack 38 = .ok (.iconst 0, 1) := by decide +kernel
theorem dX9_pack_39 : decode cX9_pack 39 = .ok (.istore_n 2, 1) := by decide +kernel
theorem dX9_pack_40 : decode cX9_pack 40 = .ok (.iload_n 2, 1) := by decide +kernel
theorem dX9_pack_41 : decode cX9_pack 41 = .ok (.aload_n 0, 1) := by decide +kernel
theorem dX9_pack_42 : decode cX9_pack 42 = .ok (.getfield 7, 3) := by decide +kernel
theorem dX9_pack_45 : decode cX9_pack 45 = .ok (.iconst 2, 1) := by decide +kernel
theorem dX9_pack_46 : decode cX9_pack 46 = .ok (.iaload, 1) := by decide +kernel
theorem dX9_pack_47 : decode cX9_pack 47 = .ok (.if_icmp .ge 115, 3) := by decide +kernel
theorem dX9_pack_50 : decode cX9_pack 50 = .ok (.iconst 0, 1) := by decide +kernel
theorem dX9_pack_51 : decode cX9_pack 51 = .ok (.istore_n 3, 1) := by decide +kernel
theorem dX9_pack_52 : decode cX9_pack 52 = .ok (.iload_n 3, 1) := by decide +kernel
theorem dX9_pack_53 : decode cX9_pack 53 = .ok (.bipush 6, 2) := by decide +kernel
theorem dX9_pack_55 : decode cX9_pack 55 = .ok (.if_icmp .ge 101, 3) := by decide +kernel
theorem dX9_pack_58 : decode cX9_pack 58 = .ok (.aload_n 0, 1) := by decide +kernel
theorem dX9_pack_59 : decode cX9_pack 59 = .ok (.iload_n 2, 1) := by decide +kernel
theorem dX9_pack_60 : decode cX9_pack 60 = .ok (.iload_n 3, 1) := by decide +kernel
theorem dX9_pack_61 : decode cX9_pack 61 = .ok (.invokevirtual 91, 3) := by decide +kernel
theorem dX9_pack_64 : decode cX9_pack 64 = .ok (.istore 4, 2) := by decide +kernel
theorem dX9_pack_66 : decode cX9_pack 66 = .ok (.aload_n 0, 1) := by decide +kernel
theorem dX9_pack_67 : decode cX9_pack 67 = .ok (.iload_n 2, 1) := by decide +kernel
theorem dX9_pack_68 : decode cX9_pack 68 = .ok (.iload_n 3, 1) := by decide +kernel
theorem dX9_pack_69 : decode cX9_pack 69 = .ok (.iload 4, 2) := by decide +kernel
theorem dX9_pack_71 : decode cX9_pack 71 = .ok (.invokevirtual 190, 3) := by decide +kernel
theorem dX9_pack_74 : decode cX9_pack 74 = .ok (.istore 5, 2) := by decide +kernel
theorem dX9_pack_76 : decode cX9_pack 76 = .ok (.iload_n 1, 1) := by decide +kernel
theorem dX9_pack_77 : decode cX9_pack 77 = .ok (.istore 6, 2) := by decide +kernel
theorem dX9_pack_79 : decode cX9_pack 79 = .ok (.iload 6, 2) := by decide +kernel
theorem dX9_pack_81 : decode cX9_pack 81 = .ok (.iload 4, 2) := by decide +kernel
theorem dX9_pack_83 : decode cX9_pack 83 = .ok (.if_icmp .lt 67, 3) := by decide +kernel
theorem dX9_pack_86 : decode cX9_pack 86 = .ok (.iload 4, 2) := by decide +kernel
theorem dX9_pack_88 : decode cX9_pack 88 = .ok (.ifCond .le 62, 3) := by decide +kernel
theorem dX9_pack_91 : decode cX9_pack 91 = .ok (.aload_n 0, 1) := by decide +kernel
theorem dX9_pack_92 : decode cX9_pack 92 = .ok (.getfield 40, 3) := by decide +kernel
theorem dX9_pack_95 : decode cX9_pack 95 = .ok (.iload 6, 2) := by decide +kernel
theorem dX9_pack_97 : decode cX9_pack 97 = .ok (.aload_n 0, 1) := by decide +kernel
theorem dX9_pack_98 : decode cX9_pack 98 = .ok (.getfield 40, 3) := by decide +kernel
theorem dX9_pack_101 : decode cX9_pack 101 = .ok (.iload 6, 2) := by decide +kernel
theorem dX9_pack_103 : decode cX9_pack 103 = .ok (.iload 4, 2) := by decide +kernel
theorem dX9_pack_105 : decode cX9_pack 105 = .ok (.isub, 1) := by decide +kernel
theorem dX9_pack_106 : decode cX9_pack 106 = .ok (.iaload, 1) := by decide +kernel
theorem dX9_pack_107 : decode cX9_pack 107 = .ok (.iload 5, 2) := by decide +kernel
theorem dX9_pack_109 : decode cX9_pack 109 = .ok (.iadd, 1) := by decide +kernel
theorem dX9_pack_110 : decode cX9_pack 110 = .ok (.aload_n 0, 1) := by decide +kernel
theorem dX9_pack_111 : decode cX9_pack 111 = .ok (.getfield 40, 3) := by decide +kernel
theorem dX9_pack_114 : decode cX9_pack 114 = .ok (.iload 6, 2) := by decide +kernel
theorem dX9_pack_116 : decode cX9_pack 116 = .ok (.iaload, 1) := by decide +kernel
theorem dX9_pack_117 : decode cX9_pack 117 = .ok (.if_icmp .le 19, 3) := by decide +kernel
theorem dX9_pack_120 : decode cX9_pack 120 = .ok (.aload_n 0, 1) := by decide +kernel
theorem dX9_pack_121 : decode cX9_pack 121 = .ok (.getfield 40, 3) := by decide +kernel
theorem dX9_pack_124 : decode cX9_pack 124 = .ok (.iload 6, 2) := by decide +kernel
theorem dX9_pack_126 : decode cX9_pack 126 = .ok (.iload 4, 2) := by decide +kernel
theorem dX9_pack_128 : decode cX9_pack 128 = .ok (.isub, 1) := by decide +kernel
theorem dX9_pack_129 : decode cX9_pack 129 = .ok (.iaload, 1) := by decide +kernel
theorem dX9_pack_130 : decode cX9_pack 130 = .ok (.iload 5, 2) := by decide +kernel
theorem dX9_pack_132 : decode cX9_pack 132 = .ok (.iadd, 1) := by decide +kernel
theorem dX9_pack_133 : decode cX9_pack 133 = .ok (.goto 10, 3) := by decide +kernel
theorem dX9_pack_136 : decode cX9_pack 136 = .ok (.aload_n 0, 1) := by decide +kernel
theorem dX9_pack_137 : decode cX9_pack 137 = .ok (.getfield 40, 3) := by decide +kernel
theorem dX9_pack_140 : decode cX9_pack 140 = .ok (.iload 6, 2) := by decide +kernel
theorem dX9_pack_142 : decode cX9_pack 142 = .ok (.iaload, 1) := by decide +kernel
theorem dX9_pack_143 : decode cX9_pack 143 = .ok (.iastore, 1) := by decide +kernel
theorem dX9_pack_144 : decode cX9_pack 144 = .ok (.iinc 6 (-1), 3) := by decide +kernel
theorem dX9_pack_147 : decode cX9_pack 147 = .ok (.goto (-68), 3) := by decide +kernel
theorem dX9_pack_150 : decode cX9_pack 150 = .ok (.iinc 3 1, 3) := by decide +kernel
theorem dX9_pack_153 : decode cX9_pack 153 = .ok (.goto (-101), 3) := by decide +kernel
theorem dX9_pack_156 : decode cX9_pack 156 = .ok (.iinc 2 1, 3) := by decide +kernel
theorem dX9_pack_159 : decode cX9_pack 159 = .ok (.goto (-119), 3) := by decide +kernel
theorem dX9_pack_162 : decode cX9_pack 162 = .ok (.aload_n 0, 1) := by decide +kernel
theorem dX9_pack_163 : decode cX9_pack 163 = .ok (.getfield 40, 3) := by decide +kernel
theorem dX9_pack_166 : decode cX9_pack 166 = .ok (.iload_n 1, 1) := by decide +kernel
theorem dX9_pack_167 : decode cX9_pack 167 = .ok (.iaload, 1) := by decide +kernel
theorem dX9_pack_168 : decode cX9_pack 168 = .ok (.ireturn, 1) := by decide +kernel
theorem dX9_few_0 : decode cX9_few 0 = .ok (.iload_n 1, 1) := by decide +kernel
theorem dX9_few_1 : decode cX9_few 1 = .ok (.iconst 0, 1) := by decide +kernel
theorem dX9_few_2 : decode cX9_few 2 = .ok (.sipush 999, 3) := by decide +kernel
theorem dX9_few_5 : decode cX9_few 5 = .ok (.invokestatic 53, 3) := by decide +kernel
theorem dX9_few_8 : decode cX9_few 8 = .ok (.ifCond .ne 10, 3) := by decide +kernel
theorem dX9_few_11 : decode cX9_few 11 = .ok (.aload_n 0, 1) := by decide +kernel
theorem dX9_few_12 : decode cX9_few 12 = .ok (.ldc 65, 2) := by decide +kernel
theorem dX9_few_14 : decode cX9_few 14 = .ok (.invokevirtual 66, 3) := by decide +kernel
theorem dX9_few_17 : decode cX9_few 17 = .ok (.ireturn, 1) := by decide +kernel
theorem dX9_few_18 : decode cX9_few 18 = .ok (.iconst 0, 1) := by decide +kernel
theorem dX9_few_19 : decode cX9_few 19 = .ok (.istore_n 2, 1) := by decide +kernel
theorem dX9_few_20 : decode cX9_few 20 = .ok (.iload_n 2, 1) := by decide +kernel
theorem dX9_few_21 : decode cX9_few 21 = .ok (.bipush 10, 2) := by decide +kernel
theorem dX9_few_23 : decode cX9_few 23 = .ok (.if_icmp .ge 16, 3) := by decide +kernel
theorem dX9_few_26 : decode cX9_few 26 = .ok (.aload_n 0, 1) := by decide +kernel
theorem dX9_few_27 : decode cX9_few 27 = .ok (.getfield 43, 3) := by decide +kernel
theorem dX9_few_30 : decode cX9_few 30 = .ok (.iload_n 2, 1) := by decide +kernel
theorem dX9_few_31 : decode cX9_few 31 = .ok (.iconst 0, 1) := by decide +kernel
theorem dX9_few_32 : decode cX9_few 32 = .ok (.iastore, 1) := by decide +kernel
theorem dX9_few_33 : decode cX9_few 33 = .ok (.iinc 2 1, 3) := by decide +kernel
theorem dX9_few_36 : decode cX9_few 36 = .ok (.goto (-16), 3) := by decide +kernel
theorem dX9_few_39 : decode cX9_few 39 = .ok (.iconst 0, 1) := by decide +kernel
theorem dX9_few_40 : decode cX9_few 40 = .ok (.istore_n 2, 1) := by decide +kernel
theorem dX9_few_41 : decode cX9_few 41 = .ok (.iload_n 2, 1) := by decide +kernel
theorem dX9_few_42 : decode cX9_few 42 = .ok (.aload_n 0, 1) := by decide +kernel
theorem dX9_few_43 : decode cX9_few 43 = .ok (.getfield 7, 3) := by decide +kernel
theorem dX9_few_46 : decode cX9_few 46 = .ok (.iconst 2, 1) := by decide +kernel
theorem dX9_few_47 : decode cX9_few 47 = .ok (.iaload, 1) := by decide +kernel
theorem dX9_few_48 : decode cX9_few 48 = .ok (.if_icmp .ge 57, 3) := by decide +kernel
theorem dX9_few_51 : decode cX9_few 51 = .ok (.iconst 0, 1) := by decide +kernel
theorem dX9_few_52 : decode cX9_few 52 = .ok (.istore_n 3, 1) := by decide +kernel
theorem dX9_few_53 : decode cX9_few 53 = .ok (.iload_n 3, 1) := by decide +kernel
theorem dX9_few_54 : decode cX9_few 54 = .ok (.bipush 6, 2) := by decide +kernel
theorem dX9_few_56 : decode cX9_few 56 = .ok (.if_icmp .ge 43, 3) := by decide +kernel
theorem dX9_few_59 : decode cX9_few 59 = .ok (.aload_n 0, 1) := by decide +kernel
theorem dX9_few_60 : decode cX9_few 60 = .ok (.getfield 43, 3) := by decide +kernel
theorem dX9_few_63 : decode cX9_few 63 = .ok (.aload_n 0, 1) := by decide +kernel
theorem dX9_few_64 : decode cX9_few 64 = .ok (.iload_n 2, 1) := by decide +kernel
theorem dX9_few_65 : decode cX9_few 65 = .ok (.iload_n 3, 1) := by decide +kernel
theorem dX9_few_66 : decode cX9_few 66 = .ok (.aload_n 0, 1) := by decide +kernel
theorem dX9_few_67 : decode cX9_few 67 = .ok (.iload_n 2, 1) := by decide +kernel
theorem dX9_few_68 : decode cX9_few 68 = .ok (.iload_n 3, 1) := by decide +kernel
theorem dX9_few_69 : decode cX9_few 69 = .ok (.invokevirtual 91, 3) := by decide +kernel
theorem dX9_few_72 : decode cX9_few 72 = .ok (.invokevirtual 190, 3) := by decide +kernel
theorem dX9_few_75 : decode cX9_few 75 = .ok (.dup2, 1) := by decide +kernel
theorem dX9_few_76 : decode cX9_few 76 = .ok (.iaload, 1) := by decide +kernel
theorem dX9_few_77 : decode cX9_few 77 = .ok (.aload_n 0, 1) := by decide +kernel
theorem dX9_few_78 : decode cX9_few 78 = .ok (.iload_n 2, 1) := by decide +kernel
theorem dX9_few_79 : decode cX9_few 79 = .ok (.iload_n 3, 1) := by decide +kernel
theorem dX9_few_80 : decode cX9_few 80 = .ok (.invokevirtual 91, 3) := by decide +kernel
theorem dX9_few_83 : decode cX9_few 83 = .ok (.ifCond .le 7, 3) := by decide +kernel
theorem dX9_few_86 : decode cX9_few 86 = .ok (.iconst 1, 1) := by decide +kernel
theorem dX9_few_87 : decode cX9_few 87 = .ok (.goto 4, 3) := by decide +kernel
theorem dX9_few_90 : decode cX9_few 90 = .ok (.iconst 0, 1) := by decide +kernel
theorem dX9_few_91 : decode cX9_few 91 = .ok (.iadd, 1) := by decide +kernel
theorem dX9_few_92 : decode cX9_few 92 = .ok (.iastore, 1) := by decide +kernel
theorem dX9_few_93 : decode cX9_few 93 = .ok (.iinc 3 1, 3) := by decide +kernel
theorem dX9_few_96 : decode cX9_few 96 = .ok (.goto (-43), 3) := by decide +kernel
theorem dX9_few_99 : decode cX9_few 99 = .ok (.iinc 2 1, 3) := by decide +kernel
theorem dX9_few_102 : decode cX9_few 102 = .ok (.goto (-61), 3) := by decide +kernel
theorem dX9_few_105 : decode cX9_few 105 = .ok (.iconst 0, 1) := by decide +kernel
theorem dX9_few_106 : decode cX9_few 106 = .ok (.istore_n 2, 1) := by decide +kernel
theorem dX9_few_107 : decode cX9_few 107 = .ok (.iconst 0, 1) := by decide +kernel
theorem dX9_few_108 : decode cX9_few 108 = .ok (.istore_n 3, 1) := by decide +kernel
theorem dX9_few_109 : decode cX9_few 109 = .ok (.bipush 9, 2) := by decide +kernel
theorem dX9_few_111 : decode cX9_few 111 = .ok (.istore 4, 2) := by decide +kernel
theorem dX9_few_113 : decode cX9_few 113 = .ok (.iload 4, 2) := by decide +kernel
theorem dX9_few_115 : decode cX9_few 115 = .ok (.ifCond .le 43, 3) := by decide +kernel
theorem dX9_few_118 : decode cX9_few 118 = .ok (.iconst 0, 1) := by decide +kernel
theorem dX9_few_119 : decode cX9_few 119 = .ok (.istore 5, 2) := by decide +kernel
theorem dX9_few_121 : decode cX9_few 121 = .ok (.iload 5, 2) := by decide +kernel
theorem dX9_few_123 : decode cX9_few 123 = .ok (.aload_n 0, 1) := by decide +kernel
theorem dX9_few_124 : decode cX9_few 124 = .ok (.getfield 43, 3) := by decide +kernel
theorem dX9_few_127 : decode cX9_few 127 = .ok (.iload 4, 2) := by decide +kernel
theorem dX9_few_129 : decode cX9_few 129 = .ok (.iaload, 1) := by decide +kernel
theorem dX9_few_130 : decode cX9_few 130 = .ok (.if_icmp .ge 22, 3) := by decide +kernel
theorem dX9_few_133 : decode cX9_few 133 = .ok (.iload_n 3, 1) := by decide +kernel
theorem dX9_few_134 : decode cX9_few 134 = .ok (.iload_n 1, 1) := by decide +kernel
theorem dX9_few_135 : decode cX9_few 135 = .ok (.if_icmp .ge 17, 3) := by decide +kernel
theorem dX9_few_138 : decode cX9_few 138 = .ok (.iload_n 3, 1) := by decide +kernel
theorem dX9_few_139 : decode cX9_few 139 = .ok (.iload 4, 2) := by decide +kernel
theorem dX9_few_141 : decode cX9_few 141 = .ok (.iadd, 1) := by decide +kernel
theorem dX9_few_142 : decode cX9_few 142 = .ok (.istore_n 3, 1) := by decide +kernel
theorem dX9_few_143 : decode cX9_few 143 = .ok (.iinc 2 1, 3) := by decide +kernel
theorem dX9_few_146 : decode cX9_few 146 = .ok (.iinc 5 1, 3) := by decide +kernel
theorem dX9_few_149 : decode cX9_few 149 = .ok (.goto (-28), 3) := by decide +kernel
theorem dX9_few_152 : decode cX9_few 152 = .ok (.iinc 4 (-1), 3) := by decide +kernel
theorem dX9_few_155 : decode cX9_few 155 = .ok (.goto (-42), 3) := by decide +kernel
theorem dX9_few_158 : decode cX9_few 158 = .ok (.iload_n 3, 1) := by decide +kernel
theorem dX9_few_159 : decode cX9_few 159 = .ok (.iload_n 1, 1) := by decide +kernel
theorem dX9_few_160 : decode cX9_few 160 = .ok (.if_icmp .ge 12, 3) := by decide +kernel
theorem dX9_few_163 : decode cX9_few 163 = .ok (.aload_n 0, 1) := by decide +kernel
theorem dX9_few_164 : decode cX9_few 164 = .ok (.ldc 214, 2) := by decide +kernel
theorem dX9_few_166 : decode cX9_few 166 = .ok (.invokevirtual 66, 3) := by decide +kernel
theorem dX9_few_169 : decode cX9_few 169 = .ok (.goto 4, 3) := by decide +kernel
theorem dX9_few_172 : decode cX9_few 172 = .ok (.iload_n 2, 1) := by decide +kernel
theorem dX9_few_173 : decode cX9_few 173 = .ok (.ireturn, 1) := by decide +kernel
theorem dX9_brokenSet_0 : decode cX9_brokenSet 0 = .ok (.iconst 0, 1) := by decide +kernel
theorem dX9_brokenSet_1 : decode cX9_brokenSet 1 = .ok (.istore_n 1, 1) := by decide +kernel
theorem dX9_brokenSet_2 : decode cX9_brokenSet 2 = .ok (.iconst 0, 1) := by decide +kernel
theorem dX9_brokenSet_3 : decode cX9_brokenSet 3 = .ok (.istore_n 2, 1) := by decide +kernel
theorem dX9_brokenSet_4 : decode cX9_brokenSet 4 = .ok (.iload_n 2, 1) := by decide +kernel
theorem dX9_brokenSet_5 : decode cX9_brokenSet 5 = .ok (.aload_n 0, 1) := by decide +kernel
theorem dX9_brokenSet_6 : decode cX9_brokenSet 6 = .ok (.getfield 7, 3) := by decide +kernel
theorem dX9_brokenSet_9 : decode cX9_brokenSet 9 = .ok (.iconst 2, 1) := by decide +kernel
theorem dX9_brokenSet_10 : decode cX9_brokenSet 10 = .ok (.iaload, 1) := by decide +kernel
theorem dX9_brokenSet_11 : decode cX9_brokenSet 11 = .ok (.if_icmp .ge 30, 3) := by decide +kernel
theorem dX9_brokenSet_14 : decode cX9_brokenSet 14 = .ok (.iload_n 1, 1) := by decide +kernel
theorem dX9_brokenSet_15 : decode cX9_brokenSet 15 = .ok (.aload_n 0, 1) := by decide +kernel
theorem dX9_brokenSet_16 : decode cX9_brokenSet 16 = .ok (.iload_n 2, 1) := by decide +kernel
theorem dX9_brokenSet_17 : decode cX9_brokenSet 17 = .ok (.iconst 2, 1) := by decide +kernel
theorem dX9_brokenSet_18 : decode cX9_brokenSet 18 = .ok (.invokevirtual 85, 3) := by decide +kernel
theorem dX9_brokenSet_21 : decode cX9_brokenSet 21 = .ok (.bipush 9, 2) := by decide +kernel
theorem dX9_brokenSet_23 : decode cX9_brokenSet 23 = .ok (.if_icmp .ne 9, 3) := by decide +kernel
theorem dX9_brokenSet_26 : decode cX9_brokenSet 26 = .ok (.iconst 1, 1) := by decide +kernel
theorem dX9_brokenSet_27 : decode cX9_brokenSet 27 = .ok (.iload_n 2, 1) := by decide +kernel
theorem dX9_brokenSet_28 : decode cX9_brokenSet 28 = .ok (.ishl, 1) := by decide +kernel
theorem dX9_brokenSet_29 : decode cX9_brokenSet 29 = .ok (.goto 4, 3) := by decide +kernel
theorem dX9_brokenSet_32 : decode cX9_brokenSet 32 = .ok (.iconst 0, 1) := by decide +kernel
theorem dX9_brokenSet_33 : decode cX9_brokenSet 33 = .ok (.ior, 1) := by decide +kernel
theorem dX9_brokenSet_34 : decode cX9_brokenSet 34 = .ok (.istore_n 1, 1) := by decide +kernel
theorem dX9_brokenSet_35 : decode cX9_brokenSet 35 = .ok (.iinc 2 1, 3) := by decide +kernel
theorem dX9_brokenSet_38 : decode cX9_brokenSet 38 = .ok (.goto (-34), 3) := by decide +kernel
theorem dX9_brokenSet_41 : decode cX9_brokenSet 41 = .ok (.iload_n 1, 1) := by decide +kernel
theorem dX9_brokenSet_42 : decode cX9_brokenSet 42 = .ok (.ireturn, 1) := by decide +kernel
theorem dX9_broken_0 : decode cX9_broken 0 = .ok (.iload_n 1, 1) := by decide +kernel
theorem dX9_broken_1 : decode cX9_broken 1 = .ok (.iconst 0, 1) := by decide +kernel
theorem dX9_broken_2 : decode cX9_broken 2 = .ok (.bipush 60, 2) := by decide +kernel
theorem dX9_broken_4 : decode cX9_broken 4 = .ok (.invokestatic 53, 3) := by decide +kernel
theorem dX9_broken_7 : decode cX9_broken 7 = .ok (.ifCond .ne 10, 3) := by decide +kernel
theorem dX9_broken_10 : decode cX9_broken 10 = .ok (.aload_n 0, 1) := by decide +kernel
theorem dX9_broken_11 : decode cX9_broken 11 = .ok (.ldc 65, 2) := by decide +kernel
theorem dX9_broken_13 : decode cX9_broken 13 = .ok (.invokevirtual 66, 3) := by decide +kernel
theorem dX9_broken_16 : decode cX9_broken 16 = .ok (.ireturn, 1) := by decide +kernel
theorem dX9_broken_17 : decode cX9_broken 17 = .ok (.aload_n 0, 1) := by decide +kernel
theorem dX9_broken_18 : decode cX9_broken 18 = .ok (.aload_n 0, 1) := by decide +kernel
theorem dX9_broken_19 : decode cX9_broken 19 = .ok (.getfield 7, 3) := by decide +kernel
theorem dX9_broken_22 : decode cX9_broken 22 = .ok (.aload_n 0, 1) := by decide +kernel
theorem dX9_broken_23 : decode cX9_broken 23 = .ok (.getfield 16, 3) := by decide +kernel
theorem dX9_broken_26 : decode cX9_broken 26 = .ok (.invokevirtual 174, 3) := by decide +kernel
theorem dX9_broken_29 : decode cX9_broken 29 = .ok (.aload_n 0, 1) := by decide +kernel
theorem dX9_broken_30 : decode cX9_broken 30 = .ok (.iload_n 1, 1) := by decide +kernel
theorem dX9_broken_31 : decode cX9_broken 31 = .ok (.invokevirtual 206, 3) := by decide +kernel
theorem dX9_broken_34 : decode cX9_broken 34 = .ok (.aload_n 0, 1) := by decide +kernel
theorem dX9_broken_35 : decode cX9_broken 35 = .ok (.invokevirtual 235, 3) := by decide +kernel
theorem dX9_broken_38 : decode cX9_broken 38 = .ok (.istore_n 2, 1) := by decide +kernel
theorem dX9_broken_39 : decode cX9_broken 39 = .ok (.aload_n 0, 1) := by decide +kernel
theorem dX9_broken_40 : decode cX9_broken 40 = .ok (.aload_n 0, 1) := by decide +kernel
theorem dX9_broken_41 : decode cX9_broken 41 = .ok (.getfield 16, 3) := by decide +kernel
theorem dX9_broken_44 : decode cX9_broken 44 = .ok (.aload_n 0, 1) := by decide +kernel
theorem dX9_broken_45 : decode cX9_broken 45 = .ok (.getfield 7, 3) := by decide +kernel
theorem dX9_broken_48 : decode cX9_broken 48 = .ok (.invokevirtual 174, 3) := by decide +kernel
theorem dX9_broken_51 : decode cX9_broken 51 = .ok (.iload_n 2, 1) := by decide +kernel
theorem dX9_broken_52 : decode cX9_broken 52 = .ok (.ireturn, 1) := by decide +kernel
theorem dX9_swill_0 : decode cX9_swill 0 = .ok (.iload_n 1, 1) := by decide +kernel
theorem dX9_swill_1 : decode cX9_swill 1 = .ok (.iconst 0, 1) := by decide +kernel
theorem dX9_swill_2 : decode cX9_swill 2 = .ok (.bipush 60, 2) := by decide +kernel
theorem dX9_swill_4 : decode cX9_swill 4 = .ok (.invokestatic 53, 3) := by decide +kernel
theorem dX9_swill_7 : decode cX9_swill 7 = .ok (.ifCond .ne 10, 3) := by decide +kernel
theorem dX9_swill_10 : decode cX9_swill 10 = .ok (.aload_n 0, 1) := by decide +kernel
theorem dX9_swill_11 : decode cX9_swill 11 = .ok (.ldc 65, 2) := by decide +kernel
theorem dX9_swill_13 : decode cX9_swill 13 = .ok (.invokevirtual 66, 3) := by decide +kernel
theorem dX9_swill_16 : decode cX9_swill 16 = .ok (.ireturn, 1) := by decide +kernel
theorem dX9_swill_17 : decode cX9_swill 17 = .ok (.aload_n 0, 1) := by decide +kernel
theorem dX9_swill_18 : decode cX9_swill 18 = .ok (.aload_n 0, 1) := by decide +kernel
theorem dX9_swill_19 : decode cX9_swill 19 = .ok (.getfield 7, 3) := by decide +kernel
theorem dX9_swill_22 : decode cX9_swill 22 = .ok (.aload_n 0, 1) := by decide +kernel
theorem dX9_swill_23 : decode cX9_swill 23 = .ok (.getfield 16, 3) := by decide +kernel
theorem dX9_swill_26 : decode cX9_swill 26 = .ok (.invokevirtual 174, 3) := by decide +kernel
theorem dX9_swill_29 : decode cX9_swill 29 = .ok (.aload_n 0, 1) := by decide +kernel
theorem dX9_swill_30 : decode cX9_swill 30 = .ok (.iload_n 1, 1) := by decide +kernel
theorem dX9_swill_31 : decode cX9_swill 31 = .ok (.invokevirtual 206, 3) := by decide +kernel
theorem dX9_swill_34 : decode cX9_swill 34 = .ok (.aload_n 0, 1) := by decide +kernel
theorem dX9_swill_35 : decode cX9_swill 35 = .ok (.getfield 7, 3) := by decide +kernel
theorem dX9_swill_38 : decode cX9_swill 38 = .ok (.iconst 4, 1) := by decide +kernel
theorem dX9_swill_39 : decode cX9_swill 39 = .ok (.iaload, 1) := by decide +kernel
theorem dX9_swill_40 : decode cX9_swill 40 = .ok (.aload_n 0, 1) := by decide +kernel
theorem dX9_swill_41 : decode cX9_swill 41 = .ok (.getfield 16, 3) := by decide +kernel
theorem dX9_swill_44 : decode cX9_swill 44 = .ok (.iconst 4, 1) := by decide +kernel
theorem dX9_swill_45 : decode cX9_swill 45 = .ok (.iaload, 1) := by decide +kernel
theorem dX9_swill_46 : decode cX9_swill 46 = .ok (.isub, 1) := by decide +kernel
theorem dX9_swill_47 : decode cX9_swill 47 = .ok (.istore_n 2, 1) := by decide +kernel
theorem dX9_swill_48 : decode cX9_swill 48 = .ok (.aload_n 0, 1) := by decide +kernel
theorem dX9_swill_49 : decode cX9_swill 49 = .ok (.aload_n 0, 1) := by decide +kernel
theorem dX9_swill_50 : decode cX9_swill 50 = .ok (.getfield 16, 3) := by decide +kernel
theorem dX9_swill_53 : decode cX9_swill 53 = .ok (.aload_n 0, 1) := by decide +kernel
theorem dX9_swill_54 : decode cX9_swill 54 = .ok (.getfield 7, 3) := by decide +kernel
theorem dX9_swill_57 : decode cX9_swill 57 = .ok (.invokevirtual 174, 3) := by decide +kernel
theorem dX9_swill_60 : decode cX9_swill 60 = .ok (.iload_n 2, 1) := by decide +kernel
theorem dX9_swill_61 : decode cX9_swill 61 = .ok (.ireturn, 1) := by decide +kernel
theorem dX9_leftOfAll_0 : decode cX9_leftOfAll 0 = .ok (.iconst 0, 1) := by decide +kernel
theorem dX9_leftOfAll_1 : decode cX9_leftOfAll 1 = .ok (.istore_n 2, 1) := by decide +kernel
theorem dX9_leftOfAll_2 : decode cX9_leftOfAll 2 = .ok (.iconst 0, 1) := by decide +kernel
theorem dX9_leftOfAll_3 : decode cX9_leftOfAll 3 = .ok (.istore_n 3, 1) := by decide +kernel
theorem dX9_leftOfAll_4 : decode cX9_leftOfAll 4 = .ok (.iload_n 3, 1) := by decide +kernel
theorem dX9_leftOfAll_5 : decode cX9_leftOfAll 5 = .ok (.bipush 6, 2) := by decide +kernel
theorem dX9_leftOfAll_7 : decode cX9_leftOfAll 7 = .ok (.if_icmp .ge 18, 3) := by decide +kernel
theorem dX9_leftOfAll_10 : decode cX9_leftOfAll 10 = .ok (.iload_n 2, 1) := by decide +kernel
theorem dX9_leftOfAll_11 : decode cX9_leftOfAll 11 = .ok (.aload_n 0, 1) := by decide +kernel
theorem dX9_leftOfAll_12 : decode cX9_leftOfAll 12 = .ok (.iload_n 1, 1) := by decide +kernel
theorem dX9_leftOfAll_13 : decode cX9_leftOfAll 13 = .ok (.iload_n 3, 1) := by decide +kernel
theorem dX9_leftOfAll_14 : decode cX9_leftOfAll 14 = .ok (.invokevirtual 91, 3) := by decide +kernel
theorem dX9_leftOfAll_17 : decode cX9_leftOfAll 17 = .ok (.iadd, 1) := by decide +kernel
theorem dX9_leftOfAll_18 : decode cX9_leftOfAll 18 = .ok (.istore_n 2, 1) := by decide +kernel
theorem dX9_leftOfAll_19 : decode cX9_leftOfAll 19 = .ok (.iinc 3 1, 3) := by decide +kernel
theorem dX9_leftOfAll_22 : decode cX9_leftOfAll 22 = .ok (.goto (-18), 3) := by decide +kernel
theorem dX9_leftOfAll_25 : decode cX9_leftOfAll 25 = .ok (.iload_n 2, 1) := by decide +kernel
theorem dX9_leftOfAll_26 : decode cX9_leftOfAll 26 = .ok (.ireturn, 1) := by decide +kernel
theorem dX9_cheer_0 : decode cX9_cheer 0 = .ok (.aload_n 0, 1) := by decide +kernel
theorem dX9_cheer_1 : decode cX9_cheer 1 = .ok (.iload_n 1, 1) := by decide +kernel
theorem dX9_cheer_2 : decode cX9_cheer 2 = .ok (.invokevirtual 82, 3) := by decide +kernel
theorem dX9_cheer_5 : decode cX9_cheer 5 = .ok (.ifCond .eq 13, 3) := by decide +kernel
theorem dX9_cheer_8 : decode cX9_cheer 8 = .ok (.iload_n 2, 1) := by decide +kernel
theorem dX9_cheer_9 : decode cX9_cheer 9 = .ok (.iconst 0, 1) := by decide +kernel
theorem dX9_cheer_10 : decode cX9_cheer 10 = .ok (.bipush 24, 2) := by decide +kernel
theorem dX9_cheer_12 : decode cX9_cheer 12 = .ok (.invokestatic 53, 3) := by decide +kernel
theorem dX9_cheer_15 : decode cX9_cheer 15 = .ok (.ifCond .ne 10, 3) := by decide +kernel
theorem dX9_cheer_18 : decode cX9_cheer 18 = .ok (.aload_n 0, 1) := by decide +kernel
theorem dX9_cheer_19 : decode cX9_cheer 19 = .ok (.ldc 65, 2) := by decide +kernel
theorem dX9_cheer_21 : decode cX9_cheer 21 = .ok (.invokevirtual 66, 3) := by decide +kernel
theorem dX9_cheer_24 : decode cX9_cheer 24 = .ok (.ireturn, 1) := by decide +kernel
theorem dX9_cheer_25 : decode cX9_cheer 25 = .ok (.aload_n 0, 1) := by decide +kernel
theorem dX9_cheer_26 : decode cX9_cheer 26 = .ok (.iload_n 1, 1) := by decide +kernel
theorem dX9_cheer_27 : decode cX9_cheer 27 = .ok (.iconst 2, 1) := by decide +kernel
theorem dX9_cheer_28 : decode cX9_cheer 28 = .ok (.invokevirtual 85, 3) := by decide +kernel
theorem dX9_cheer_31 : decode cX9_cheer 31 = .ok (.istore_n 3, 1) := by decide +kernel
theorem dX9_cheer_32 : decode cX9_cheer 32 = .ok (.iconst (-1), 1) := by decide +kernel
theorem dX9_cheer_33 : decode cX9_cheer 33 = .ok (.istore 4, 2) := by decide +kernel
theorem dX9_cheer_35 : decode cX9_cheer 35 = .ok (.iconst 0, 1) := by decide +kernel
theorem dX9_cheer_36 : decode cX9_cheer 36 = .ok (.istore 5, 2) := by decide +kernel
theorem dX9_cheer_38 : decode cX9_cheer 38 = .ok (.iload 5, 2) := by decide +kernel
theorem dX9_cheer_40 : decode cX9_cheer 40 = .ok (.bipush 9, 2) := by decide +kernel
theorem dX9_cheer_42 : decode cX9_cheer 42 = .ok (.if_icmp .gt 35, 3) := by decide +kernel
theorem dX9_cheer_45 : decode cX9_cheer 45 = .ok (.aload_n 0, 1) := by decide +kernel
theorem dX9_cheer_46 : decode cX9_cheer 46 = .ok (.iload_n 1, 1) := by decide +kernel
theorem dX9_cheer_47 : decode cX9_cheer 47 = .ok (.iconst 2, 1) := by decide +kernel
theorem dX9_cheer_48 : decode cX9_cheer 48 = .ok (.iload 5, 2) := by decide +kernel
theorem dX9_cheer_50 : decode cX9_cheer 50 = .ok (.invokevirtual 78, 3) := by decide +kernel
theorem dX9_cheer_53 : decode cX9_cheer 53 = .ok (.aload_n 0, 1) := by decide +kernel
theorem dX9_cheer_54 : decode cX9_cheer 54 = .ok (.iload_n 1, 1) := by decide +kernel
theorem dX9_cheer_55 : decode cX9_cheer 55 = .ok (.invokevirtual 238, 3) := by decide +kernel
theorem dX9_cheer_58 : decode cX9_cheer 58 = .ok (.iload_n 2, 1) := by decide +kernel
theorem dX9_cheer_59 : decode cX9_cheer 59 = .ok (.if_icmp .gt 8, 3) := by decide +kernel
theorem dX9_cheer_62 : decode cX9_cheer 62 = .ok (.iload 5, 2) := by decide +kernel
theorem dX9_cheer_64 : decode cX9_cheer 64 = .ok (.goto 5, 3) := by decide +kernel
theorem dX9_cheer_67 : decode cX9_cheer 67 = .ok (.iload 4, 2) := by decide +kernel
theorem dX9_cheer_69 : decode cX9_cheer 69 = .ok (.istore 4, 2) := by decide +kernel
theorem dX9_cheer_71 : decode cX9_cheer 71 = .ok (.iinc 5 1, 3) := by decide +kernel
theorem dX9_cheer_74 : decode cX9_cheer 74 = .ok (.goto (-36), 3) := by decide +kernel
theorem dX9_cheer_77 : decode cX9_cheer 77 = .ok (.aload_n 0, 1) := by decide +kernel
theorem dX9_cheer_78 : decode cX9_cheer 78 = .ok (.iload_n 1, 1) := by decide +kernel
theorem dX9_cheer_79 : decode cX9_cheer 79 = .ok (.iconst 2, 1) := by decide +kernel
theorem dX9_cheer_80 : decode cX9_cheer 80 = .ok (.iload_n 3, 1) := by decide +kernel
theorem dX9_cheer_81 : decode cX9_cheer 81 = .ok (.invokevirtual 78, 3) := by decide +kernel
theorem dX9_cheer_84 : decode cX9_cheer 84 = .ok (.iload 4, 2) := by decide +kernel
theorem dX9_cheer_86 : decode cX9_cheer 86 = .ok (.ifCond .ge 12, 3) := by decide +kernel
theorem dX9_cheer_89 : decode cX9_cheer 89 = .ok (.aload_n 0, 1) := by decide +kernel
theorem dX9_cheer_90 : decode cX9_cheer 90 = .ok (.ldc 214, 2) := by decide +kernel
theorem dX9_cheer_92 : decode cX9_cheer 92 = .ok (.invokevirtual 66, 3) := by decide +kernel
theorem dX9_cheer_95 : decode cX9_cheer 95 = .ok (.goto 5, 3) := by decide +kernel
theorem dX9_cheer_98 : decode cX9_cheer 98 = .ok (.iload 4, 2) := by decide +kernel
theorem dX9_cheer_100 : decode cX9_cheer 100 = .ok (.ireturn, 1) := by decide +kernel
theorem dX9_odds_0 : decode cX9_odds 0 = .ok (.aload_n 0, 1) := by decide +kernel
theorem dX9_odds_1 : decode cX9_odds 1 = .ok (.iload_n 1, 1) := by decide +kernel
theorem dX9_odds_2 : decode cX9_odds 2 = .ok (.invokevirtual 82, 3) := by decide +kernel
theorem dX9_odds_5 : decode cX9_odds 5 = .ok (.ifCond .eq 33, 3) := by decide +kernel
theorem dX9_odds_8 : decode cX9_odds 8 = .ok (.iload_n 2, 1) := by decide +kernel
theorem dX9_odds_9 : decode cX9_odds 9 = .ok (.iconst 0, 1) := by decide +kernel
theorem dX9_odds_10 : decode cX9_odds 10 = .ok (.bipush 30, 2) := by decide +kernel
theorem dX9_odds_12 : decode cX9_odds 12 = .ok (.invokestatic 53, 3) := by decide +kernel
theorem dX9_odds_15 : decode cX9_odds 15 = .ok (.ifCond .eq 23, 3) := by decide +kernel
theorem dX9_odds_18 : decode cX9_odds 18 = .ok (.iload_n 3, 1) := by decide +kernel
theorem dX9_odds_19 : decode cX9_odds 19 = .ok (.iconst 0, 1) := by decide +kernel
theorem dX9_odds_20 : decode cX9_odds 20 = .ok (.bipush 99, 2) := by decide +kernel
theorem dX9_odds_22 : decode cX9_odds 22 = .ok (.invokestatic 53, 3) := by decide +kernel
theorem dX9_odds_25 : decode cX9_odds 25 = .ok (.ifCond .eq 13, 3) := by decide +kernel
theorem dX9_odds_28 : decode cX9_odds 28 = .ok (.iload 4, 2) := by decide +kernel
theorem dX9_odds_30 : decode cX9_odds 30 = .ok (.iconst 0, 1) := by decide +kernel
theorem dX9_odds_31 : decode cX9_odds 31 = .ok (.iconst 1, 1) := by decide +kernel
theorem dX9_odds_32 : decode cX9_odds 32 = .ok (.invokestatic 53, 3) := by decide +kernel
theorem dX9_odds_35 : decode cX9_odds 35 = .ok (.ifCond .ne 10, 3) := by decide +kernel
theorem dX9_odds_38 : decode cX9_odds 38 = .ok (.aload_n 0, 1) := by decide +kernel
theorem dX9_odds_39 : decode cX9_odds 39 = .ok (.ldc 65, 2) := by decide +kernel
theorem dX9_odds_41 : decode cX9_odds 41 = .ok (.invokevirtual 66, 3) := by decide +kernel
theorem dX9_odds_44 : decode cX9_odds 44 = .ok (.ireturn, 1) := by decide +kernel
theorem dX9_odds_45 : decode cX9_odds 45 = .ok (.aload_n 0, 1) := by decide +kernel
theorem dX9_odds_46 : decode cX9_odds 46 = .ok (.aload_n 0, 1) := by decide +kernel
theorem dX9_odds_47 : decode cX9_odds 47 = .ok (.getfield 7, 3) := by decide +kernel
theorem dX9_odds_50 : decode cX9_odds 50 = .ok (.aload_n 0, 1) := by decide +kernel
theorem dX9_odds_51 : decode cX9_odds 51 = .ok (.getfield 16, 3) := by decide +kernel
theorem dX9_odds_54 : decode cX9_odds 54 = .ok (.invokevirtual 174, 3) := by decide +kernel
theorem dX9_odds_57 : decode cX9_odds 57 = .ok (.iconst 0, 1) := by decide +kernel
theorem dX9_odds_58 : decode cX9_odds 58 = .ok (.istore 5, 2) := by decide +kernel
theorem dX9_odds_60 : decode cX9_odds 60 = .ok (.iconst 0, 1) := by decide +kernel
theorem dX9_odds_61 : decode cX9_odds 61 = .ok (.istore 6, 2) := by decide +kernel
theorem dX9_odds_63 : decode cX9_odds 63 = .ok (.iload 6, 2) := by decide +kernel
theorem dX9_odds_65 : decode cX9_odds 65 = .ok (.bipush 10, 2) := by decide +kernel
theorem dX9_odds_67 : decode cX9_odds 67 = .ok (.if_icmp .ge 33, 3) := by decide +kernel
theorem dX9_odds_70 : decode cX9_odds 70 = .ok (.iload 5, 2) := by decide +kernel
theorem dX9_odds_72 : decode cX9_odds 72 = .ok (.aload_n 0, 1) := by decide +kernel
theorem dX9_odds_73 : decode cX9_odds 73 = .ok (.iload_n 1, 1) := by decide +kernel
theorem dX9_odds_74 : decode cX9_odds 74 = .ok (.iconst 4, 1) := by decide +kernel
theorem dX9_odds_75 : decode cX9_odds 75 = .ok (.iload 6, 2) := by decide +kernel
theorem dX9_odds_77 : decode cX9_odds 77 = .ok (.imul, 1) := by decide +kernel
theorem dX9_odds_78 : decode cX9_odds 78 = .ok (.iload_n 2, 1) := by decide +kernel
theorem dX9_odds_79 : decode cX9_odds 79 = .ok (.iload_n 3, 1) := by decide +kernel
theorem dX9_odds_80 : decode cX9_odds 80 = .ok (.invokevirtual 218, 3) := by decide +kernel
theorem dX9_odds_83 : decode cX9_odds 83 = .ok (.ifCond .eq 7, 3) := by decide +kernel
theorem dX9_odds_86 : decode cX9_odds 86 = .ok (.iconst 1, 1) := by decide +kernel
theorem dX9_odds_87 : decode cX9_odds 87 = .ok (.goto 4, 3) := by decide +kernel
theorem dX9_odds_90 : decode cX9_odds 90 = .ok (.iconst 0, 1) := by decide +kernel
theorem dX9_odds_91 : decode cX9_odds 91 = .ok (.iadd, 1) := by decide +kernel
theorem dX9_odds_92 : decode cX9_odds 92 = .ok (.istore 5, 2) := by decide +kernel
theorem dX9_odds_94 : decode cX9_odds 94 = .ok (.iinc 6 1, 3) := by decide +kernel
theorem dX9_odds_97 : decode cX9_odds 97 = .ok (.goto (-34), 3) := by decide +kernel
theorem dX9_odds_100 : decode cX9_odds 100 = .ok (.iload 5, 2) := by decide +kernel
theorem dX9_odds_102 : decode cX9_odds 102 = .ok (.bipush 10, 2) := by decide +kernel
theorem dX9_odds_104 : decode cX9_odds 104 = .ok (.irem, 1) := by decide +kernel
theorem dX9_odds_105 : decode cX9_odds 105 = .ok (.ifCond .ne 8, 3) := by decide +kernel
theorem dX9_odds_108 : decode cX9_odds 108 = .ok (.bipush 10, 2) := by decide +kernel
theorem dX9_odds_110 : decode cX9_odds 110 = .ok (.goto 25, 3) := by decide +kernel
theorem dX9_odds_113 : decode cX9_odds 113 = .ok (.iload 5, 2) := by decide +kernel
theorem dX9_odds_115 : decode cX9_odds 115 = .ok (.iconst 5, 1) := by decide +kernel
theorem dX9_odds_116 : decode cX9_odds 116 = .ok (.if_icmp .ne 7, 3) := by decide +kernel
theorem dX9_odds_119 : decode cX9_odds 119 = .ok (.iconst 5, 1) := by decide +kernel
theorem dX9_odds_120 : decode cX9_odds 120 = .ok (.goto 15, 3) := by decide +kernel
theorem dX9_odds_123 : decode cX9_odds 123 = .ok (.iload 5, 2) := by decide +kernel
theorem dX9_odds_125 : decode cX9_odds 125 = .ok (.iconst 2, 1) := by decide +kernel
theorem dX9_odds_126 : decode cX9_odds 126 = .ok (.irem, 1) := by decide +kernel
theorem dX9_odds_127 : decode cX9_odds 127 = .ok (.ifCond .ne 7, 3) := by decide +kernel
theorem dX9_odds_130 : decode cX9_odds 130 = .ok (.iconst 2, 1) := by decide +kernel
theorem dX9_odds_131 : decode cX9_odds 131 = .ok (.goto 4, 3) := by decide +kernel
theorem dX9_odds_134 : decode cX9_odds 134 = .ok (.iconst 1, 1) := by decide +kernel
theorem dX9_odds_135 : decode cX9_odds 135 = .ok (.istore 6, 2) := by decide +kernel
theorem dX9_odds_137 : decode cX9_odds 137 = .ok (.iload 4, 2) := by decide +kernel
theorem dX9_odds_139 : decode cX9_odds 139 = .ok (.ifCond .ne 11, 3) := by decide +kernel
theorem dX9_odds_142 : decode cX9_odds 142 = .ok (.iload 5, 2) := by decide +kernel
theorem dX9_odds_144 : decode cX9_odds 144 = .ok (.iload 6, 2) := by decide +kernel
theorem dX9_odds_146 : decode cX9_odds 146 = .ok (.idiv, 1) := by decide +kernel
theorem dX9_odds_147 : decode cX9_odds 147 = .ok (.goto 8, 3) := by decide +kernel
theorem dX9_odds_150 : decode cX9_odds 150 = .ok (.bipush 10, 2) := by decide +kernel
theorem dX9_odds_152 : decode cX9_odds 152 = .ok (.iload 6, 2) := by decide +kernel
theorem dX9_odds_154 : decode cX9_odds 154 = .ok (.idiv, 1) := by decide +kernel
theorem dX9_odds_155 : decode cX9_odds 155 = .ok (.ireturn, 1) := by decide +kernel
theorem dX9_seed_0 : decode cX9_seed 0 = .ok (.aload_n 0, 1) := by decide +kernel
theorem dX9_seed_1 : decode cX9_seed 1 = .ok (.getfield 7, 3) := by decide +kernel
theorem dX9_seed_4 : decode cX9_seed 4 = .ok (.iconst 1, 1) := by decide +kernel
theorem dX9_seed_5 : decode cX9_seed 5 = .ok (.iaload, 1) := by decide +kernel
theorem dX9_seed_6 : decode cX9_seed 6 = .ok (.istore_n 2, 1) := by decide +kernel
theorem dX9_seed_7 : decode cX9_seed 7 = .ok (.aload_n 0, 1) := by decide +kernel
theorem dX9_seed_8 : decode cX9_seed 8 = .ok (.getfield 7, 3) := by decide +kernel
theorem dX9_seed_11 : decode cX9_seed 11 = .ok (.iconst 1, 1) := by decide +kernel
theorem dX9_seed_12 : decode cX9_seed 12 = .ok (.iload_n 1, 1) := by decide +kernel
theorem dX9_seed_13 : decode cX9_seed 13 = .ok (.iastore, 1) := by decide +kernel
theorem dX9_seed_14 : decode cX9_seed 14 = .ok (.iload_n 2, 1) := by decide +kernel
theorem dX9_seed_15 : decode cX9_seed 15 = .ok (.ireturn, 1) := by decide +kernel
theorem dX9_ran_0 : decode cX9_ran 0 = .ok (.aload_n 0, 1) := by decide +kernel
theorem dX9_ran_1 : decode cX9_ran 1 = .ok (.getfield 241, 3) := by decide +kernel
theorem dX9_ran_4 : decode cX9_ran 4 = .ok (.bipush 40, 2) := by decide +kernel
theorem dX9_ran_6 : decode cX9_ran 6 = .ok (.if_icmp .ge 23, 3) := by decide +kernel
theorem dX9_ran_9 : decode cX9_ran 9 = .ok (.aload_n 0, 1) := by decide +kernel
theorem dX9_ran_10 : decode cX9_ran 10 = .ok (.getfield 46, 3) := by decide +kernel
theorem dX9_ran_13 : decode cX9_ran 13 = .ok (.aload_n 0, 1) := by decide +kernel
theorem dX9_ran_14 : decode cX9_ran 14 = .ok (.getfield 241, 3) := by decide +kernel
theorem dX9_ran_17 : decode cX9_ran 17 = .ok (.iload_n 1, 1) := by decide +kernel
theorem dX9_ran_18 : decode cX9_ran 18 = .ok (.iastore, 1) := by decide +kernel
theorem dX9_ran_19 : decode cX9_ran 19 = .ok (.aload_n 0, 1) := by decide +kernel
theorem dX9_ran_20 : decode cX9_ran 20 = .ok (.dup, 1) := by decide +kernel
theorem dX9_ran_21 : decode cX9_ran 21 = .ok (.getfield 241, 3) := by decide +kernel
theorem dX9_ran_24 : decode cX9_ran 24 = .ok (.iconst 1, 1) := by decide +kernel
theorem dX9_ran_25 : decode cX9_ran 25 = .ok (.iadd, 1) := by decide +kernel
theorem dX9_ran_26 : decode cX9_ran 26 = .ok (.putfield 241, 3) := by decide +kernel
theorem dX9_ran_29 : decode cX9_ran 29 = .ok (.return_, 1) := by decide +kernel
theorem dX9_leavesIn_0 : decode cX9_leavesIn 0 = .ok (.iload_n 1, 1) := by decide +kernel
theorem dX9_leavesIn_1 : decode cX9_leavesIn 1 = .ok (.ifCond .ne 16, 3) := by decide +kernel
theorem dX9_leavesIn_4 : decode cX9_leavesIn 4 = .ok (.aload_n 0, 1) := by decide +kernel
theorem dX9_leavesIn_5 : decode cX9_leavesIn 5 = .ok (.bipush 10, 2) := by decide +kernel
theorem dX9_leavesIn_7 : decode cX9_leavesIn 7 = .ok (.invokevirtual 244, 3) := by decide +kernel
theorem dX9_leavesIn_10 : decode cX9_leavesIn 10 = .ok (.iload_n 2, 1) := by decide +kernel
theorem dX9_leavesIn_11 : decode cX9_leavesIn 11 = .ok (.aload_n 0, 1) := by decide +kernel
theorem dX9_leavesIn_12 : decode cX9_leavesIn 12 = .ok (.getfield 247, 3) := by decide +kernel
theorem dX9_leavesIn_15 : decode cX9_leavesIn 15 = .ok (.iadd, 1) := by decide +kernel
theorem dX9_leavesIn_16 : decode cX9_leavesIn 16 = .ok (.ireturn, 1) := by decide +kernel
theorem dX9_leavesIn_17 : decode cX9_leavesIn 17 = .ok (.iload_n 1, 1) := by decide +kernel
theorem dX9_leavesIn_18 : decode cX9_leavesIn 18 = .ok (.iconst 1, 1) := by decide +kernel
theorem dX9_leavesIn_19 : decode cX9_leavesIn 19 = .ok (.if_icmp .ne 18, 3) := by decide +kernel
theorem dX9_leavesIn_22 : decode cX9_leavesIn 22 = .ok (.aload_n 0, 1) := by decide +kernel
theorem dX9_leavesIn_23 : decode cX9_leavesIn 23 = .ok (.bipush 20, 2) := by decide +kernel
theorem dX9_leavesIn_25 : decode cX9_leavesIn 25 = .ok (.invokevirtual 244, 3) := by decide +kernel
theorem dX9_leavesIn_28 : decode cX9_leavesIn 28 = .ok (.aload_n 0, 1) := by decide +kernel
theorem dX9_leavesIn_29 : decode cX9_leavesIn 29 = .ok (.iconst 0, 1) := by decide +kernel
theorem dX9_leavesIn_30 : decode cX9_leavesIn 30 = .ok (.iload_n 2, 1) := by decide +kernel
theorem dX9_leavesIn_31 : decode cX9_leavesIn 31 = .ok (.invokevirtual 250, 3) := by decide +kernel
theorem dX9_leavesIn_34 : decode cX9_leavesIn 34 = .ok (.iconst 3, 1) := by decide +kernel
theorem dX9_leavesIn_35 : decode cX9_leavesIn 35 = .ok (.imul, 1) := by decide +kernel
theorem dX9_leavesIn_36 : decode cX9_leavesIn 36 = .ok (.ireturn, 1) := by decide +kernel
theorem dX9_leavesIn_37 : decode cX9_leavesIn 37 = .ok (.aload_n 0, 1) := by decide +kernel
theorem dX9_leavesIn_38 : decode cX9_leavesIn 38 = .ok (.iload_n 1, 1) := by decide +kernel
theorem dX9_leavesIn_39 : decode cX9_leavesIn 39 = .ok (.invokestatic 94, 3) := by decide +kernel
theorem dX9_leavesIn_42 : decode cX9_leavesIn 42 = .ok (.iload_n 2, 1) := by decide +kernel
theorem dX9_leavesIn_43 : decode cX9_leavesIn 43 = .ok (.invokevirtual 250, 3) := by decide +kernel
theorem dX9_leavesIn_46 : decode cX9_leavesIn 46 = .ok (.ireturn, 1) := by decide +kernel
theorem dX9_grievesIn_0 : decode cX9_grievesIn 0 = .ok (.iload_n 1, 1) := by decide +kernel
theorem dX9_grievesIn_1 : decode cX9_grievesIn 1 = .ok (.ifCond .ne 16, 3) := by decide +kernel
theorem dX9_grievesIn_4 : decode cX9_grievesIn 4 = .ok (.aload_n 0, 1) := by decide +kernel
theorem dX9_grievesIn_5 : decode cX9_grievesIn 5 = .ok (.bipush 12, 2) := by decide +kernel
theorem dX9_grievesIn_7 : decode cX9_grievesIn 7 = .ok (.invokevirtual 244, 3) := by decide +kernel
theorem dX9_grievesIn_10 : decode cX9_grievesIn 10 = .ok (.iload_n 2, 1) := by decide +kernel
theorem dX9_grievesIn_11 : decode cX9_grievesIn 11 = .ok (.aload_n 0, 1) := by decide +kernel
theorem dX9_grievesIn_12 : decode cX9_grievesIn 12 = .ok (.getfield 253, 3) := by decide +kernel
theorem dX9_grievesIn_15 : decode cX9_grievesIn 15 = .ok (.isub, 1) := by decide +kernel
theorem dX9_grievesIn_16 : decode cX9_grievesIn 16 = .ok (.ireturn, 1) := by decide +kernel
theorem dX9_grievesIn_17 : decode cX9_grievesIn 17 = .ok (.iload_n 1, 1) := by decide +kernel
theorem dX9_grievesIn_18 : decode cX9_grievesIn 18 = .ok (.iconst 3, 1) := by decide +kernel
theorem dX9_grievesIn_19 : decode cX9_grievesIn 19 = .ok (.if_icmp .ne 17, 3) := by decide +kernel
theorem dX9_grievesIn_22 : decode cX9_grievesIn 22 = .ok (.aload_n 0, 1) := by decide +kernel
theorem dX9_grievesIn_23 : decode cX9_grievesIn 23 = .ok (.bipush 40, 2) := by decide +kernel
theorem dX9_grievesIn_25 : decode cX9_grievesIn 25 = .ok (.invokevirtual 244, 3) := by decide +kernel
theorem dX9_grievesIn_28 : decode cX9_grievesIn 28 = .ok (.aload_n 0, 1) := by decide +kernel
theorem dX9_grievesIn_29 : decode cX9_grievesIn 29 = .ok (.iconst 0, 1) := by decide +kernel
theorem dX9_grievesIn_30 : decode cX9_grievesIn 30 = .ok (.iload_n 2, 1) := by decide +kernel
theorem dX9_grievesIn_31 : decode cX9_grievesIn 31 = .ok (.invokevirtual 256, 3) := by decide +kernel
theorem dX9_grievesIn_34 : decode cX9_grievesIn 34 = .ok (.ineg, 1) := by decide +kernel
theorem dX9_grievesIn_35 : decode cX9_grievesIn 35 = .ok (.ireturn, 1) := by decide +kernel
theorem dX9_grievesIn_36 : decode cX9_grievesIn 36 = .ok (.iload_n 1, 1) := by decide +kernel
theorem dX9_grievesIn_37 : decode cX9_grievesIn 37 = .ok (.bipush 6, 2) := by decide +kernel
theorem dX9_grievesIn_39 : decode cX9_grievesIn 39 = .ok (.if_icmp .ne 21, 3) := by decide +kernel
theorem dX9_grievesIn_42 : decode cX9_grievesIn 42 = .ok (.aload_n 0, 1) := by decide +kernel
theorem dX9_grievesIn_43 : decode cX9_grievesIn 43 = .ok (.bipush 70, 2) := by decide +kernel
theorem dX9_grievesIn_45 : decode cX9_grievesIn 45 = .ok (.invokevirtual 244, 3) := by decide +kernel
theorem dX9_grievesIn_48 : decode cX9_grievesIn 48 = .ok (.aload_n 0, 1) := by decide +kernel
theorem dX9_grievesIn_49 : decode cX9_grievesIn 49 = .ok (.iconst 3, 1) := by decide +kernel
theorem dX9_grievesIn_50 : decode cX9_grievesIn 50 = .ok (.iload_n 2, 1) := by decide +kernel
theorem dX9_grievesIn_51 : decode cX9_grievesIn 51 = .ok (.invokevirtual 256, 3) := by decide +kernel
theorem dX9_grievesIn_54 : decode cX9_grievesIn 54 = .ok (.aload_n 0, 1) := by decide +kernel
theorem dX9_grievesIn_55 : decode cX9_grievesIn 55 = .ok (.getfield 247, 3) := by decide +kernel
theorem dX9_grievesIn_58 : decode cX9_grievesIn 58 = .ok (.ixor, 1) := by decide +kernel
theorem dX9_grievesIn_59 : decode cX9_grievesIn 59 = .ok (.ireturn, 1) := by decide +kernel
theorem dX9_grievesIn_60 : decode cX9_grievesIn 60 = .ok (.aload_n 0, 1) := by decide +kernel
theorem dX9_grievesIn_61 : decode cX9_grievesIn 61 = .ok (.iload_n 1, 1) := by decide +kernel
theorem dX9_grievesIn_62 : decode cX9_grievesIn 62 = .ok (.invokestatic 94, 3) := by decide +kernel
theorem dX9_grievesIn_65 : decode cX9_grievesIn 65 = .ok (.iload_n 2, 1) := by decide +kernel
theorem dX9_grievesIn_66 : decode cX9_grievesIn 66 = .ok (.invokevirtual 256, 3) := by decide +kernel
theorem dX9_grievesIn_69 : decode cX9_grievesIn 69 = .ok (.ireturn, 1) := by decide +kernel
theorem dX9_mendsIn_0 : decode cX9_mendsIn 0 = .ok (.iload_n 1, 1) := by decide +kernel
theorem dX9_mendsIn_1 : decode cX9_mendsIn 1 = .ok (.ifCond .ne 21, 3) := by decide +kernel
theorem dX9_mendsIn_4 : decode cX9_mendsIn 4 = .ok (.aload_n 0, 1) := by decide +kernel
theorem dX9_mendsIn_5 : decode cX9_mendsIn 5 = .ok (.bipush 11, 2) := by decide +kernel
theorem dX9_mendsIn_7 : decode cX9_mendsIn 7 = .ok (.invokevirtual 244, 3) := by decide +kernel
theorem dX9_mendsIn_10 : decode cX9_mendsIn 10 = .ok (.aload_n 0, 1) := by decide +kernel
theorem dX9_mendsIn_11 : decode cX9_mendsIn 11 = .ok (.aload_n 0, 1) := by decide +kernel
theorem dX9_mendsIn_12 : decode cX9_mendsIn 12 = .ok (.getfield 259, 3) := by decide +kernel
theorem dX9_mendsIn_15 : decode cX9_mendsIn 15 = .ok (.iload_n 2, 1) := by decide +kernel
theorem dX9_mendsIn_16 : decode cX9_mendsIn 16 = .ok (.invokevirtual 250, 3) := by decide +kernel
theorem dX9_mendsIn_19 : decode cX9_mendsIn 19 = .ok (.iconst 2, 1) := by decide +kernel
theorem dX9_mendsIn_20 : decode cX9_mendsIn 20 = .ok (.imul, 1) := by decide +kernel
theorem dX9_mendsIn_21 : decode cX9_mendsIn 21 = .ok (.ireturn, 1) := by decide +kernel
theorem dX9_mendsIn_22 : decode cX9_mendsIn 22 = .ok (.iload_n 1, 1) := by decide +kernel
theorem dX9_mendsIn_23 : decode cX9_mendsIn 23 = .ok (.iconst 2, 1) := by decide +kernel
theorem dX9_mendsIn_24 : decode cX9_mendsIn 24 = .ok (.if_icmp .ne 28, 3) := by decide +kernel
theorem dX9_mendsIn_27 : decode cX9_mendsIn 27 = .ok (.aload_n 0, 1) := by decide +kernel
theorem dX9_mendsIn_28 : decode cX9_mendsIn 28 = .ok (.bipush 30, 2) := by decide +kernel
theorem dX9_mendsIn_30 : decode cX9_mendsIn 30 = .ok (.invokevirtual 244, 3) := by decide +kernel
theorem dX9_mendsIn_33 : decode cX9_mendsIn 33 = .ok (.aload_n 0, 1) := by decide +kernel
theorem dX9_mendsIn_34 : decode cX9_mendsIn 34 = .ok (.iconst 0, 1) := by decide +kernel
theorem dX9_mendsIn_35 : decode cX9_mendsIn 35 = .ok (.iload_n 2, 1) := by decide +kernel
theorem dX9_mendsIn_36 : decode cX9_mendsIn 36 = .ok (.invokevirtual 262, 3) := by decide +kernel
theorem dX9_mendsIn_39 : decode cX9_mendsIn 39 = .ok (.istore_n 3, 1) := by decide +kernel
theorem dX9_mendsIn_40 : decode cX9_mendsIn 40 = .ok (.iload_n 3, 1) := by decide +kernel
theorem dX9_mendsIn_41 : decode cX9_mendsIn 41 = .ok (.aload_n 0, 1) := by decide +kernel
theorem dX9_mendsIn_42 : decode cX9_mendsIn 42 = .ok (.aload_n 0, 1) := by decide +kernel
theorem dX9_mendsIn_43 : decode cX9_mendsIn 43 = .ok (.getfield 259, 3) := by decide +kernel
theorem dX9_mendsIn_46 : decode cX9_mendsIn 46 = .ok (.iconst 1, 1) := by decide +kernel
theorem dX9_mendsIn_47 : decode cX9_mendsIn 47 = .ok (.invokevirtual 256, 3) := by decide +kernel
theorem dX9_mendsIn_50 : decode cX9_mendsIn 50 = .ok (.isub, 1) := by decide +kernel
theorem dX9_mendsIn_51 : decode cX9_mendsIn 51 = .ok (.ireturn, 1) := by decide +kernel
theorem dX9_mendsIn_52 : decode cX9_mendsIn 52 = .ok (.iload_n 1, 1) := by decide +kernel
theorem dX9_mendsIn_53 : decode cX9_mendsIn 53 = .ok (.iconst 5, 1) := by decide +kernel
theorem dX9_mendsIn_54 : decode cX9_mendsIn 54 = .ok (.if_icmp .ne 18, 3) := by decide +kernel
theorem dX9_mendsIn_57 : decode cX9_mendsIn 57 = .ok (.aload_n 0, 1) := by decide +kernel
theorem dX9_mendsIn_58 : decode cX9_mendsIn 58 = .ok (.bipush 60, 2) := by decide +kernel
theorem dX9_mendsIn_60 : decode cX9_mendsIn 60 = .ok (.invokevirtual 244, 3) := by decide +kernel
theorem dX9_mendsIn_63 : decode cX9_mendsIn 63 = .ok (.aload_n 0, 1) := by decide +kernel
theorem dX9_mendsIn_64 : decode cX9_mendsIn 64 = .ok (.iconst 2, 1) := by decide +kernel
theorem dX9_mendsIn_65 : decode cX9_mendsIn 65 = .ok (.iload_n 2, 1) := by decide +kernel
theorem dX9_mendsIn_66 : decode cX9_mendsIn 66 = .ok (.iconst 1, 1) := by decide +kernel
theorem dX9_mendsIn_67 : decode cX9_mendsIn 67 = .ok (.iadd, 1) := by decide +kernel
theorem dX9_mendsIn_68 : decode cX9_mendsIn 68 = .ok (.invokevirtual 262, 3) := by decide +kernel
theorem dX9_mendsIn_71 : decode cX9_mendsIn 71 = .ok (.ireturn, 1) := by decide +kernel
theorem dX9_mendsIn_72 : decode cX9_mendsIn 72 = .ok (.aload_n 0, 1) := by decide +kernel
theorem dX9_mendsIn_73 : decode cX9_mendsIn 73 = .ok (.iload_n 1, 1) := by decide +kernel
theorem dX9_mendsIn_74 : decode cX9_mendsIn 74 = .ok (.invokestatic 94, 3) := by decide +kernel
theorem dX9_mendsIn_77 : decode cX9_mendsIn 77 = .ok (.iload_n 2, 1) := by decide +kernel
theorem dX9_mendsIn_78 : decode cX9_mendsIn 78 = .ok (.invokevirtual 262, 3) := by decide +kernel
theorem dX9_mendsIn_81 : decode cX9_mendsIn 81 = .ok (.ireturn, 1) := by decide +kernel
theorem dX9_tellsIn_0 : decode cX9_tellsIn 0 = .ok (.iload_n 1, 1) := by decide +kernel
theorem dX9_tellsIn_1 : decode cX9_tellsIn 1 = .ok (.ifCond .ne 31, 3) := by decide +kernel
theorem dX9_tellsIn_4 : decode cX9_tellsIn 4 = .ok (.aload_n 0, 1) := by decide +kernel
theorem dX9_tellsIn_5 : decode cX9_tellsIn 5 = .ok (.bipush 13, 2) := by decide +kernel
theorem dX9_tellsIn_7 : decode cX9_tellsIn 7 = .ok (.invokevirtual 244, 3) := by decide +kernel
theorem dX9_tellsIn_10 : decode cX9_tellsIn 10 = .ok (.aload_n 0, 1) := by decide +kernel
theorem dX9_tellsIn_11 : decode cX9_tellsIn 11 = .ok (.aload_n 0, 1) := by decide +kernel
theorem dX9_tellsIn_12 : decode cX9_tellsIn 12 = .ok (.getfield 259, 3) := by decide +kernel
theorem dX9_tellsIn_15 : decode cX9_tellsIn 15 = .ok (.iload_n 2, 1) := by decide +kernel
theorem dX9_tellsIn_16 : decode cX9_tellsIn 16 = .ok (.invokevirtual 262, 3) := by decide +kernel
theorem dX9_tellsIn_19 : decode cX9_tellsIn 19 = .ok (.istore_n 3, 1) := by decide +kernel
theorem dX9_tellsIn_20 : decode cX9_tellsIn 20 = .ok (.iload_n 3, 1) := by decide +kernel
theorem dX9_tellsIn_21 : decode cX9_tellsIn 21 = .ok (.aload_n 0, 1) := by decide +kernel
theorem dX9_tellsIn_22 : decode cX9_tellsIn 22 = .ok (.aload_n 0, 1) := by decide +kernel
theorem dX9_tellsIn_23 : decode cX9_tellsIn 23 = .ok (.getfield 259, 3) := by decide +kernel
theorem dX9_tellsIn_26 : decode cX9_tellsIn 26 = .ok (.iload_n 2, 1) := by decide +kernel
theorem dX9_tellsIn_27 : decode cX9_tellsIn 27 = .ok (.invokevirtual 256, 3) := by decide +kernel
theorem dX9_tellsIn_30 : decode cX9_tellsIn 30 = .ok (.ixor, 1) := by decide +kernel
theorem dX9_tellsIn_31 : decode cX9_tellsIn 31 = .ok (.ireturn, 1) := by decide +kernel
theorem dX9_tellsIn_32 : decode cX9_tellsIn 32 = .ok (.iload_n 1, 1) := by decide +kernel
theorem dX9_tellsIn_33 : decode cX9_tellsIn 33 = .ok (.iconst 4, 1) := by decide +kernel
theorem dX9_tellsIn_34 : decode cX9_tellsIn 34 = .ok (.if_icmp .ne 28, 3) := by decide +kernel
theorem dX9_tellsIn_37 : decode cX9_tellsIn 37 = .ok (.aload_n 0, 1) := by decide +kernel
theorem dX9_tellsIn_38 : decode cX9_tellsIn 38 = .ok (.bipush 50, 2) := by decide +kernel
theorem dX9_tellsIn_40 : decode cX9_tellsIn 40 = .ok (.invokevirtual 244, 3) := by decide +kernel
theorem dX9_tellsIn_43 : decode cX9_tellsIn 43 = .ok (.aload_n 0, 1) := by decide +kernel
theorem dX9_tellsIn_44 : decode cX9_tellsIn 44 = .ok (.iconst 1, 1) := by decide +kernel
theorem dX9_tellsIn_45 : decode cX9_tellsIn 45 = .ok (.iload_n 2, 1) := by decide +kernel
theorem dX9_tellsIn_46 : decode cX9_tellsIn 46 = .ok (.invokevirtual 265, 3) := by decide +kernel
theorem dX9_tellsIn_49 : decode cX9_tellsIn 49 = .ok (.istore_n 3, 1) := by decide +kernel
theorem dX9_tellsIn_50 : decode cX9_tellsIn 50 = .ok (.iload_n 3, 1) := by decide +kernel
theorem dX9_tellsIn_51 : decode cX9_tellsIn 51 = .ok (.aload_n 0, 1) := by decide +kernel
theorem dX9_tellsIn_52 : decode cX9_tellsIn 52 = .ok (.aload_n 0, 1) := by decide +kernel
theorem dX9_tellsIn_53 : decode cX9_tellsIn 53 = .ok (.getfield 259, 3) := by decide +kernel
theorem dX9_tellsIn_56 : decode cX9_tellsIn 56 = .ok (.iconst 2, 1) := by decide +kernel
theorem dX9_tellsIn_57 : decode cX9_tellsIn 57 = .ok (.invokevirtual 250, 3) := by decide +kernel
theorem dX9_tellsIn_60 : decode cX9_tellsIn 60 = .ok (.isub, 1) := by decide +kernel
theorem dX9_tellsIn_61 : decode cX9_tellsIn 61 = .ok (.ireturn, 1) := by decide +kernel
theorem dX9_tellsIn_62 : decode cX9_tellsIn 62 = .ok (.iload_n 1, 1) := by decide +kernel
theorem dX9_tellsIn_63 : decode cX9_tellsIn 63 = .ok (.bipush 6, 2) := by decide +kernel
theorem dX9_tellsIn_65 : decode cX9_tellsIn 65 = .ok (.if_icmp .ne 28, 3) := by decide +kernel
theorem dX9_tellsIn_68 : decode cX9_tellsIn 68 = .ok (.aload_n 0, 1) := by decide +kernel
theorem dX9_tellsIn_69 : decode cX9_tellsIn 69 = .ok (.bipush 71, 2) := by decide +kernel
theorem dX9_tellsIn_71 : decode cX9_tellsIn 71 = .ok (.invokevirtual 244, 3) := by decide +kernel
theorem dX9_tellsIn_74 : decode cX9_tellsIn 74 = .ok (.aload_n 0, 1) := by decide +kernel
theorem dX9_tellsIn_75 : decode cX9_tellsIn 75 = .ok (.aload_n 0, 1) := by decide +kernel
theorem dX9_tellsIn_76 : decode cX9_tellsIn 76 = .ok (.getfield 259, 3) := by decide +kernel
theorem dX9_tellsIn_79 : decode cX9_tellsIn 79 = .ok (.iload_n 2, 1) := by decide +kernel
theorem dX9_tellsIn_80 : decode cX9_tellsIn 80 = .ok (.invokevirtual 262, 3) := by decide +kernel
theorem dX9_tellsIn_83 : decode cX9_tellsIn 83 = .ok (.istore_n 3, 1) := by decide +kernel
theorem dX9_tellsIn_84 : decode cX9_tellsIn 84 = .ok (.iload_n 3, 1) := by decide +kernel
theorem dX9_tellsIn_85 : decode cX9_tellsIn 85 = .ok (.aload_n 0, 1) := by decide +kernel
theorem dX9_tellsIn_86 : decode cX9_tellsIn 86 = .ok (.iconst 3, 1) := by decide +kernel
theorem dX9_tellsIn_87 : decode cX9_tellsIn 87 = .ok (.iload_n 2, 1) := by decide +kernel
theorem dX9_tellsIn_88 : decode cX9_tellsIn 88 = .ok (.invokevirtual 265, 3) := by decide +kernel
theorem dX9_tellsIn_91 : decode cX9_tellsIn 91 = .ok (.isub, 1) := by decide +kernel
theorem dX9_tellsIn_92 : decode cX9_tellsIn 92 = .ok (.ireturn, 1) := by decide +kernel
theorem dX9_tellsIn_93 : decode cX9_tellsIn 93 = .ok (.aload_n 0, 1) := by decide +kernel
theorem dX9_tellsIn_94 : decode cX9_tellsIn 94 = .ok (.iload_n 1, 1) := by decide +kernel
theorem dX9_tellsIn_95 : decode cX9_tellsIn 95 = .ok (.invokestatic 94, 3) := by decide +kernel
theorem dX9_tellsIn_98 : decode cX9_tellsIn 98 = .ok (.iload_n 2, 1) := by decide +kernel
theorem dX9_tellsIn_99 : decode cX9_tellsIn 99 = .ok (.invokevirtual 265, 3) := by decide +kernel
theorem dX9_tellsIn_102 : decode cX9_tellsIn 102 = .ok (.ireturn, 1) := by decide +kernel
theorem dX9_voice_0 : decode cX9_voice 0 = .ok (.aload_n 0, 1) := by decide +kernel
theorem dX9_voice_1 : decode cX9_voice 1 = .ok (.iload_n 1, 1) := by decide +kernel
theorem dX9_voice_2 : decode cX9_voice 2 = .ok (.invokevirtual 82, 3) := by decide +kernel
theorem dX9_voice_5 : decode cX9_voice 5 = .ok (.ifCond .eq 12, 3) := by decide +kernel
theorem dX9_voice_8 : decode cX9_voice 8 = .ok (.iload_n 2, 1) := by decide +kernel
theorem dX9_voice_9 : decode cX9_voice 9 = .ok (.iconst 0, 1) := by decide +kernel
theorem dX9_voice_10 : decode cX9_voice 10 = .ok (.iconst 3, 1) := by decide +kernel
theorem dX9_voice_11 : decode cX9_voice 11 = .ok (.invokestatic 53, 3) := by decide +kernel
theorem dX9_voice_14 : decode cX9_voice 14 = .ok (.ifCond .ne 10, 3) := by decide +kernel
theorem dX9_voice_17 : decode cX9_voice 17 = .ok (.aload_n 0, 1) := by decide +kernel
theorem dX9_voice_18 : decode cX9_voice 18 = .ok (.ldc 65, 2) := by decide +kernel
theorem dX9_voice_20 : decode cX9_voice 20 = .ok (.invokevirtual 66, 3) := by decide +kernel
theorem dX9_voice_23 : decode cX9_voice 23 = .ok (.ireturn, 1) := by decide +kernel
theorem dX9_voice_24 : decode cX9_voice 24 = .ok (.aload_n 0, 1) := by decide +kernel
theorem dX9_voice_25 : decode cX9_voice 25 = .ok (.iconst 0, 1) := by decide +kernel
theorem dX9_voice_26 : decode cX9_voice 26 = .ok (.putfield 241, 3) := by decide +kernel
theorem dX9_voice_29 : decode cX9_voice 29 = .ok (.aload_n 0, 1) := by decide +kernel
theorem dX9_voice_30 : decode cX9_voice 30 = .ok (.aload_n 0, 1) := by decide +kernel
theorem dX9_voice_31 : decode cX9_voice 31 = .ok (.iload_n 1, 1) := by decide +kernel
theorem dX9_voice_32 : decode cX9_voice 32 = .ok (.iconst 0, 1) := by decide +kernel
theorem dX9_voice_33 : decode cX9_voice 33 = .ok (.invokevirtual 85, 3) := by decide +kernel
theorem dX9_voice_36 : decode cX9_voice 36 = .ok (.putfield 259, 3) := by decide +kernel
theorem dX9_voice_39 : decode cX9_voice 39 = .ok (.aload_n 0, 1) := by decide +kernel
theorem dX9_voice_40 : decode cX9_voice 40 = .ok (.iload_n 1, 1) := by decide +kernel
theorem dX9_voice_41 : decode cX9_voice 41 = .ok (.putfield 247, 3) := by decide +kernel
theorem dX9_voice_44 : decode cX9_voice 44 = .ok (.aload_n 0, 1) := by decide +kernel
theorem dX9_voice_45 : decode cX9_voice 45 = .ok (.aload_n 0, 1) := by decide +kernel
theorem dX9_voice_46 : decode cX9_voice 46 = .ok (.iload_n 1, 1) := by decide +kernel
theorem dX9_voice_47 : decode cX9_voice 47 = .ok (.iconst 1, 1) := by decide +kernel
theorem dX9_voice_48 : decode cX9_voice 48 = .ok (.invokevirtual 85, 3) := by decide +kernel
theorem dX9_voice_51 : decode cX9_voice 51 = .ok (.putfield 253, 3) := by decide +kernel
theorem dX9_voice_54 : decode cX9_voice 54 = .ok (.iload_n 2, 1) := by decide +kernel
theorem dX9_voice_55 : decode cX9_voice 55 = .ok (.tableswitch 55 0 2 #[25, 35, 45], 25) := by decide +kernel
theorem dX9_voice_80 : decode cX9_voice 80 = .ok (.aload_n 0, 1) := by decide +kernel
theorem dX9_voice_81 : decode cX9_voice 81 = .ok (.aload_n 0, 1) := by decide +kernel
theorem dX9_voice_82 : decode cX9_voice 82 = .ok (.getfield 259, 3) := by decide +kernel
theorem dX9_voice_85 : decode cX9_voice 85 = .ok (.iload_n 3, 1) := by decide +kernel
theorem dX9_voice_86 : decode cX9_voice 86 = .ok (.invokevirtual 250, 3) := by decide +kernel
theorem dX9_voice_89 : decode cX9_voice 89 = .ok (.ireturn, 1) := by decide +kernel
theorem dX9_voice_90 : decode cX9_voice 90 = .ok (.aload_n 0, 1) := by decide +kernel
theorem dX9_voice_91 : decode cX9_voice 91 = .ok (.aload_n 0, 1) := by decide +kernel
theorem dX9_voice_92 : decode cX9_voice 92 = .ok (.getfield 259, 3) := by decide +kernel
theorem dX9_voice_95 : decode cX9_voice 95 = .ok (.iload_n 3, 1) := by decide +kernel
theorem dX9_voice_96 : decode cX9_voice 96 = .ok (.invokevirtual 262, 3) := by decide +kernel
theorem dX9_voice_99 : decode cX9_voice 99 = .ok (.ireturn, 1) := by decide +kernel
theorem dX9_voice_100 : decode cX9_voice 100 = .ok (.aload_n 0, 1) := by decide +kernel
theorem dX9_voice_101 : decode cX9_voice 101 = .ok (.aload_n 0, 1) := by decide +kernel
theorem dX9_voice_102 : decode cX9_voice 102 = .ok (.getfield 259, 3) := by decide +kernel
theorem dX9_voice_105 : decode cX9_voice 105 = .ok (.iload_n 3, 1) := by decide +kernel
theorem dX9_voice_106 : decode cX9_voice 106 = .ok (.invokevirtual 256, 3) := by decide +kernel
theorem dX9_voice_109 : decode cX9_voice 109 = .ok (.ireturn, 1) := by decide +kernel
theorem dX9_voice_110 : decode cX9_voice 110 = .ok (.aload_n 0, 1) := by decide +kernel
theorem dX9_voice_111 : decode cX9_voice 111 = .ok (.aload_n 0, 1) := by decide +kernel
theorem dX9_voice_112 : decode cX9_voice 112 = .ok (.getfield 259, 3) := by decide +kernel
theorem dX9_voice_115 : decode cX9_voice 115 = .ok (.iload_n 3, 1) := by decide +kernel
theorem dX9_voice_116 : decode cX9_voice 116 = .ok (.invokevirtual 265, 3) := by decide +kernel
theorem dX9_voice_119 : decode cX9_voice 119 = .ok (.ireturn, 1) := by decide +kernel
theorem dX9_trace_0 : decode cX9_trace 0 = .ok (.iload_n 1, 1) := by decide +kernel
theorem dX9_trace_1 : decode cX9_trace 1 = .ok (.iconst 0, 1) := by decide +kernel
theorem dX9_trace_2 : decode cX9_trace 2 = .ok (.aload_n 0, 1) := by decide +kernel
theorem dX9_trace_3 : decode cX9_trace 3 = .ok (.getfield 241, 3) := by decide +kernel
theorem dX9_trace_6 : decode cX9_trace 6 = .ok (.iconst 1, 1) := by decide +kernel
theorem dX9_trace_7 : decode cX9_trace 7 = .ok (.isub, 1) := by decide +kernel
theorem dX9_trace_8 : decode cX9_trace 8 = .ok (.invokestatic 53, 3) := by decide +kernel
theorem dX9_trace_11 : decode cX9_trace 11 = .ok (.ifCond .eq 12, 3) := by decide +kernel
theorem dX9_trace_14 : decode cX9_trace 14 = .ok (.aload_n 0, 1) := by decide +kernel
theorem dX9_trace_15 : decode cX9_trace 15 = .ok (.getfield 46, 3) := by decide +kernel
theorem dX9_trace_18 : decode cX9_trace 18 = .ok (.iload_n 1, 1) := by decide +kernel
theorem dX9_trace_19 : decode cX9_trace 19 = .ok (.iaload, 1) := by decide +kernel
theorem dX9_trace_20 : decode cX9_trace 20 = .ok (.goto 9, 3) := by decide +kernel
theorem dX9_trace_23 : decode cX9_trace 23 = .ok (.aload_n 0, 1) := by decide +kernel
theorem dX9_trace_24 : decode cX9_trace 24 = .ok (.ldc 214, 2) := by decide +kernel
theorem dX9_trace_26 : decode cX9_trace 26 = .ok (.invokevirtual 66, 3) := by decide +kernel
theorem dX9_trace_29 : decode cX9_trace 29 = .ok (.ireturn, 1) := by decide +kernel
theorem dX9_narrow_0 : decode cX9_narrow 0 = .ok (.iload_n 0, 1) := by decide +kernel
theorem dX9_narrow_1 : decode cX9_narrow 1 = .ok (.bipush 8, 2) := by decide +kernel
theorem dX9_narrow_3 : decode cX9_narrow 3 = .ok (.if_icmp .ne 8, 3) := by decide +kernel
theorem dX9_narrow_6 : decode cX9_narrow 6 = .ok (.iload_n 1, 1) := by decide +kernel
theorem dX9_narrow_7 : decode cX9_narrow 7 = .ok (.i2b, 1) := by decide +kernel
theorem dX9_narrow_8 : decode cX9_narrow 8 = .ok (.goto 15, 3) := by decide +kernel
theorem dX9_narrow_11 : decode cX9_narrow 11 = .ok (.iload_n 0, 1) := by decide +kernel
theorem dX9_narrow_12 : decode cX9_narrow 12 = .ok (.bipush 16, 2) := by decide +kernel
theorem dX9_narrow_14 : decode cX9_narrow 14 = .ok (.if_icmp .ne 8, 3) := by decide +kernel
theorem dX9_narrow_17 : decode cX9_narrow 17 = .ok (.iload_n 1, 1) := by decide +kernel
theorem dX9_narrow_18 : decode cX9_narrow 18 = .ok (.i2s, 1) := by decide +kernel
theorem dX9_narrow_19 : decode cX9_narrow 19 = .ok (.goto 4, 3) := by decide +kernel
theorem dX9_narrow_22 : decode cX9_narrow 22 = .ok (.iload_n 1, 1) := by decide +kernel
theorem dX9_narrow_23 : decode cX9_narrow 23 = .ok (.ireturn, 1) := by decide +kernel
theorem dX9_sheet_0 : decode cX9_sheet 0 = .ok (.iload_n 1, 1) := by decide +kernel
theorem dX9_sheet_1 : decode cX9_sheet 1 = .ok (.invokestatic 225, 3) := by decide +kernel
theorem dX9_sheet_4 : decode cX9_sheet 4 = .ok (.ifCond .eq 25, 3) := by decide +kernel
theorem dX9_sheet_7 : decode cX9_sheet 7 = .ok (.iload_n 2, 1) := by decide +kernel
theorem dX9_sheet_8 : decode cX9_sheet 8 = .ok (.ifCond .eq 28, 3) := by decide +kernel
theorem dX9_sheet_11 : decode cX9_sheet 11 = .ok (.iload_n 2, 1) := by decide +kernel
theorem dX9_sheet_12 : decode cX9_sheet 12 = .ok (.bipush 8, 2) := by decide +kernel
theorem dX9_sheet_14 : decode cX9_sheet 14 = .ok (.if_icmp .eq 22, 3) := by decide +kernel
theorem dX9_sheet_17 : decode cX9_sheet 17 = .ok (.iload_n 2, 1) := by decide +kernel
theorem dX9_sheet_18 : decode cX9_sheet 18 = .ok (.bipush 16, 2) := by decide +kernel
theorem dX9_sheet_20 : decode cX9_sheet 20 = .ok (.if_icmp .eq 16, 3) := by decide +kernel
theorem dX9_sheet_23 : decode cX9_sheet 23 = .ok (.iload_n 2, 1) := by decide +kernel
theorem dX9_sheet_24 : decode cX9_sheet 24 = .ok (.bipush 32, 2) := by decide +kernel
theorem dX9_sheet_26 : decode cX9_sheet 26 = .ok (.if_icmp .eq 10, 3) := by decide +kernel
theorem dX9_sheet_29 : decode cX9_sheet 29 = .ok (.aload_n 0, 1) := by decide +kernel
theorem dX9_sheet_30 : decode cX9_sheet 30 = .ok (.ldc 65, 2) := by decide +kernel
theorem dX9_sheet_32 : decode cX9_sheet 32 = .ok (.invokevirtual 66, 3) := by decide +kernel
theorem dX9_sheet_35 : decode cX9_sheet 35 = .ok (.ireturn, 1) := by decide +kernel
theorem dX9_sheet_36 : decode cX9_sheet 36 = .ok (.iload_n 2, 1) := by decide +kernel
theorem dX9_sheet_37 : decode cX9_sheet 37 = .ok (.ifCond .eq 14, 3) := by decide +kernel
theorem dX9_sheet_40 : decode cX9_sheet 40 = .ok (.iload_n 3, 1) := by decide +kernel
theorem dX9_sheet_41 : decode cX9_sheet 41 = .ok (.ifCond .ge 10, 3) := by decide +kernel
theorem dX9_sheet_44 : decode cX9_sheet 44 = .ok (.aload_n 0, 1) := by decide +kernel
theorem dX9_sheet_45 : decode cX9_sheet 45 = .ok (.ldc 205, 2) := by decide +kernel
theorem dX9_sheet_47 : decode cX9_sheet 47 = .ok (.invokevirtual 66, 3) := by decide +kernel
theorem dX9_sheet_50 : decode cX9_sheet 50 = .ok (.ireturn, 1) := by decide +kernel
theorem dX9_sheet_51 : decode cX9_sheet 51 = .ok (.iload_n 2, 1) := by decide +kernel
theorem dX9_sheet_52 : decode cX9_sheet 52 = .ok (.ifCond .eq 16, 3) := by decide +kernel
theorem dX9_sheet_55 : decode cX9_sheet 55 = .ok (.iload_n 3, 1) := by decide +kernel
theorem dX9_sheet_56 : decode cX9_sheet 56 = .ok (.bipush 40, 2) := by decide +kernel
theorem dX9_sheet_58 : decode cX9_sheet 58 = .ok (.if_icmp .le 10, 3) := by decide +kernel
theorem dX9_sheet_61 : decode cX9_sheet 61 = .ok (.aload_n 0, 1) := by decide +kernel
theorem dX9_sheet_62 : decode cX9_sheet 62 = .ok (.ldc 65, 2) := by decide +kernel
theorem dX9_sheet_64 : decode cX9_sheet 64 = .ok (.invokevirtual 66, 3) := by decide +kernel
theorem dX9_sheet_67 : decode cX9_sheet 67 = .ok (.ireturn, 1) := by decide +kernel
theorem dX9_sheet_68 : decode cX9_sheet 68 = .ok (.aload_n 0, 1) := by decide +kernel
theorem dX9_sheet_69 : decode cX9_sheet 69 = .ok (.getfield 28, 3) := by decide +kernel
theorem dX9_sheet_72 : decode cX9_sheet 72 = .ok (.iload_n 1, 1) := by decide +kernel
theorem dX9_sheet_73 : decode cX9_sheet 73 = .ok (.iload_n 2, 1) := by decide +kernel
theorem dX9_sheet_74 : decode cX9_sheet 74 = .ok (.iastore, 1) := by decide +kernel
theorem dX9_sheet_75 : decode cX9_sheet 75 = .ok (.aload_n 0, 1) := by decide +kernel
theorem dX9_sheet_76 : decode cX9_sheet 76 = .ok (.getfield 31, 3) := by decide +kernel
theorem dX9_sheet_79 : decode cX9_sheet 79 = .ok (.iload_n 1, 1) := by decide +kernel
theorem dX9_sheet_80 : decode cX9_sheet 80 = .ok (.iload_n 2, 1) := by decide +kernel
theorem dX9_sheet_81 : decode cX9_sheet 81 = .ok (.ifCond .ne 7, 3) := by decide +kernel
theorem dX9_sheet_84 : decode cX9_sheet 84 = .ok (.iconst 0, 1) := by decide +kernel
theorem dX9_sheet_85 : decode cX9_sheet 85 = .ok (.goto 4, 3) := by decide +kernel
theorem dX9_sheet_88 : decode cX9_sheet 88 = .ok (.iload_n 3, 1) := by decide +kernel
theorem dX9_sheet_89 : decode cX9_sheet 89 = .ok (.iastore, 1) := by decide +kernel
theorem dX9_sheet_90 : decode cX9_sheet 90 = .ok (.iconst 0, 1) := by decide +kernel
theorem dX9_sheet_91 : decode cX9_sheet 91 = .ok (.istore 4, 2) := by decide +kernel
theorem dX9_sheet_93 : decode cX9_sheet 93 = .ok (.iload 4, 2) := by decide +kernel
theorem dX9_sheet_95 : decode cX9_sheet 95 = .ok (.bipush 40, 2) := by decide +kernel
theorem dX9_sheet_97 : decode cX9_sheet 97 = .ok (.if_icmp .ge 22, 3) := by decide +kernel
theorem dX9_sheet_100 : decode cX9_sheet 100 = .ok (.aload_n 0, 1) := by decide +kernel
theorem dX9_sheet_101 : decode cX9_sheet 101 = .ok (.getfield 34, 3) := by decide +kernel
theorem dX9_sheet_104 : decode cX9_sheet 104 = .ok (.bipush 40, 2) := by decide +kernel
theorem dX9_sheet_106 : decode cX9_sheet 106 = .ok (.iload_n 1, 1) := by decide +kernel
theorem dX9_sheet_107 : decode cX9_sheet 107 = .ok (.imul, 1) := by decide +kernel
theorem dX9_sheet_108 : decode cX9_sheet 108 = .ok (.iload 4, 2) := by decide +kernel
theorem dX9_sheet_110 : decode cX9_sheet 110 = .ok (.iadd, 1) := by decide +kernel
theorem dX9_sheet_111 : decode cX9_sheet 111 = .ok (.iconst 0, 1) := by decide +kernel
theorem dX9_sheet_112 : decode cX9_sheet 112 = .ok (.iastore, 1) := by decide +kernel
theorem dX9_sheet_113 : decode cX9_sheet 113 = .ok (.iinc 4 1, 3) := by decide +kernel
theorem dX9_sheet_116 : decode cX9_sheet 116 = .ok (.goto (-23), 3) := by decide +kernel
theorem dX9_sheet_119 : decode cX9_sheet 119 = .ok (.iconst 1, 1) := by decide +kernel
theorem dX9_sheet_120 : decode cX9_sheet 120 = .ok (.ireturn, 1) := by decide +kernel
theorem dX9_put_0 : decode cX9_put 0 = .ok (.iload_n 1, 1) := by decide +kernel
theorem dX9_put_1 : decode cX9_put 1 = .ok (.invokestatic 225, 3) := by decide +kernel
theorem dX9_put_4 : decode cX9_put 4 = .ok (.ifCond .ne 10, 3) := by decide +kernel
theorem dX9_put_7 : decode cX9_put 7 = .ok (.aload_n 0, 1) := by decide +kernel
theorem dX9_put_8 : decode cX9_put 8 = .ok (.ldc 65, 2) := by decide +kernel
theorem dX9_put_10 : decode cX9_put 10 = .ok (.invokevirtual 66, 3) := by decide +kernel
theorem dX9_put_13 : decode cX9_put 13 = .ok (.ireturn, 1) := by decide +kernel
theorem dX9_put_14 : decode cX9_put 14 = .ok (.aload_n 0, 1) := by decide +kernel
theorem dX9_put_15 : decode cX9_put 15 = .ok (.getfield 28, 3) := by decide +kernel
theorem dX9_put_18 : decode cX9_put 18 = .ok (.iload_n 1, 1) := by decide +kernel
theorem dX9_put_19 : decode cX9_put 19 = .ok (.iaload, 1) := by decide +kernel
theorem dX9_put_20 : decode cX9_put 20 = .ok (.ifCond .ne 10, 3) := by decide +kernel
theorem dX9_put_23 : decode cX9_put 23 = .ok (.aload_n 0, 1) := by decide +kernel
theorem dX9_put_24 : decode cX9_put 24 = .ok (.ldc 214, 2) := by decide +kernel
theorem dX9_put_26 : decode cX9_put 26 = .ok (.invokevirtual 66, 3) := by decide +kernel
theorem dX9_put_29 : decode cX9_put 29 = .ok (.ireturn, 1) := by decide +kernel
theorem dX9_put_30 : decode cX9_put 30 = .ok (.iload_n 2, 1) := by decide +kernel
theorem dX9_put_31 : decode cX9_put 31 = .ok (.iconst 0, 1) := by decide +kernel
theorem dX9_put_32 : decode cX9_put 32 = .ok (.aload_n 0, 1) := by decide +kernel
theorem dX9_put_33 : decode cX9_put 33 = .ok (.getfield 31, 3) := by decide +kernel
theorem dX9_put_36 : decode cX9_put 36 = .ok (.iload_n 1, 1) := by decide +kernel
theorem dX9_put_37 : decode cX9_put 37 = .ok (.iaload, 1) := by decide +kernel
theorem dX9_put_38 : decode cX9_put 38 = .ok (.iconst 1, 1) := by decide +kernel
theorem dX9_put_39 : decode cX9_put 39 = .ok (.isub, 1) := by decide +kernel
theorem dX9_put_40 : decode cX9_put 40 = .ok (.invokestatic 53, 3) := by decide +kernel
theorem dX9_put_43 : decode cX9_put 43 = .ok (.ifCond .ne 10, 3) := by decide +kernel
theorem dX9_put_46 : decode cX9_put 46 = .ok (.aload_n 0, 1) := by decide +kernel
theorem dX9_put_47 : decode cX9_put 47 = .ok (.ldc 65, 2) := by decide +kernel
theorem dX9_put_49 : decode cX9_put 49 = .ok (.invokevirtual 66, 3) := by decide +kernel
theorem dX9_put_52 : decode cX9_put 52 = .ok (.ireturn, 1) := by decide +kernel
theorem dX9_put_53 : decode cX9_put 53 = .ok (.aload_n 0, 1) := by decide +kernel
theorem dX9_put_54 : decode cX9_put 54 = .ok (.getfield 34, 3) := by decide +kernel
theorem dX9_put_57 : decode cX9_put 57 = .ok (.bipush 40, 2) := by decide +kernel
theorem dX9_put_59 : decode cX9_put 59 = .ok (.iload_n 1, 1) := by decide +kernel
theorem dX9_put_60 : decode cX9_put 60 = .ok (.imul, 1) := by decide +kernel
theorem dX9_put_61 : decode cX9_put 61 = .ok (.iload_n 2, 1) := by decide +kernel
theorem dX9_put_62 : decode cX9_put 62 = .ok (.iadd, 1) := by decide +kernel
theorem dX9_put_63 : decode cX9_put 63 = .ok (.aload_n 0, 1) := by decide +kernel
theorem dX9_put_64 : decode cX9_put 64 = .ok (.getfield 28, 3) := by decide +kernel
theorem dX9_put_67 : decode cX9_put 67 = .ok (.iload_n 1, 1) := by decide +kernel
theorem dX9_put_68 : decode cX9_put 68 = .ok (.iaload, 1) := by decide +kernel
theorem dX9_put_69 : decode cX9_put 69 = .ok (.iload_n 3, 1) := by decide +kernel
theorem dX9_put_70 : decode cX9_put 70 = .ok (.invokestatic 268, 3) := by decide +kernel
theorem dX9_put_73 : decode cX9_put 73 = .ok (.iastore, 1) := by decide +kernel
theorem dX9_put_74 : decode cX9_put 74 = .ok (.iconst 1, 1) := by decide +kernel
theorem dX9_put_75 : decode cX9_put 75 = .ok (.ireturn, 1) := by decide +kernel
theorem dX9_move_0 : decode cX9_move 0 = .ok (.iload_n 1, 1) := by decide +kernel
theorem dX9_move_1 : decode cX9_move 1 = .ok (.invokestatic 225, 3) := by decide +kernel
theorem dX9_move_4 : decode cX9_move 4 = .ok (.ifCond .eq 10, 3) := by decide +kernel
theorem dX9_move_7 : decode cX9_move 7 = .ok (.iload_n 3, 1) := by decide +kernel
theorem dX9_move_8 : decode cX9_move 8 = .ok (.invokestatic 225, 3) := by decide +kernel
theorem dX9_move_11 : decode cX9_move 11 = .ok (.ifCond .ne 10, 3) := by decide +kernel
theorem dX9_move_14 : decode cX9_move 14 = .ok (.aload_n 0, 1) := by decide +kernel
theorem dX9_move_15 : decode cX9_move 15 = .ok (.ldc 65, 2) := by decide +kernel
theorem dX9_move_17 : decode cX9_move 17 = .ok (.invokevirtual 66, 3) := by decide +kernel
theorem dX9_move_20 : decode cX9_move 20 = .ok (.ireturn, 1) := by decide +kernel
theorem dX9_move_21 : decode cX9_move 21 = .ok (.aload_n 0, 1) := by decide +kernel
theorem dX9_move_22 : decode cX9_move 22 = .ok (.getfield 28, 3) := by decide +kernel
theorem dX9_move_25 : decode cX9_move 25 = .ok (.iload_n 1, 1) := by decide +kernel
theorem dX9_move_26 : decode cX9_move 26 = .ok (.iaload, 1) := by decide +kernel
theorem dX9_move_27 : decode cX9_move 27 = .ok (.ifCond .eq 12, 3) := by decide +kernel
theorem dX9_move_30 : decode cX9_move 30 = .ok (.aload_n 0, 1) := by decide +kernel
theorem dX9_move_31 : decode cX9_move 31 = .ok (.getfield 28, 3) := by decide +kernel
theorem dX9_move_34 : decode cX9_move 34 = .ok (.iload_n 3, 1) := by decide +kernel
theorem dX9_move_35 : decode cX9_move 35 = .ok (.iaload, 1) := by decide +kernel
theorem dX9_move_36 : decode cX9_move 36 = .ok (.ifCond .ne 10, 3) := by decide +kernel
theorem dX9_move_39 : decode cX9_move 39 = .ok (.aload_n 0, 1) := by decide +kernel
theorem dX9_move_40 : decode cX9_move 40 = .ok (.ldc 214, 2) := by decide +kernel
theorem dX9_move_42 : decode cX9_move 42 = .ok (.invokevirtual 66, 3) := by decide +kernel
theorem dX9_move_45 : decode cX9_move 45 = .ok (.ireturn, 1) := by decide +kernel
theorem dX9_move_46 : decode cX9_move 46 = .ok (.aload_n 0, 1) := by decide +kernel
theorem dX9_move_47 : decode cX9_move 47 = .ok (.getfield 28, 3) := by decide +kernel
theorem dX9_move_50 : decode cX9_move 50 = .ok (.iload_n 1, 1) := by decide +kernel
theorem dX9_move_51 : decode cX9_move 51 = .ok (.iaload, 1) := by decide +kernel
theorem dX9_move_52 : decode cX9_move 52 = .ok (.aload_n 0, 1) := by decide +kernel
theorem dX9_move_53 : decode cX9_move 53 = .ok (.getfield 28, 3) := by decide +kernel
theorem dX9_move_56 : decode cX9_move 56 = .ok (.iload_n 3, 1) := by decide +kernel
theorem dX9_move_57 : decode cX9_move 57 = .ok (.iaload, 1) := by decide +kernel
theorem dX9_move_58 : decode cX9_move 58 = .ok (.if_icmp .eq 10, 3) := by decide +kernel
theorem dX9_move_61 : decode cX9_move 61 = .ok (.aload_n 0, 1) := by decide +kernel
theorem dX9_move_62 : decode cX9_move 62 = .ok (.ldc 97, 2) := by decide +kernel
theorem dX9_move_64 : decode cX9_move 64 = .ok (.invokevirtual 66, 3) := by decide +kernel
theorem dX9_move_67 : decode cX9_move 67 = .ok (.ireturn, 1) := by decide +kernel
theorem dX9_move_68 : decode cX9_move 68 = .ok (.iload 5, 2) := by decide +kernel
theorem dX9_move_70 : decode cX9_move 70 = .ok (.ifCond .lt 39, 3) := by decide +kernel
theorem dX9_move_73 : decode cX9_move 73 = .ok (.iload_n 2, 1) := by decide +kernel
theorem dX9_move_74 : decode cX9_move 74 = .ok (.ifCond .lt 35, 3) := by decide +kernel
theorem dX9_move_77 : decode cX9_move 77 = .ok (.iload 4, 2) := by decide +kernel
theorem dX9_move_79 : decode cX9_move 79 = .ok (.ifCond .lt 30, 3) := by decide +kernel
theorem dX9_move_82 : decode cX9_move 82 = .ok (.iload_n 2, 1) := by decide +kernel
theorem dX9_move_83 : decode cX9_move 83 = .ok (.aload_n 0, 1) := by decide +kernel
theorem dX9_move_84 : decode cX9_move 84 = .ok (.getfield 31, 3) := by decide +kernel
theorem dX9_move_87 : decode cX9_move 87 = .ok (.iload_n 1, 1) := by decide +kernel
theorem dX9_move_88 : decode cX9_move 88 = .ok (.iaload, 1) := by decide +kernel
theorem dX9_move_89 : decode cX9_move 89 = .ok (.iload 5, 2) := by decide +kernel
theorem dX9_move_91 : decode cX9_move 91 = .ok (.isub, 1) := by decide +kernel
theorem dX9_move_92 : decode cX9_move 92 = .ok (.if_icmp .gt 17, 3) := by decide +kernel
theorem dX9_move_95 : decode cX9_move 95 = .ok (.iload 4, 2) := by decide +kernel
theorem dX9_move_97 : decode cX9_move 97 = .ok (.aload_n 0, 1) := by decide +kernel
theorem dX9_move_98 : decode cX9_move 98 = .ok (.getfield 31, 3) := by decide +kernel
theorem dX9_move_101 : decode cX9_move 101 = .ok (.iload_n 3, 1) := by decide +kernel
theorem dX9_move_102 : decode cX9_move 102 = .ok (.iaload, 1) := by decide +kernel
theorem dX9_move_103 : decode cX9_move 103 = .ok (.iload 5, 2) := by decide +kernel
theorem dX9_move_105 : decode cX9_move 105 = .ok (.isub, 1) := by decide +kernel
theorem dX9_move_106 : decode cX9_move 106 = .ok (.if_icmp .le 10, 3) := by decide +kernel
theorem dX9_move_109 : decode cX9_move 109 = .ok (.aload_n 0, 1) := by decide +kernel
theorem dX9_move_110 : decode cX9_move 110 = .ok (.ldc 65, 2) := by decide +kernel
theorem dX9_move_112 : decode cX9_move 112 = .ok (.invokevirtual 66, 3) := by decide +kernel
theorem dX9_move_115 : decode cX9_move 115 = .ok (.ireturn, 1) := by decide +kernel
theorem dX9_move_116 : decode cX9_move 116 = .ok (.iconst 0, 1) := by decide +kernel
theorem dX9_move_117 : decode cX9_move 117 = .ok (.istore 6, 2) := by decide +kernel
theorem dX9_move_119 : decode cX9_move 119 = .ok (.iload 6, 2) := by decide +kernel
theorem dX9_move_121 : decode cX9_move 121 = .ok (.iload 5, 2) := by decide +kernel
theorem dX9_move_123 : decode cX9_move 123 = .ok (.if_icmp .ge 30, 3) := by decide +kernel
theorem dX9_move_126 : decode cX9_move 126 = .ok (.aload_n 0, 1) := by decide +kernel
theorem dX9_move_127 : decode cX9_move 127 = .ok (.getfield 37, 3) := by decide +kernel
theorem dX9_move_130 : decode cX9_move 130 = .ok (.iload 6, 2) := by decide +kernel
theorem dX9_move_132 : decode cX9_move 132 = .ok (.aload_n 0, 1) := by decide +kernel
theorem dX9_move_133 : decode cX9_move 133 = .ok (.getfield 34, 3) := by decide +kernel
theorem dX9_move_136 : decode cX9_move 136 = .ok (.bipush 40, 2) := by decide +kernel
theorem dX9_move_138 : decode cX9_move 138 = .ok (.iload_n 1, 1) := by decide +kernel
theorem dX9_move_139 : decode cX9_move 139 = .ok (.imul, 1) := by decide +kernel
theorem dX9_move_140 : decode cX9_move 140 = .ok (.iload_n 2, 1) := by decide +kernel
theorem dX9_move_141 : decode cX9_move 141 = .ok (.iadd, 1) := by decide +kernel
theorem dX9_move_142 : decode cX9_move 142 = .ok (.iload 6, 2) := by decide +kernel
theorem dX9_move_144 : decode cX9_move 144 = .ok (.iadd, 1) := by decide +kernel
theorem dX9_move_145 : decode cX9_move 145 = .ok (.iaload, 1) := by decide +kernel
theorem dX9_move_146 : decode cX9_move 146 = .ok (.iastore, 1) := by decide +kernel
theorem dX9_move_147 : decode cX9_move 147 = .ok (.iinc 6 1, 3) := by decide +kernel
theorem dX9_move_150 : decode cX9_move 150 = .ok (.goto (-31), 3) := by decide +kernel
theorem dX9_move_153 : decode cX9_move 153 = .ok (.iconst 0, 1) := by decide +kernel
theorem dX9_move_154 : decode cX9_move 154 = .ok (.istore 6, 2) := by decide +kernel
theorem dX9_move_156 : decode cX9_move 156 = .ok (.iload 6, 2) := by decide +kernel
theorem dX9_move_158 : decode cX9_move 158 = .ok (.iload 5, 2) := by decide +kernel
theorem dX9_move_160 : decode cX9_move 160 = .ok (.if_icmp .ge 31, 3) := by decide +kernel
theorem dX9_move_163 : decode cX9_move 163 = .ok (.aload_n 0, 1) := by decide +kernel
theorem dX9_move_164 : decode cX9_move 164 = .ok (.getfield 34, 3) := by decide +kernel
theorem dX9_move_167 : decode cX9_move 167 = .ok (.bipush 40, 2) := by decide +kernel
theorem dX9_move_169 : decode cX9_move 169 = .ok (.iload_n 3, 1) := by decide +kernel
theorem dX9_move_170 : decode cX9_move 170 = .ok (.imul, 1) := by decide +kernel
theorem dX9_move_171 : decode cX9_move 171 = .ok (.iload 4, 2) := by decide +kernel
theorem dX9_move_173 : decode cX9_move 173 = .ok (.iadd, 1) := by decide +kernel
theorem dX9_move_174 : decode cX9_move 174 = .ok (.iload 6, 2) := by decide +kernel
theorem dX9_move_176 : decode cX9_move 176 = .ok (.iadd, 1) := by decide +kernel
theorem dX9_move_177 : decode cX9_move 177 = .ok (.aload_n 0, 1) := by decide +kernel
theorem dX9_move_178 : decode cX9_move 178 = .ok (.getfield 37, 3) := by decide +kernel
theorem dX9_move_181 : decode cX9_move 181 = .ok (.iload 6, 2) := by decide +kernel
theorem dX9_move_183 : decode cX9_move 183 = .ok (.iaload, 1) := by decide +kernel
theorem dX9_move_184 : decode cX9_move 184 = .ok (.iastore, 1) := by decide +kernel
theorem dX9_move_185 : decode cX9_move 185 = .ok (.iinc 6 1, 3) := by decide +kernel
theorem dX9_move_188 : decode cX9_move 188 = .ok (.goto (-32), 3) := by decide +kernel
theorem dX9_move_191 : decode cX9_move 191 = .ok (.iload 5, 2) := by decide +kernel
theorem dX9_move_193 : decode cX9_move 193 = .ok (.ireturn, 1) := by decide +kernel
theorem dX9_menus_0 : decode cX9_menus 0 = .ok (.iload_n 1, 1) := by decide +kernel
theorem dX9_menus_1 : decode cX9_menus 1 = .ok (.invokestatic 225, 3) := by decide +kernel
theorem dX9_menus_4 : decode cX9_menus 4 = .ok (.ifCond .ne 10, 3) := by decide +kernel
theorem dX9_menus_7 : decode cX9_menus 7 = .ok (.aload_n 0, 1) := by decide +kernel
theorem dX9_menus_8 : decode cX9_menus 8 = .ok (.ldc 65, 2) := by decide +kernel
theorem dX9_menus_10 : decode cX9_menus 10 = .ok (.invokevirtual 66, 3) := by decide +kernel
theorem dX9_menus_13 : decode cX9_menus 13 = .ok (.ireturn, 1) := by decide +kernel
theorem dX9_menus_14 : decode cX9_menus 14 = .ok (.aload_n 0, 1) := by decide +kernel
theorem dX9_menus_15 : decode cX9_menus 15 = .ok (.getfield 28, 3) := by decide +kernel
theorem dX9_menus_18 : decode cX9_menus 18 = .ok (.iload_n 1, 1) := by decide +kernel
theorem dX9_menus_19 : decode cX9_menus 19 = .ok (.iaload, 1) := by decide +kernel
theorem dX9_menus_20 : decode cX9_menus 20 = .ok (.ifCond .ne 10, 3) := by decide +kernel
theorem dX9_menus_23 : decode cX9_menus 23 = .ok (.aload_n 0, 1) := by decide +kernel
theorem dX9_menus_24 : decode cX9_menus 24 = .ok (.ldc 214, 2) := by decide +kernel
theorem dX9_menus_26 : decode cX9_menus 26 = .ok (.invokevirtual 66, 3) := by decide +kernel
theorem dX9_menus_29 : decode cX9_menus 29 = .ok (.ireturn, 1) := by decide +kernel
theorem dX9_menus_30 : decode cX9_menus 30 = .ok (.iconst 0, 1) := by decide +kernel
theorem dX9_menus_31 : decode cX9_menus 31 = .ok (.istore_n 2, 1) := by decide +kernel
theorem dX9_menus_32 : decode cX9_menus 32 = .ok (.iload_n 2, 1) := by decide +kernel
theorem dX9_menus_33 : decode cX9_menus 33 = .ok (.aload_n 0, 1) := by decide +kernel
theorem dX9_menus_34 : decode cX9_menus 34 = .ok (.getfield 31, 3) := by decide +kernel
theorem dX9_menus_37 : decode cX9_menus 37 = .ok (.iload_n 1, 1) := by decide +kernel
theorem dX9_menus_38 : decode cX9_menus 38 = .ok (.iaload, 1) := by decide +kernel
theorem dX9_menus_39 : decode cX9_menus 39 = .ok (.if_icmp .ge 53, 3) := by decide +kernel
theorem dX9_menus_42 : decode cX9_menus 42 = .ok (.iload_n 2, 1) := by decide +kernel
theorem dX9_menus_43 : decode cX9_menus 43 = .ok (.invokestatic 73, 3) := by decide +kernel
theorem dX9_menus_46 : decode cX9_menus 46 = .ok (.ifCond .eq 46, 3) := by decide +kernel
theorem dX9_menus_49 : decode cX9_menus 49 = .ok (.aload_n 0, 1) := by decide +kernel
theorem dX9_menus_50 : decode cX9_menus 50 = .ok (.getfield 34, 3) := by decide +kernel
theorem dX9_menus_53 : decode cX9_menus 53 = .ok (.bipush 40, 2) := by decide +kernel
theorem dX9_menus_55 : decode cX9_menus 55 = .ok (.iload_n 1, 1) := by decide +kernel
theorem dX9_menus_56 : decode cX9_menus 56 = .ok (.imul, 1) := by decide +kernel
theorem dX9_menus_57 : decode cX9_menus 57 = .ok (.iload_n 2, 1) := by decide +kernel
theorem dX9_menus_58 : decode cX9_menus 58 = .ok (.iadd, 1) := by decide +kernel
theorem dX9_menus_59 : decode cX9_menus 59 = .ok (.iaload, 1) := by decide +kernel
theorem dX9_menus_60 : decode cX9_menus 60 = .ok (.invokestatic 57, 3) := by decide +kernel
theorem dX9_menus_63 : decode cX9_menus 63 = .ok (.ifCond .eq 29, 3) := by decide +kernel
theorem dX9_menus_66 : decode cX9_menus 66 = .ok (.aload_n 0, 1) := by decide +kernel
theorem dX9_menus_67 : decode cX9_menus 67 = .ok (.getfield 7, 3) := by decide +kernel
theorem dX9_menus_70 : decode cX9_menus 70 = .ok (.bipush 41, 2) := by decide +kernel
theorem dX9_menus_72 : decode cX9_menus 72 = .ok (.iload_n 2, 1) := by decide +kernel
theorem dX9_menus_73 : decode cX9_menus 73 = .ok (.iadd, 1) := by decide +kernel
theorem dX9_menus_74 : decode cX9_menus 74 = .ok (.aload_n 0, 1) := by decide +kernel
theorem dX9_menus_75 : decode cX9_menus 75 = .ok (.getfield 34, 3) := by decide +kernel
theorem dX9_menus_78 : decode cX9_menus 78 = .ok (.bipush 40, 2) := by decide +kernel
theorem dX9_menus_80 : decode cX9_menus 80 = .ok (.iload_n 1, 1) := by decide +kernel
theorem dX9_menus_81 : decode cX9_menus 81 = .ok (.imul, 1) := by decide +kernel
theorem dX9_menus_82 : decode cX9_menus 82 = .ok (.iload_n 2, 1) := by decide +kernel
theorem dX9_menus_83 : decode cX9_menus 83 = .ok (.iadd, 1) := by decide +kernel
theorem dX9_menus_84 : decode cX9_menus 84 = .ok (.iaload, 1) := by decide +kernel
theorem dX9_menus_85 : decode cX9_menus 85 = .ok (.iastore, 1) := by decide +kernel
theorem dX9_menus_86 : decode cX9_menus 86 = .ok (.iinc 2 1, 3) := by decide +kernel
theorem dX9_menus_89 : decode cX9_menus 89 = .ok (.goto (-57), 3) := by decide +kernel
theorem dX9_menus_92 : decode cX9_menus 92 = .ok (.iload_n 2, 1) := by decide +kernel
theorem dX9_menus_93 : decode cX9_menus 93 = .ok (.ireturn, 1) := by decide +kernel
theorem dX9_judge_0 : decode cX9_judge 0 = .ok (.iload_n 1, 1) := by decide +kernel
theorem dX9_judge_1 : decode cX9_judge 1 = .ok (.invokestatic 225, 3) := by decide +kernel
theorem dX9_judge_4 : decode cX9_judge 4 = .ok (.ifCond .ne 10, 3) := by decide +kernel
theorem dX9_judge_7 : decode cX9_judge 7 = .ok (.aload_n 0, 1) := by decide +kernel
theorem dX9_judge_8 : decode cX9_judge 8 = .ok (.ldc 65, 2) := by decide +kernel
theorem dX9_judge_10 : decode cX9_judge 10 = .ok (.invokevirtual 66, 3) := by decide +kernel
theorem dX9_judge_13 : decode cX9_judge 13 = .ok (.ireturn, 1) := by decide +kernel
theorem dX9_judge_14 : decode cX9_judge 14 = .ok (.aload_n 0, 1) := by decide +kernel
theorem dX9_judge_15 : decode cX9_judge 15 = .ok (.getfield 28, 3) := by decide +kernel
theorem dX9_judge_18 : decode cX9_judge 18 = .ok (.iload_n 1, 1) := by decide +kernel
theorem dX9_judge_19 : decode cX9_judge 19 = .ok (.iaload, 1) := by decide +kernel
theorem dX9_judge_20 : decode cX9_judge 20 = .ok (.ifCond .ne 10, 3) := by decide +kernel
theorem dX9_judge_23 : decode cX9_judge 23 = .ok (.aload_n 0, 1) := by decide +kernel
theorem dX9_judge_24 : decode cX9_judge 24 = .ok (.ldc 214, 2) := by decide +kernel
theorem dX9_judge_26 : decode cX9_judge 26 = .ok (.invokevirtual 66, 3) := by decide +kernel
theorem dX9_judge_29 : decode cX9_judge 29 = .ok (.ireturn, 1) := by decide +kernel
theorem dX9_judge_30 : decode cX9_judge 30 = .ok (.iconst 0, 1) := by decide +kernel
theorem dX9_judge_31 : decode cX9_judge 31 = .ok (.istore_n 2, 1) := by decide +kernel
theorem dX9_judge_32 : decode cX9_judge 32 = .ok (.iload_n 2, 1) := by decide +kernel
theorem dX9_judge_33 : decode cX9_judge 33 = .ok (.aload_n 0, 1) := by decide +kernel
theorem dX9_judge_34 : decode cX9_judge 34 = .ok (.getfield 7, 3) := by decide +kernel
theorem dX9_judge_37 : decode cX9_judge 37 = .ok (.iconst 2, 1) := by decide +kernel
theorem dX9_judge_38 : decode cX9_judge 38 = .ok (.iaload, 1) := by decide +kernel
theorem dX9_judge_39 : decode cX9_judge 39 = .ok (.if_icmp .ge 39, 3) := by decide +kernel
theorem dX9_judge_42 : decode cX9_judge 42 = .ok (.iload_n 2, 1) := by decide +kernel
theorem dX9_judge_43 : decode cX9_judge 43 = .ok (.aload_n 0, 1) := by decide +kernel
theorem dX9_judge_44 : decode cX9_judge 44 = .ok (.getfield 31, 3) := by decide +kernel
theorem dX9_judge_47 : decode cX9_judge 47 = .ok (.iload_n 1, 1) := by decide +kernel
theorem dX9_judge_48 : decode cX9_judge 48 = .ok (.iaload, 1) := by decide +kernel
theorem dX9_judge_49 : decode cX9_judge 49 = .ok (.if_icmp .ge 29, 3) := by decide +kernel
theorem dX9_judge_52 : decode cX9_judge 52 = .ok (.aload_n 0, 1) := by decide +kernel
theorem dX9_judge_53 : decode cX9_judge 53 = .ok (.getfield 34, 3) := by decide +kernel
theorem dX9_judge_56 : decode cX9_judge 56 = .ok (.bipush 40, 2) := by decide +kernel
theorem dX9_judge_58 : decode cX9_judge 58 = .ok (.iload_n 1, 1) := by decide +kernel
theorem dX9_judge_59 : decode cX9_judge 59 = .ok (.imul, 1) := by decide +kernel
theorem dX9_judge_60 : decode cX9_judge 60 = .ok (.iload_n 2, 1) := by decide +kernel
theorem dX9_judge_61 : decode cX9_judge 61 = .ok (.iadd, 1) := by decide +kernel
theorem dX9_judge_62 : decode cX9_judge 62 = .ok (.iaload, 1) := by decide +kernel
theorem dX9_judge_63 : decode cX9_judge 63 = .ok (.aload_n 0, 1) := by decide +kernel
theorem dX9_judge_64 : decode cX9_judge 64 = .ok (.iload_n 2, 1) := by decide +kernel
theorem dX9_judge_65 : decode cX9_judge 65 = .ok (.iconst 2, 1) := by decide +kernel
theorem dX9_judge_66 : decode cX9_judge 66 = .ok (.invokevirtual 85, 3) := by decide +kernel
theorem dX9_judge_69 : decode cX9_judge 69 = .ok (.if_icmp .ne 9, 3) := by decide +kernel
theorem dX9_judge_72 : decode cX9_judge 72 = .ok (.iinc 2 1, 3) := by decide +kernel
theorem dX9_judge_75 : decode cX9_judge 75 = .ok (.goto (-43), 3) := by decide +kernel
theorem dX9_judge_78 : decode cX9_judge 78 = .ok (.iload_n 2, 1) := by decide +kernel
theorem dX9_judge_79 : decode cX9_judge 79 = .ok (.aload_n 0, 1) := by decide +kernel
theorem dX9_judge_80 : decode cX9_judge 80 = .ok (.getfield 7, 3) := by decide +kernel
theorem dX9_judge_83 : decode cX9_judge 83 = .ok (.iconst 2, 1) := by decide +kernel
theorem dX9_judge_84 : decode cX9_judge 84 = .ok (.iaload, 1) := by decide +kernel
theorem dX9_judge_85 : decode cX9_judge 85 = .ok (.if_icmp .ne 17, 3) := by decide +kernel
theorem dX9_judge_88 : decode cX9_judge 88 = .ok (.iload_n 2, 1) := by decide +kernel
theorem dX9_judge_89 : decode cX9_judge 89 = .ok (.aload_n 0, 1) := by decide +kernel
theorem dX9_judge_90 : decode cX9_judge 90 = .ok (.getfield 31, 3) := by decide +kernel
theorem dX9_judge_93 : decode cX9_judge 93 = .ok (.iload_n 1, 1) := by decide +kernel
theorem dX9_judge_94 : decode cX9_judge 94 = .ok (.iaload, 1) := by decide +kernel
theorem dX9_judge_95 : decode cX9_judge 95 = .ok (.if_icmp .ne 7, 3) := by decide +kernel
theorem dX9_judge_98 : decode cX9_judge 98 = .ok (.iconst (-1), 1) := by decide +kernel
theorem dX9_judge_99 : decode cX9_judge 99 = .ok (.goto 4, 3) := by decide +kernel
theorem dX9_judge_102 : decode cX9_judge 102 = .ok (.iload_n 2, 1) := by decide +kernel
theorem dX9_judge_103 : decode cX9_judge 103 = .ok (.ireturn, 1) := by decide +kernel
theorem dX9_image_0 : decode cX9_image 0 = .ok (.aload_n 0, 1) := by decide +kernel
theorem dX9_image_1 : decode cX9_image 1 = .ok (.aload_n 0, 1) := by decide +kernel
theorem dX9_image_2 : decode cX9_image 2 = .ok (.getfield 7, 3) := by decide +kernel
theorem dX9_image_5 : decode cX9_image 5 = .ok (.aload_n 0, 1) := by decide +kernel
theorem dX9_image_6 : decode cX9_image 6 = .ok (.getfield 13, 3) := by decide +kernel
theorem dX9_image_9 : decode cX9_image 9 = .ok (.invokevirtual 174, 3) := by decide +kernel
theorem dX9_image_12 : decode cX9_image 12 = .ok (.aload_n 0, 1) := by decide +kernel
theorem dX9_image_13 : decode cX9_image 13 = .ok (.iconst 1, 1) := by decide +kernel
theorem dX9_image_14 : decode cX9_image 14 = .ok (.putfield 271, 3) := by decide +kernel
theorem dX9_image_17 : decode cX9_image 17 = .ok (.aload_n 0, 1) := by decide +kernel
theorem dX9_image_18 : decode cX9_image 18 = .ok (.dup, 1) := by decide +kernel
theorem dX9_image_19 : decode cX9_image 19 = .ok (.getfield 274, 3) := by decide +kernel
theorem dX9_image_22 : decode cX9_image 22 = .ok (.iconst 1, 1) := by decide +kernel
theorem dX9_image_23 : decode cX9_image 23 = .ok (.iadd, 1) := by decide +kernel
theorem dX9_image_24 : decode cX9_image 24 = .ok (.putfield 274, 3) := by decide +kernel
theorem dX9_image_27 : decode cX9_image 27 = .ok (.aload_n 0, 1) := by decide +kernel
theorem dX9_image_28 : decode cX9_image 28 = .ok (.getfield 274, 3) := by decide +kernel
theorem dX9_image_31 : decode cX9_image 31 = .ok (.ireturn, 1) := by decide +kernel
theorem dX9_restore_0 : decode cX9_restore 0 = .ok (.aload_n 0, 1) := by decide +kernel
theorem dX9_restore_1 : decode cX9_restore 1 = .ok (.getfield 271, 3) := by decide +kernel
theorem dX9_restore_4 : decode cX9_restore 4 = .ok (.ifCond .ne 10, 3) := by decide +kernel
theorem dX9_restore_7 : decode cX9_restore 7 = .ok (.aload_n 0, 1) := by decide +kernel
theorem dX9_restore_8 : decode cX9_restore 8 = .ok (.ldc 214, 2) := by decide +kernel
theorem dX9_restore_10 : decode cX9_restore 10 = .ok (.invokevirtual 66, 3) := by decide +kernel
theorem dX9_restore_13 : decode cX9_restore 13 = .ok (.ireturn, 1) := by decide +kernel
theorem dX9_restore_14 : decode cX9_restore 14 = .ok (.aload_n 0, 1) := by decide +kernel
theorem dX9_restore_15 : decode cX9_restore 15 = .ok (.aload_n 0, 1) := by decide +kernel
theorem dX9_restore_16 : decode cX9_restore 16 = .ok (.getfield 13, 3) := by decide +kernel
theorem dX9_restore_19 : decode cX9_restore 19 = .ok (.aload_n 0, 1) := by decide +kernel
theorem dX9_restore_20 : decode cX9_restore 20 = .ok (.getfield 7, 3) := by decide +kernel
theorem dX9_restore_23 : decode cX9_restore 23 = .ok (.invokevirtual 174, 3) := by decide +kernel
theorem dX9_restore_26 : decode cX9_restore 26 = .ok (.aload_n 0, 1) := by decide +kernel
theorem dX9_restore_27 : decode cX9_restore 27 = .ok (.invokevirtual 49, 3) := by decide +kernel
theorem dX9_restore_30 : decode cX9_restore 30 = .ok (.aload_n 0, 1) := by decide +kernel
theorem dX9_restore_31 : decode cX9_restore 31 = .ok (.getfield 7, 3) := by decide +kernel
theorem dX9_restore_34 : decode cX9_restore 34 = .ok (.iconst 0, 1) := by decide +kernel
theorem dX9_restore_35 : decode cX9_restore 35 = .ok (.iaload, 1) := by decide +kernel
theorem dX9_restore_36 : decode cX9_restore 36 = .ok (.ireturn, 1) := by decide +kernel
theorem dX9_tell_0 : decode cX9_tell 0 = .ok (.aload_n 0, 1) := by decide +kernel
theorem dX9_tell_1 : decode cX9_tell 1 = .ok (.getfield 7, 3) := by decide +kernel
theorem dX9_tell_4 : decode cX9_tell 4 = .ok (.bipush 6, 2) := by decide +kernel
theorem dX9_tell_6 : decode cX9_tell 6 = .ok (.iaload, 1) := by decide +kernel
theorem dX9_tell_7 : decode cX9_tell 7 = .ok (.bipush 20, 2) := by decide +kernel
theorem dX9_tell_9 : decode cX9_tell 9 = .ok (.if_icmp .ne 10, 3) := by decide +kernel
theorem dX9_tell_12 : decode cX9_tell 12 = .ok (.aload_n 0, 1) := by decide +kernel
theorem dX9_tell_13 : decode cX9_tell 13 = .ok (.ldc 77, 2) := by decide +kernel
theorem dX9_tell_15 : decode cX9_tell 15 = .ok (.invokevirtual 66, 3) := by decide +kernel
theorem dX9_tell_18 : decode cX9_tell 18 = .ok (.ireturn, 1) := by decide +kernel
theorem dX9_tell_19 : decode cX9_tell 19 = .ok (.aload_n 0, 1) := by decide +kernel
theorem dX9_tell_20 : decode cX9_tell 20 = .ok (.getfield 7, 3) := by decide +kernel
theorem dX9_tell_23 : decode cX9_tell 23 = .ok (.sipush 137, 3) := by decide +kernel
theorem dX9_tell_26 : decode cX9_tell 26 = .ok (.aload_n 0, 1) := by decide +kernel
theorem dX9_tell_27 : decode cX9_tell 27 = .ok (.getfield 7, 3) := by decide +kernel
theorem dX9_tell_30 : decode cX9_tell 30 = .ok (.bipush 6, 2) := by decide +kernel
theorem dX9_tell_32 : decode cX9_tell 32 = .ok (.iaload, 1) := by decide +kernel
theorem dX9_tell_33 : decode cX9_tell 33 = .ok (.iadd, 1) := by decide +kernel
theorem dX9_tell_34 : decode cX9_tell 34 = .ok (.iload_n 1, 1) := by decide +kernel
theorem dX9_tell_35 : decode cX9_tell 35 = .ok (.iastore, 1) := by decide +kernel
theorem dX9_tell_36 : decode cX9_tell 36 = .ok (.aload_n 0, 1) := by decide +kernel
theorem dX9_tell_37 : decode cX9_tell 37 = .ok (.getfield 7, 3) := by decide +kernel
theorem dX9_tell_40 : decode cX9_tell 40 = .ok (.bipush 6, 2) := by decide +kernel
theorem dX9_tell_42 : decode cX9_tell 42 = .ok (.dup2, 1) := by decide +kernel
theorem dX9_tell_43 : decode cX9_tell 43 = .ok (.iaload, 1) := by decide +kernel
theorem dX9_tell_44 : decode cX9_tell 44 = .ok (.iconst 1, 1) := by decide +kernel
theorem dX9_tell_45 : decode cX9_tell 45 = .ok (.iadd, 1) := by decide +kernel
theorem dX9_tell_46 : decode cX9_tell 46 = .ok (.iastore, 1) := by decide +kernel
theorem dX9_tell_47 : decode cX9_tell 47 = .ok (.aload_n 0, 1) := by decide +kernel
theorem dX9_tell_48 : decode cX9_tell 48 = .ok (.getfield 7, 3) := by decide +kernel
theorem dX9_tell_51 : decode cX9_tell 51 = .ok (.bipush 6, 2) := by decide +kernel
theorem dX9_tell_53 : decode cX9_tell 53 = .ok (.iaload, 1) := by decide +kernel
theorem dX9_tell_54 : decode cX9_tell 54 = .ok (.ireturn, 1) := by decide +kernel
theorem dX9_check_0 : decode cX9_check 0 = .ok (.aload_n 0, 1) := by decide +kernel
theorem dX9_check_1 : decode cX9_check 1 = .ok (.getfield 7, 3) := by decide +kernel
theorem dX9_check_4 : decode cX9_check 4 = .ok (.bipush 6, 2) := by decide +kernel
theorem dX9_check_6 : decode cX9_check 6 = .ok (.iaload, 1) := by decide +kernel
theorem dX9_check_7 : decode cX9_check 7 = .ok (.istore_n 1, 1) := by decide +kernel
theorem dX9_check_8 : decode cX9_check 8 = .ok (.aload_n 0, 1) := by decide +kernel
theorem dX9_check_9 : decode cX9_check 9 = .ok (.getfield 7, 3) := by decide +kernel
theorem dX9_check_12 : decode cX9_check 12 = .ok (.bipush 6, 2) := by decide +kernel
theorem dX9_check_14 : decode cX9_check 14 = .ok (.iconst 0, 1) := by decide +kernel
theorem dX9_check_15 : decode cX9_check 15 = .ok (.iastore, 1) := by decide +kernel
theorem dX9_check_16 : decode cX9_check 16 = .ok (.aload_n 0, 1) := by decide +kernel
theorem dX9_check_17 : decode cX9_check 17 = .ok (.aload_n 0, 1) := by decide +kernel
theorem dX9_check_18 : decode cX9_check 18 = .ok (.getfield 7, 3) := by decide +kernel
theorem dX9_check_21 : decode cX9_check 21 = .ok (.aload_n 0, 1) := by decide +kernel
theorem dX9_check_22 : decode cX9_check 22 = .ok (.getfield 16, 3) := by decide +kernel
theorem dX9_check_25 : decode cX9_check 25 = .ok (.invokevirtual 174, 3) := by decide +kernel
theorem dX9_check_28 : decode cX9_check 28 = .ok (.iconst 0, 1) := by decide +kernel
theorem dX9_check_29 : decode cX9_check 29 = .ok (.istore_n 2, 1) := by decide +kernel
theorem dX9_check_30 : decode cX9_check 30 = .ok (.iconst 1, 1) := by decide +kernel
theorem dX9_check_31 : decode cX9_check 31 = .ok (.istore_n 3, 1) := by decide +kernel
theorem dX9_check_32 : decode cX9_check 32 = .ok (.iload_n 2, 1) := by decide +kernel
theorem dX9_check_33 : decode cX9_check 33 = .ok (.iload_n 1, 1) := by decide +kernel
theorem dX9_check_34 : decode cX9_check 34 = .ok (.if_icmp .ge 51, 3) := by decide +kernel
theorem dX9_check_37 : decode cX9_check 37 = .ok (.iload_n 3, 1) := by decide +kernel
theorem dX9_check_38 : decode cX9_check 38 = .ok (.ifCond .eq 47, 3) := by decide +kernel
theorem dX9_check_41 : decode cX9_check 41 = .ok (.aload_n 0, 1) := by decide +kernel
theorem dX9_check_42 : decode cX9_check 42 = .ok (.invokevirtual 202, 3) := by decide +kernel
theorem dX9_check_45 : decode cX9_check 45 = .ok (.aload_n 0, 1) := by decide +kernel
theorem dX9_check_46 : decode cX9_check 46 = .ok (.getfield 7, 3) := by decide +kernel
theorem dX9_check_49 : decode cX9_check 49 = .ok (.iconst 4, 1) := by decide +kernel
theorem dX9_check_50 : decode cX9_check 50 = .ok (.iaload, 1) := by decide +kernel
theorem dX9_check_51 : decode cX9_check 51 = .ok (.aload_n 0, 1) := by decide +kernel
theorem dX9_check_52 : decode cX9_check 52 = .ok (.getfield 7, 3) := by decide +kernel
theorem dX9_check_55 : decode cX9_check 55 = .ok (.sipush 137, 3) := by decide +kernel
theorem dX9_check_58 : decode cX9_check 58 = .ok (.iload_n 2, 1) := by decide +kernel
theorem dX9_check_59 : decode cX9_check 59 = .ok (.iadd, 1) := by decide +kernel
theorem dX9_check_60 : decode cX9_check 60 = .ok (.iaload, 1) := by decide +kernel
theorem dX9_check_61 : decode cX9_check 61 = .ok (.if_icmp .ne 7, 3) := by decide +kernel
theorem dX9_check_64 : decode cX9_check 64 = .ok (.iconst 1, 1) := by decide +kernel
theorem dX9_check_65 : decode cX9_check 65 = .ok (.goto 4, 3) := by decide +kernel
theorem dX9_check_68 : decode cX9_check 68 = .ok (.iconst 0, 1) := by decide +kernel
theorem dX9_check_69 : decode cX9_check 69 = .ok (.istore_n 3, 1) := by decide +kernel
theorem dX9_check_70 : decode cX9_check 70 = .ok (.iload_n 2, 1) := by decide +kernel
theorem dX9_check_71 : decode cX9_check 71 = .ok (.iload_n 3, 1) := by decide +kernel
theorem dX9_check_72 : decode cX9_check 72 = .ok (.ifCond .eq 7, 3) := by decide +kernel
theorem dX9_check_75 : decode cX9_check 75 = .ok (.iconst 1, 1) := by decide +kernel
theorem dX9_check_76 : decode cX9_check 76 = .ok (.goto 4, 3) := by decide +kernel
theorem dX9_check_79 : decode cX9_check 79 = .ok (.iconst 0, 1) := by decide +kernel
theorem dX9_check_80 : decode cX9_check 80 = .ok (.iadd, 1) := by decide +kernel
theorem dX9_check_81 : decode cX9_check 81 = .ok (.istore_n 2, 1) := by decide +kernel
theorem dX9_check_82 : decode cX9_check 82 = .ok (.goto (-50), 3) := by decide +kernel
theorem dX9_check_85 : decode cX9_check 85 = .ok (.aload_n 0, 1) := by decide +kernel
theorem dX9_check_86 : decode cX9_check 86 = .ok (.aload_n 0, 1) := by decide +kernel
theorem dX9_check_87 : decode cX9_check 87 = .ok (.getfield 16, 3) := by decide +kernel
theorem dX9_check_90 : decode cX9_check 90 = .ok (.aload_n 0, 1) := by decide +kernel
theorem dX9_check_91 : decode cX9_check 91 = .ok (.getfield 7, 3) := by decide +kernel
theorem dX9_check_94 : decode cX9_check 94 = .ok (.invokevirtual 174, 3) := by decide +kernel
theorem dX9_check_97 : decode cX9_check 97 = .ok (.iload_n 3, 1) := by decide +kernel
theorem dX9_check_98 : decode cX9_check 98 = .ok (.ifCond .eq 7, 3) := by decide +kernel
theorem dX9_check_101 : decode cX9_check 101 = .ok (.iconst 0, 1) := by decide +kernel
theorem dX9_check_102 : decode cX9_check 102 = .ok (.goto 6, 3) := by decide +kernel
theorem dX9_check_105 : decode cX9_check 105 = .ok (.iconst 1, 1) := by decide +kernel
theorem dX9_check_106 : decode cX9_check 106 = .ok (.iload_n 2, 1) := by decide +kernel
theorem dX9_check_107 : decode cX9_check 107 = .ok (.iadd, 1) := by decide +kernel
theorem dX9_check_108 : decode cX9_check 108 = .ok (.ireturn, 1) := by decide +kernel
theorem dX9_sweetOfAll_0 : decode cX9_sweetOfAll 0 = .ok (.iconst 0, 1) := by decide +kernel
theorem dX9_sweetOfAll_1 : decode cX9_sweetOfAll 1 = .ok (.istore_n 1, 1) := by decide +kernel
theorem dX9_sweetOfAll_2 : decode cX9_sweetOfAll 2 = .ok (.iconst 0, 1) := by decide +kernel
theorem dX9_sweetOfAll_3 : decode cX9_sweetOfAll 3 = .ok (.istore_n 2, 1) := by decide +kernel
theorem dX9_sweetOfAll_4 : decode cX9_sweetOfAll 4 = .ok (.iload_n 2, 1) := by decide +kernel
theorem dX9_sweetOfAll_5 : decode cX9_sweetOfAll 5 = .ok (.bipush 16, 2) := by decide +kernel
theorem dX9_sweetOfAll_7 : decode cX9_sweetOfAll 7 = .ok (.if_icmp .ge 23, 3) := by decide +kernel
theorem dX9_sweetOfAll_10 : decode cX9_sweetOfAll 10 = .ok (.iload_n 1, 1) := by decide +kernel
theorem dX9_sweetOfAll_11 : decode cX9_sweetOfAll 11 = .ok (.aload_n 0, 1) := by decide +kernel
theorem dX9_sweetOfAll_12 : decode cX9_sweetOfAll 12 = .ok (.getfield 7, 3) := by decide +kernel
theorem dX9_sweetOfAll_15 : decode cX9_sweetOfAll 15 = .ok (.bipush 9, 2) := by decide +kernel
theorem dX9_sweetOfAll_17 : decode cX9_sweetOfAll 17 = .ok (.iconst 2, 1) := by decide +kernel
theorem dX9_sweetOfAll_18 : decode cX9_sweetOfAll 18 = .ok (.iload_n 2, 1) := by decide +kernel
theorem dX9_sweetOfAll_19 : decode cX9_sweetOfAll 19 = .ok (.imul, 1) := by decide +kernel
theorem dX9_sweetOfAll_20 : decode cX9_sweetOfAll 20 = .ok (.iadd, 1) := by decide +kernel
theorem dX9_sweetOfAll_21 : decode cX9_sweetOfAll 21 = .ok (.iaload, 1) := by decide +kernel
theorem dX9_sweetOfAll_22 : decode cX9_sweetOfAll 22 = .ok (.iadd, 1) := by decide +kernel
theorem dX9_sweetOfAll_23 : decode cX9_sweetOfAll 23 = .ok (.istore_n 1, 1) := by decide +kernel
theorem dX9_sweetOfAll_24 : decode cX9_sweetOfAll 24 = .ok (.iinc 2 1, 3) := by decide +kernel
theorem dX9_sweetOfAll_27 : decode cX9_sweetOfAll 27 = .ok (.goto (-23), 3) := by decide +kernel
theorem dX9_sweetOfAll_30 : decode cX9_sweetOfAll 30 = .ok (.iload_n 1, 1) := by decide +kernel
theorem dX9_sweetOfAll_31 : decode cX9_sweetOfAll 31 = .ok (.ireturn, 1) := by decide +kernel
theorem dX9_count_0 : decode cX9_count 0 = .ok (.iload_n 1, 1) := by decide +kernel
theorem dX9_count_1 : decode cX9_count 1 = .ok (.tableswitch 131 0 10 #[59, 66, 73, 80, 87, 93, 99, 104, 111, 119, 124], 59) := by decide +kernel
theorem dX9_count_60 : decode cX9_count 60 = .ok (.aload_n 0, 1) := by decide +kernel
theorem dX9_count_61 : decode cX9_count 61 = .ok (.getfield 7, 3) := by decide +kernel
theorem dX9_count_64 : decode cX9_count 64 = .ok (.iconst 2, 1) := by decide +kernel
theorem dX9_count_65 : decode cX9_count 65 = .ok (.iaload, 1) := by decide +kernel
theorem dX9_count_66 : decode cX9_count 66 = .ok (.ireturn, 1) := by decide +kernel
theorem dX9_count_67 : decode cX9_count 67 = .ok (.aload_n 0, 1) := by decide +kernel
theorem dX9_count_68 : decode cX9_count 68 = .ok (.getfield 7, 3) := by decide +kernel
theorem dX9_count_71 : decode cX9_count 71 = .ok (.iconst 0, 1) := by decide +kernel
theorem dX9_count_72 : decode cX9_count 72 = .ok (.iaload, 1) := by decide +kernel
theorem dX9_count_73 : decode cX9_count 73 = .ok (.ireturn, 1) := by decide +kernel
theorem dX9_count_74 : decode cX9_count 74 = .ok (.aload_n 0, 1) := by decide +kernel
theorem dX9_count_75 : decode cX9_count 75 = .ok (.getfield 7, 3) := by decide +kernel
theorem dX9_count_78 : decode cX9_count 78 = .ok (.iconst 3, 1) := by decide +kernel
theorem dX9_count_79 : decode cX9_count 79 = .ok (.iaload, 1) := by decide +kernel
theorem dX9_count_80 : decode cX9_count 80 = .ok (.ireturn, 1) := by decide +kernel
theorem dX9_count_81 : decode cX9_count 81 = .ok (.aload_n 0, 1) := by decide +kernel
theorem dX9_count_82 : decode cX9_count 82 = .ok (.getfield 7, 3) := by decide +kernel
theorem dX9_count_85 : decode cX9_count 85 = .ok (.iconst 4, 1) := by decide +kernel
theorem dX9_count_86 : decode cX9_count 86 = .ok (.iaload, 1) := by decide +kernel
theorem dX9_count_87 : decode cX9_count 87 = .ok (.ireturn, 1) := by decide +kernel
theorem dX9_count_88 : decode cX9_count 88 = .ok (.aload_n 0, 1) := by decide +kernel
theorem dX9_count_89 : decode cX9_count 89 = .ok (.iconst 2, 1) := by decide +kernel
theorem dX9_count_90 : decode cX9_count 90 = .ok (.invokevirtual 215, 3) := by decide +kernel
theorem dX9_count_93 : decode cX9_count 93 = .ok (.ireturn, 1) := by decide +kernel
theorem dX9_count_94 : decode cX9_count 94 = .ok (.aload_n 0, 1) := by decide +kernel
theorem dX9_count_95 : decode cX9_count 95 = .ok (.iconst 4, 1) := by decide +kernel
theorem dX9_count_96 : decode cX9_count 96 = .ok (.invokevirtual 215, 3) := by decide +kernel
theorem dX9_count_99 : decode cX9_count 99 = .ok (.ireturn, 1) := by decide +kernel
theorem dX9_count_100 : decode cX9_count 100 = .ok (.aload_n 0, 1) := by decide +kernel
theorem dX9_count_101 : decode cX9_count 101 = .ok (.invokevirtual 277, 3) := by decide +kernel
theorem dX9_count_104 : decode cX9_count 104 = .ok (.ireturn, 1) := by decide +kernel
theorem dX9_count_105 : decode cX9_count 105 = .ok (.aload_n 0, 1) := by decide +kernel
theorem dX9_count_106 : decode cX9_count 106 = .ok (.getfield 7, 3) := by decide +kernel
theorem dX9_count_109 : decode cX9_count 109 = .ok (.iconst 5, 1) := by decide +kernel
theorem dX9_count_110 : decode cX9_count 110 = .ok (.iaload, 1) := by decide +kernel
theorem dX9_count_111 : decode cX9_count 111 = .ok (.ireturn, 1) := by decide +kernel
theorem dX9_count_112 : decode cX9_count 112 = .ok (.aload_n 0, 1) := by decide +kernel
theorem dX9_count_113 : decode cX9_count 113 = .ok (.getfield 7, 3) := by decide +kernel
theorem dX9_count_116 : decode cX9_count 116 = .ok (.bipush 6, 2) := by decide +kernel
theorem dX9_count_118 : decode cX9_count 118 = .ok (.iaload, 1) := by decide +kernel
theorem dX9_count_119 : decode cX9_count 119 = .ok (.ireturn, 1) := by decide +kernel
theorem dX9_count_120 : decode cX9_count 120 = .ok (.aload_n 0, 1) := by decide +kernel
theorem dX9_count_121 : decode cX9_count 121 = .ok (.getfield 241, 3) := by decide +kernel
theorem dX9_count_124 : decode cX9_count 124 = .ok (.ireturn, 1) := by decide +kernel
theorem dX9_count_125 : decode cX9_count 125 = .ok (.aload_n 0, 1) := by decide +kernel
theorem dX9_count_126 : decode cX9_count 126 = .ok (.getfield 7, 3) := by decide +kernel
theorem dX9_count_129 : decode cX9_count 129 = .ok (.iconst 1, 1) := by decide +kernel
theorem dX9_count_130 : decode cX9_count 130 = .ok (.iaload, 1) := by decide +kernel
theorem dX9_count_131 : decode cX9_count 131 = .ok (.ireturn, 1) := by decide +kernel
theorem dX9_count_132 : decode cX9_count 132 = .ok (.aload_n 0, 1) := by decide +kernel
theorem dX9_count_133 : decode cX9_count 133 = .ok (.ldc 65, 2) := by decide +kernel
theorem dX9_count_135 : decode cX9_count 135 = .ok (.invokevirtual 66, 3) := by decide +kernel
theorem dX9_count_138 : decode cX9_count 138 = .ok (.ireturn, 1) := by decide +kernel
theorem dX9_told_0 : decode cX9_told 0 = .ok (.iload_n 1, 1) := by decide +kernel
theorem dX9_told_1 : decode cX9_told 1 = .ok (.iconst 1, 1) := by decide +kernel
theorem dX9_told_2 : decode cX9_told 2 = .ok (.iconst 5, 1) := by decide +kernel
theorem dX9_told_3 : decode cX9_told 3 = .ok (.invokestatic 53, 3) := by decide +kernel
theorem dX9_told_6 : decode cX9_told 6 = .ok (.ifCond .eq 12, 3) := by decide +kernel
theorem dX9_told_9 : decode cX9_told 9 = .ok (.aload_n 0, 1) := by decide +kernel
theorem dX9_told_10 : decode cX9_told 10 = .ok (.getfield 22, 3) := by decide +kernel
theorem dX9_told_13 : decode cX9_told 13 = .ok (.iload_n 1, 1) := by decide +kernel
theorem dX9_told_14 : decode cX9_told 14 = .ok (.iaload, 1) := by decide +kernel
theorem dX9_told_15 : decode cX9_told 15 = .ok (.goto 9, 3) := by decide +kernel
theorem dX9_told_18 : decode cX9_told 18 = .ok (.aload_n 0, 1) := by decide +kernel
theorem dX9_told_19 : decode cX9_told 19 = .ok (.ldc 65, 2) := by decide +kernel
theorem dX9_told_21 : decode cX9_told 21 = .ok (.invokevirtual 66, 3) := by decide +kernel
theorem dX9_told_24 : decode cX9_told 24 = .ok (.ireturn, 1) := by decide +kernel
theorem dJ9_max_7cf53_0 : decode cJ9_max_7cf53 0 = .ok (.iload_n 0, 1) := by decide +kernel
theorem dJ9_max_7cf53_1 : decode cJ9_max_7cf53 1 = .ok (.iload_n 1, 1) := by decide +kernel
theorem dJ9_max_7cf53_2 : decode cJ9_max_7cf53 2 = .ok (.if_icmp .lt 7, 3) := by decide +kernel
theorem dJ9_max_7cf53_5 : decode cJ9_max_7cf53 5 = .ok (.iload_n 0, 1) := by decide +kernel
theorem dJ9_max_7cf53_6 : decode cJ9_max_7cf53 6 = .ok (.goto 4, 3) := by decide +kernel
theorem dJ9_max_7cf53_9 : decode cJ9_max_7cf53 9 = .ok (.iload_n 1, 1) := by decide +kernel
theorem dJ9_max_7cf53_10 : decode cJ9_max_7cf53 10 = .ok (.ireturn, 1) := by decide +kernel
theorem dJ9_min_7cf53_0 : decode cJ9_min_7cf53 0 = .ok (.iload_n 0, 1) := by decide +kernel
theorem dJ9_min_7cf53_1 : decode cJ9_min_7cf53 1 = .ok (.iload_n 1, 1) := by decide +kernel
theorem dJ9_min_7cf53_2 : decode cJ9_min_7cf53 2 = .ok (.if_icmp .gt 7, 3) := by decide +kernel
theorem dJ9_min_7cf53_5 : decode cJ9_min_7cf53 5 = .ok (.iload_n 0, 1) := by decide +kernel
theorem dJ9_min_7cf53_6 : decode cJ9_min_7cf53 6 = .ok (.goto 4, 3) := by decide +kernel
theorem dJ9_min_7cf53_9 : decode cJ9_min_7cf53 9 = .ok (.iload_n 1, 1) := by decide +kernel
theorem dJ9_min_7cf53_10 : decode cJ9_min_7cf53 10 = .ok (.ireturn, 1) := by decide +kernel
theorem dJ7_fill_53178_0 : decode cJ7_fill_53178 0 = .ok (.iconst 0, 1) := by decide +kernel
theorem dJ7_fill_53178_1 : decode cJ7_fill_53178 1 = .ok (.istore_n 2, 1) := by decide +kernel
theorem dJ7_fill_53178_2 : decode cJ7_fill_53178 2 = .ok (.aload_n 0, 1) := by decide +kernel
theorem dJ7_fill_53178_3 : decode cJ7_fill_53178 3 = .ok (.arraylength, 1) := by decide +kernel
theorem dJ7_fill_53178_4 : decode cJ7_fill_53178 4 = .ok (.istore_n 3, 1) := by decide +kernel
theorem dJ7_fill_53178_5 : decode cJ7_fill_53178 5 = .ok (.iload_n 2, 1) := by decide +kernel
theorem dJ7_fill_53178_6 : decode cJ7_fill_53178 6 = .ok (.iload_n 3, 1) := by decide +kernel
theorem dJ7_fill_53178_7 : decode cJ7_fill_53178 7 = .ok (.if_icmp .ge 13, 3) := by decide +kernel
theorem dJ7_fill_53178_10 : decode cJ7_fill_53178 10 = .ok (.aload_n 0, 1) := by decide +kernel
theorem dJ7_fill_53178_11 : decode cJ7_fill_53178 11 = .ok (.iload_n 2, 1) := by decide +kernel
theorem dJ7_fill_53178_12 : decode cJ7_fill_53178 12 = .ok (.iload_n 1, 1) := by decide +kernel
theorem dJ7_fill_53178_13 : decode cJ7_fill_53178 13 = .ok (.iastore, 1) := by decide +kernel
theorem dJ7_fill_53178_14 : decode cJ7_fill_53178 14 = .ok (.iinc 2 1, 3) := by decide +kernel
theorem dJ7_fill_53178_17 : decode cJ7_fill_53178 17 = .ok (.goto (-12), 3) := by decide +kernel
theorem dJ7_fill_53178_20 : decode cJ7_fill_53178 20 = .ok (.return_, 1) := by decide +kernel
theorem dJ7_fill_031fb_0 : decode cJ7_fill_031fb 0 = .ok (.iconst 0, 1) := by decide +kernel
theorem dJ7_fill_031fb_1 : decode cJ7_fill_031fb 1 = .ok (.istore_n 2, 1) := by decide +kernel
theorem dJ7_fill_031fb_2 : decode cJ7_fill_031fb 2 = .ok (.aload_n 0, 1) := by decide +kernel
theorem dJ7_fill_031fb_3 : decode cJ7_fill_031fb 3 = .ok (.arraylength, 1) := by decide +kernel
theorem dJ7_fill_031fb_4 : decode cJ7_fill_031fb 4 = .ok (.istore_n 3, 1) := by decide +kernel
theorem dJ7_fill_031fb_5 : decode cJ7_fill_031fb 5 = .ok (.iload_n 2, 1) := by decide +kernel
theorem dJ7_fill_031fb_6 : decode cJ7_fill_031fb 6 = .ok (.iload_n 3, 1) := by decide +kernel
theorem dJ7_fill_031fb_7 : decode cJ7_fill_031fb 7 = .ok (.if_icmp .ge 13, 3) := by decide +kernel
theorem dJ7_fill_031fb_10 : decode cJ7_fill_031fb 10 = .ok (.aload_n 0, 1) := by decide +kernel
theorem dJ7_fill_031fb_11 : decode cJ7_fill_031fb 11 = .ok (.iload_n 2, 1) := by decide +kernel
theorem dJ7_fill_031fb_12 : decode cJ7_fill_031fb 12 = .ok (.iload_n 1, 1) := by decide +kernel
theorem dJ7_fill_031fb_13 : decode cJ7_fill_031fb 13 = .ok (.bastore, 1) := by decide +kernel
theorem dJ7_fill_031fb_14 : decode cJ7_fill_031fb 14 = .ok (.iinc 2 1, 3) := by decide +kernel
theorem dJ7_fill_031fb_17 : decode cJ7_fill_031fb 17 = .ok (.goto (-12), 3) := by decide +kernel
theorem dJ7_fill_031fb_20 : decode cJ7_fill_031fb 20 = .ok (.return_, 1) := by decide +kernel
