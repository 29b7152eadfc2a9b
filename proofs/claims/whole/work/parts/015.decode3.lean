theorem dX9_factor_114 : decode cX9_factor 114 = .ok (.iconst 0, 1) := by decide +kernel
theorem dX9_factor_115 : decode cX9_factor 115 = .ok (.ireturn, 1) := by decide +kernel
theorem dX9_factor_116 : decode cX9_factor 116 = .ok (.aload_n 0, 1) := by decide +kernel
theorem dX9_factor_117 : decode cX9_factor 117 = .ok (.getfield 105, 3) := by decide +kernel
theorem dX9_factor_120 : decode cX9_factor 120 = .ok (.ifCond .eq 28, 3) := by decide +kernel
theorem dX9_factor_123 : decode cX9_factor 123 = .ok (.aload_n 0, 1) := by decide +kernel
theorem dX9_factor_124 : decode cX9_factor 124 = .ok (.aload_n 0, 1) := by decide +kernel
theorem dX9_factor_125 : decode cX9_factor 125 = .ok (.getfield 109, 3) := by decide +kernel
theorem dX9_factor_128 : decode cX9_factor 128 = .ok (.invokevirtual 112, 3) := by decide +kernel
theorem dX9_factor_131 : decode cX9_factor 131 = .ok (.bipush 41, 2) := by decide +kernel
theorem dX9_factor_133 : decode cX9_factor 133 = .ok (.if_icmp .ne 15, 3) := by decide +kernel
theorem dX9_factor_136 : decode cX9_factor 136 = .ok (.aload_n 0, 1) := by decide +kernel
theorem dX9_factor_137 : decode cX9_factor 137 = .ok (.dup, 1) := by decide +kernel
theorem dX9_factor_138 : decode cX9_factor 138 = .ok (.getfield 109, 3) := by decide +kernel
theorem dX9_factor_141 : decode cX9_factor 141 = .ok (.iconst 1, 1) := by decide +kernel
theorem dX9_factor_142 : decode cX9_factor 142 = .ok (.iadd, 1) := by decide +kernel
theorem dX9_factor_143 : decode cX9_factor 143 = .ok (.putfield 109, 3) := by decide +kernel
theorem dX9_factor_146 : decode cX9_factor 146 = .ok (.iload_n 2, 1) := by decide +kernel
theorem dX9_factor_147 : decode cX9_factor 147 = .ok (.ireturn, 1) := by decide +kernel
theorem dX9_factor_148 : decode cX9_factor 148 = .ok (.aload_n 0, 1) := by decide +kernel
theorem dX9_factor_149 : decode cX9_factor 149 = .ok (.invokevirtual 118, 3) := by decide +kernel
theorem dX9_factor_152 : decode cX9_factor 152 = .ok (.ireturn, 1) := by decide +kernel
theorem dX9_product_0 : decode cX9_product 0 = .ok (.aload_n 0, 1) := by decide +kernel
theorem dX9_product_1 : decode cX9_product 1 = .ok (.invokevirtual 140, 3) := by decide +kernel
theorem dX9_product_4 : decode cX9_product 4 = .ok (.istore_n 1, 1) := by decide +kernel
theorem dX9_product_5 : decode cX9_product 5 = .ok (.aload_n 0, 1) := by decide +kernel
theorem dX9_product_6 : decode cX9_product 6 = .ok (.getfield 105, 3) := by decide +kernel
theorem dX9_product_9 : decode cX9_product 9 = .ok (.ifCond .eq 105, 3) := by decide +kernel
theorem dX9_product_12 : decode cX9_product 12 = .ok (.aload_n 0, 1) := by decide +kernel
theorem dX9_product_13 : decode cX9_product 13 = .ok (.aload_n 0, 1) := by decide +kernel
theorem dX9_product_14 : decode cX9_product 14 = .ok (.getfield 109, 3) := by decide +kernel
theorem dX9_product_17 : decode cX9_product 17 = .ok (.invokevirtual 112, 3) := by decide +kernel
theorem dX9_product_20 : decode cX9_product 20 = .ok (.bipush 42, 2) := by decide +kernel
theorem dX9_product_22 : decode cX9_product 22 = .ok (.if_icmp .eq 29, 3) := by decide +kernel
theorem dX9_product_25 : decode cX9_product 25 = .ok (.aload_n 0, 1) := by decide +kernel
theorem dX9_product_26 : decode cX9_product 26 = .ok (.aload_n 0, 1) := by decide +kernel
theorem dX9_product_27 : decode cX9_product 27 = .ok (.getfield 109, 3) := by decide +kernel
theorem dX9_product_30 : decode cX9_product 30 = .ok (.invokevirtual 112, 3) := by decide +kernel
theorem dX9_product_33 : decode cX9_product 33 = .ok (.bipush 47, 2) := by decide +kernel
theorem dX9_product_35 : decode cX9_product 35 = .ok (.if_icmp .eq 16, 3) := by decide +kernel
theorem dX9_product_38 : decode cX9_product 38 = .ok (.aload_n 0, 1) := by decide +kernel
theorem dX9_product_39 : decode cX9_product 39 = .ok (.aload_n 0, 1) := by decide +kernel
theorem dX9_product_40 : decode cX9_product 40 = .ok (.getfield 109, 3) := by decide +kernel
theorem dX9_product_43 : decode cX9_product 43 = .ok (.invokevirtual 112, 3) := by decide +kernel
theorem dX9_product_46 : decode cX9_product 46 = .ok (.bipush 37, 2) := by decide +kernel
theorem dX9_product_48 : decode cX9_product 48 = .ok (.if_icmp .ne 66, 3) := by decide +kernel
theorem dX9_product_51 : decode cX9_product 51 = .ok (.aload_n 0, 1) := by decide +kernel
theorem dX9_product_52 : decode cX9_product 52 = .ok (.aload_n 0, 1) := by decide +kernel
theorem dX9_product_53 : decode cX9_product 53 = .ok (.getfield 109, 3) := by decide +kernel
theorem dX9_product_56 : decode cX9_product 56 = .ok (.invokevirtual 112, 3) := by decide +kernel
theorem dX9_product_59 : decode cX9_product 59 = .ok (.istore_n 2, 1) := by decide +kernel
theorem dX9_product_60 : decode cX9_product 60 = .ok (.aload_n 0, 1) := by decide +kernel
theorem dX9_product_61 : decode cX9_product 61 = .ok (.dup, 1) := by decide +kernel
theorem dX9_product_62 : decode cX9_product 62 = .ok (.getfield 109, 3) := by decide +kernel
theorem dX9_product_65 : decode cX9_product 65 = .ok (.iconst 1, 1) := by decide +kernel
theorem dX9_product_66 : decode cX9_product 66 = .ok (.iadd, 1) := by decide +kernel
theorem dX9_product_67 : decode cX9_product 67 = .ok (.putfield 109, 3) := by decide +kernel
theorem dX9_product_70 : decode cX9_product 70 = .ok (.aload_n 0, 1) := by decide +kernel
theorem dX9_product_71 : decode cX9_product 71 = .ok (.invokevirtual 140, 3) := by decide +kernel
theorem dX9_product_74 : decode cX9_product 74 = .ok (.istore_n 3, 1) := by decide +kernel
theorem dX9_product_75 : decode cX9_product 75 = .ok (.iload_n 2, 1) := by decide +kernel
theorem dX9_product_76 : decode cX9_product 76 = .ok (.bipush 42, 2) := by decide +kernel
theorem dX9_product_78 : decode cX9_product 78 = .ok (.if_icmp .ne 9, 3) := by decide +kernel
theorem dX9_product_81 : decode cX9_product 81 = .ok (.iload_n 1, 1) := by decide +kernel
theorem dX9_product_82 : decode cX9_product 82 = .ok (.iload_n 3, 1) := by decide +kernel
theorem dX9_product_83 : decode cX9_product 83 = .ok (.imul, 1) := by decide +kernel
theorem dX9_product_84 : decode cX9_product 84 = .ok (.goto 26, 3) := by decide +kernel
theorem dX9_product_87 : decode cX9_product 87 = .ok (.iload_n 3, 1) := by decide +kernel
theorem dX9_product_88 : decode cX9_product 88 = .ok (.ifCond .ne 7, 3) := by decide +kernel
theorem dX9_product_91 : decode cX9_product 91 = .ok (.iconst 0, 1) := by decide +kernel
theorem dX9_product_92 : decode cX9_product 92 = .ok (.goto 18, 3) := by decide +kernel
theorem dX9_product_95 : decode cX9_product 95 = .ok (.iload_n 2, 1) := by decide +kernel
theorem dX9_product_96 : decode cX9_product 96 = .ok (.bipush 47, 2) := by decide +kernel
theorem dX9_product_98 : decode cX9_product 98 = .ok (.if_icmp .ne 9, 3) := by decide +kernel
theorem dX9_product_101 : decode cX9_product 101 = .ok (.iload_n 1, 1) := by decide +kernel
theorem dX9_product_102 : decode cX9_product 102 = .ok (.iload_n 3, 1) := by decide +kernel
theorem dX9_product_103 : decode cX9_product 103 = .ok (.idiv, 1) := by decide +kernel
theorem dX9_product_104 : decode cX9_product 104 = .ok (.goto 6, 3) := by decide +kernel
theorem dX9_product_107 : decode cX9_product 107 = .ok (.iload_n 1, 1) := by decide +kernel
theorem dX9_product_108 : decode cX9_product 108 = .ok (.iload_n 3, 1) := by decide +kernel
theorem dX9_product_109 : decode cX9_product 109 = .ok (.irem, 1) := by decide +kernel
theorem dX9_product_110 : decode cX9_product 110 = .ok (.istore_n 1, 1) := by decide +kernel
theorem dX9_product_111 : decode cX9_product 111 = .ok (.goto (-106), 3) := by decide +kernel
theorem dX9_product_114 : decode cX9_product 114 = .ok (.iload_n 1, 1) := by decide +kernel
theorem dX9_product_115 : decode cX9_product 115 = .ok (.ireturn, 1) := by decide +kernel
theorem dX9_sum_0 : decode cX9_sum 0 = .ok (.aload_n 0, 1) := by decide +kernel
theorem dX9_sum_1 : decode cX9_sum 1 = .ok (.invokevirtual 146, 3) := by decide +kernel
theorem dX9_sum_4 : decode cX9_sum 4 = .ok (.istore_n 1, 1) := by decide +kernel
theorem dX9_sum_5 : decode cX9_sum 5 = .ok (.aload_n 0, 1) := by decide +kernel
theorem dX9_sum_6 : decode cX9_sum 6 = .ok (.getfield 105, 3) := by decide +kernel
theorem dX9_sum_9 : decode cX9_sum 9 = .ok (.ifCond .eq 72, 3) := by decide +kernel
theorem dX9_sum_12 : decode cX9_sum 12 = .ok (.aload_n 0, 1) := by decide +kernel
theorem dX9_sum_13 : decode cX9_sum 13 = .ok (.aload_n 0, 1) := by decide +kernel
theorem dX9_sum_14 : decode cX9_sum 14 = .ok (.getfield 109, 3) := by decide +kernel
theorem dX9_sum_17 : decode cX9_sum 17 = .ok (.invokevirtual 112, 3) := by decide +kernel
theorem dX9_sum_20 : decode cX9_sum 20 = .ok (.bipush 43, 2) := by decide +kernel
theorem dX9_sum_22 : decode cX9_sum 22 = .ok (.if_icmp .eq 16, 3) := by decide +kernel
theorem dX9_sum_25 : decode cX9_sum 25 = .ok (.aload_n 0, 1) := by decide +kernel
theorem dX9_sum_26 : decode cX9_sum 26 = .ok (.aload_n 0, 1) := by decide +kernel
theorem dX9_sum_27 : decode cX9_sum 27 = .ok (.getfield 109, 3) := by decide +kernel
theorem dX9_sum_30 : decode cX9_sum 30 = .ok (.invokevirtual 112, 3) := by decide +kernel
theorem dX9_sum_33 : decode cX9_sum 33 = .ok (.bipush 45, 2) := by decide +kernel
theorem dX9_sum_35 : decode cX9_sum 35 = .ok (.if_icmp .ne 46, 3) := by decide +kernel
theorem dX9_sum_38 : decode cX9_sum 38 = .ok (.aload_n 0, 1) := by decide +kernel
theorem dX9_sum_39 : decode cX9_sum 39 = .ok (.aload_n 0, 1) := by decide +kernel
theorem dX9_sum_40 : decode cX9_sum 40 = .ok (.getfield 109, 3) := by decide +kernel
theorem dX9_sum_43 : decode cX9_sum 43 = .ok (.invokevirtual 112, 3) := by decide +kernel
theorem dX9_sum_46 : decode cX9_sum 46 = .ok (.istore_n 2, 1) := by decide +kernel
theorem dX9_sum_47 : decode cX9_sum 47 = .ok (.aload_n 0, 1) := by decide +kernel
theorem dX9_sum_48 : decode cX9_sum 48 = .ok (.dup, 1) := by decide +kernel
theorem dX9_sum_49 : decode cX9_sum 49 = .ok (.getfield 109, 3) := by decide +kernel
theorem dX9_sum_52 : decode cX9_sum 52 = .ok (.iconst 1, 1) := by decide +kernel
theorem dX9_sum_53 : decode cX9_sum 53 = .ok (.iadd, 1) := by decide +kernel
theorem dX9_sum_54 : decode cX9_sum 54 = .ok (.putfield 109, 3) := by decide +kernel
theorem dX9_sum_57 : decode cX9_sum 57 = .ok (.aload_n 0, 1) := by decide +kernel
theorem dX9_sum_58 : decode cX9_sum 58 = .ok (.invokevirtual 146, 3) := by decide +kernel
theorem dX9_sum_61 : decode cX9_sum 61 = .ok (.istore_n 3, 1) := by decide +kernel
theorem dX9_sum_62 : decode cX9_sum 62 = .ok (.iload_n 2, 1) := by decide +kernel
theorem dX9_sum_63 : decode cX9_sum 63 = .ok (.bipush 43, 2) := by decide +kernel
theorem dX9_sum_65 : decode cX9_sum 65 = .ok (.if_icmp .ne 9, 3) := by decide +kernel
theorem dX9_sum_68 : decode cX9_sum 68 = .ok (.iload_n 1, 1) := by decide +kernel
theorem dX9_sum_69 : decode cX9_sum 69 = .ok (.iload_n 3, 1) := by decide +kernel
theorem dX9_sum_70 : decode cX9_sum 70 = .ok (.iadd, 1) := by decide +kernel
theorem dX9_sum_71 : decode cX9_sum 71 = .ok (.goto 6, 3) := by decide +kernel
theorem dX9_sum_74 : decode cX9_sum 74 = .ok (.iload_n 1, 1) := by decide +kernel
theorem dX9_sum_75 : decode cX9_sum 75 = .ok (.iload_n 3, 1) := by decide +kernel
theorem dX9_sum_76 : decode cX9_sum 76 = .ok (.isub, 1) := by decide +kernel
theorem dX9_sum_77 : decode cX9_sum 77 = .ok (.istore_n 1, 1) := by decide +kernel
theorem dX9_sum_78 : decode cX9_sum 78 = .ok (.goto (-73), 3) := by decide +kernel
theorem dX9_sum_81 : decode cX9_sum 81 = .ok (.iload_n 1, 1) := by decide +kernel
theorem dX9_sum_82 : decode cX9_sum 82 = .ok (.ireturn, 1) := by decide +kernel
theorem dX9_compared_0 : decode cX9_compared 0 = .ok (.aload_n 0, 1) := by decide +kernel
theorem dX9_compared_1 : decode cX9_compared 1 = .ok (.invokevirtual 149, 3) := by decide +kernel
theorem dX9_compared_4 : decode cX9_compared 4 = .ok (.istore_n 1, 1) := by decide +kernel
theorem dX9_compared_5 : decode cX9_compared 5 = .ok (.aload_n 0, 1) := by decide +kernel
theorem dX9_compared_6 : decode cX9_compared 6 = .ok (.getfield 105, 3) := by decide +kernel
theorem dX9_compared_9 : decode cX9_compared 9 = .ok (.ifCond .eq 14, 3) := by decide +kernel
theorem dX9_compared_12 : decode cX9_compared 12 = .ok (.aload_n 0, 1) := by decide +kernel
theorem dX9_compared_13 : decode cX9_compared 13 = .ok (.aload_n 0, 1) := by decide +kernel
theorem dX9_compared_14 : decode cX9_compared 14 = .ok (.getfield 109, 3) := by decide +kernel
theorem dX9_compared_17 : decode cX9_compared 17 = .ok (.invokevirtual 112, 3) := by decide +kernel
theorem dX9_compared_20 : decode cX9_compared 20 = .ok (.goto 4, 3) := by decide +kernel
theorem dX9_compared_23 : decode cX9_compared 23 = .ok (.iconst (-1), 1) := by decide +kernel
theorem dX9_compared_24 : decode cX9_compared 24 = .ok (.istore_n 2, 1) := by decide +kernel
theorem dX9_compared_25 : decode cX9_compared 25 = .ok (.iload_n 2, 1) := by decide +kernel
theorem dX9_compared_26 : decode cX9_compared 26 = .ok (.bipush 60, 2) := by decide +kernel
theorem dX9_compared_28 : decode cX9_compared 28 = .ok (.if_icmp .eq 17, 3) := by decide +kernel
theorem dX9_compared_31 : decode cX9_compared 31 = .ok (.iload_n 2, 1) := by decide +kernel
theorem dX9_compared_32 : decode cX9_compared 32 = .ok (.bipush 61, 2) := by decide +kernel
theorem dX9_compared_34 : decode cX9_compared 34 = .ok (.if_icmp .eq 11, 3) := by decide +kernel
theorem dX9_compared_37 : decode cX9_compared 37 = .ok (.iload_n 2, 1) := by decide +kernel
theorem dX9_compared_38 : decode cX9_compared 38 = .ok (.bipush 62, 2) := by decide +kernel
theorem dX9_compared_40 : decode cX9_compared 40 = .ok (.if_icmp .eq 5, 3) := by decide +kernel
theorem dX9_compared_43 : decode cX9_compared 43 = .ok (.iload_n 1, 1) := by decide +kernel
theorem dX9_compared_44 : decode cX9_compared 44 = .ok (.ireturn, 1) := by decide +kernel
theorem dX9_compared_45 : decode cX9_compared 45 = .ok (.aload_n 0, 1) := by decide +kernel
theorem dX9_compared_46 : decode cX9_compared 46 = .ok (.dup, 1) := by decide +kernel
theorem dX9_compared_47 : decode cX9_compared 47 = .ok (.getfield 109, 3) := by decide +kernel
theorem dX9_compared_50 : decode cX9_compared 50 = .ok (.iconst 1, 1) := by decide +kernel
theorem dX9_compared_51 : decode cX9_compared 51 = .ok (.iadd, 1) := by decide +kernel
theorem dX9_compared_52 : decode cX9_compared 52 = .ok (.putfield 109, 3) := by decide +kernel
theorem dX9_compared_55 : decode cX9_compared 55 = .ok (.aload_n 0, 1) := by decide +kernel
theorem dX9_compared_56 : decode cX9_compared 56 = .ok (.invokevirtual 149, 3) := by decide +kernel
theorem dX9_compared_59 : decode cX9_compared 59 = .ok (.istore_n 3, 1) := by decide +kernel
theorem dX9_compared_60 : decode cX9_compared 60 = .ok (.iload_n 2, 1) := by decide +kernel
theorem dX9_compared_61 : decode cX9_compared 61 = .ok (.bipush 60, 2) := by decide +kernel
theorem dX9_compared_63 : decode cX9_compared 63 = .ok (.if_icmp .ne 16, 3) := by decide +kernel
theorem dX9_compared_66 : decode cX9_compared 66 = .ok (.iload_n 1, 1) := by decide +kernel
theorem dX9_compared_67 : decode cX9_compared 67 = .ok (.iload_n 3, 1) := by decide +kernel
theorem dX9_compared_68 : decode cX9_compared 68 = .ok (.if_icmp .ge 7, 3) := by decide +kernel
theorem dX9_compared_71 : decode cX9_compared 71 = .ok (.iconst 1, 1) := by decide +kernel
theorem dX9_compared_72 : decode cX9_compared 72 = .ok (.goto 36, 3) := by decide +kernel
theorem dX9_compared_75 : decode cX9_compared 75 = .ok (.iconst 0, 1) := by decide +kernel
theorem dX9_compared_76 : decode cX9_compared 76 = .ok (.goto 32, 3) := by decide +kernel
theorem dX9_compared_79 : decode cX9_compared 79 = .ok (.iload_n 2, 1) := by decide +kernel
theorem dX9_compared_80 : decode cX9_compared 80 = .ok (.bipush 61, 2) := by decide +kernel
theorem dX9_compared_82 : decode cX9_compared 82 = .ok (.if_icmp .ne 16, 3) := by decide +kernel
theorem dX9_compared_85 : decode cX9_compared 85 = .ok (.iload_n 1, 1) := by decide +kernel
theorem dX9_compared_86 : decode cX9_compared 86 = .ok (.iload_n 3, 1) := by decide +kernel
theorem dX9_compared_87 : decode cX9_compared 87 = .ok (.if_icmp .ne 7, 3) := by decide +kernel
theorem dX9_compared_90 : decode cX9_compared 90 = .ok (.iconst 1, 1) := by decide +kernel
theorem dX9_compared_91 : decode cX9_compared 91 = .ok (.goto 17, 3) := by decide +kernel
theorem dX9_compared_94 : decode cX9_compared 94 = .ok (.iconst 0, 1) := by decide +kernel
theorem dX9_compared_95 : decode cX9_compared 95 = .ok (.goto 13, 3) := by decide +kernel
theorem dX9_compared_98 : decode cX9_compared 98 = .ok (.iload_n 1, 1) := by decide +kernel
theorem dX9_compared_99 : decode cX9_compared 99 = .ok (.iload_n 3, 1) := by decide +kernel
theorem dX9_compared_100 : decode cX9_compared 100 = .ok (.if_icmp .le 7, 3) := by decide +kernel
theorem dX9_compared_103 : decode cX9_compared 103 = .ok (.iconst 1, 1) := by decide +kernel
theorem dX9_compared_104 : decode cX9_compared 104 = .ok (.goto 4, 3) := by decide +kernel
theorem dX9_compared_107 : decode cX9_compared 107 = .ok (.iconst 0, 1) := by decide +kernel
theorem dX9_compared_108 : decode cX9_compared 108 = .ok (.istore 4, 2) := by decide +kernel
theorem dX9_compared_110 : decode cX9_compared 110 = .ok (.iload 4, 2) := by decide +kernel
theorem dX9_compared_112 : decode cX9_compared 112 = .ok (.ifCond .eq 7, 3) := by decide +kernel
theorem dX9_compared_115 : decode cX9_compared 115 = .ok (.iconst 1, 1) := by decide +kernel
theorem dX9_compared_116 : decode cX9_compared 116 = .ok (.goto 4, 3) := by decide +kernel
theorem dX9_compared_119 : decode cX9_compared 119 = .ok (.iconst 0, 1) := by decide +kernel
theorem dX9_compared_120 : decode cX9_compared 120 = .ok (.ireturn, 1) := by decide +kernel
theorem dX9_both_0 : decode cX9_both 0 = .ok (.aload_n 0, 1) := by decide +kernel
theorem dX9_both_1 : decode cX9_both 1 = .ok (.invokevirtual 152, 3) := by decide +kernel
theorem dX9_both_4 : decode cX9_both 4 = .ok (.istore_n 1, 1) := by decide +kernel
theorem dX9_both_5 : decode cX9_both 5 = .ok (.aload_n 0, 1) := by decide +kernel
theorem dX9_both_6 : decode cX9_both 6 = .ok (.getfield 105, 3) := by decide +kernel
theorem dX9_both_9 : decode cX9_both 9 = .ok (.ifCond .eq 48, 3) := by decide +kernel
theorem dX9_both_12 : decode cX9_both 12 = .ok (.aload_n 0, 1) := by decide +kernel
theorem dX9_both_13 : decode cX9_both 13 = .ok (.aload_n 0, 1) := by decide +kernel
theorem dX9_both_14 : decode cX9_both 14 = .ok (.getfield 109, 3) := by decide +kernel
theorem dX9_both_17 : decode cX9_both 17 = .ok (.invokevirtual 112, 3) := by decide +kernel
theorem dX9_both_20 : decode cX9_both 20 = .ok (.bipush 38, 2) := by decide +kernel
theorem dX9_both_22 : decode cX9_both 22 = .ok (.if_icmp .ne 35, 3) := by decide +kernel
theorem dX9_both_25 : decode cX9_both 25 = .ok (.aload_n 0, 1) := by decide +kernel
theorem dX9_both_26 : decode cX9_both 26 = .ok (.dup, 1) := by decide +kernel
theorem dX9_both_27 : decode cX9_both 27 = .ok (.getfield 109, 3) := by decide +kernel
theorem dX9_both_30 : decode cX9_both 30 = .ok (.iconst 1, 1) := by decide +kernel
theorem dX9_both_31 : decode cX9_both 31 = .ok (.iadd, 1) := by decide +kernel
theorem dX9_both_32 : decode cX9_both 32 = .ok (.putfield 109, 3) := by decide +kernel
theorem dX9_both_35 : decode cX9_both 35 = .ok (.aload_n 0, 1) := by decide +kernel
theorem dX9_both_36 : decode cX9_both 36 = .ok (.invokevirtual 152, 3) := by decide +kernel
theorem dX9_both_39 : decode cX9_both 39 = .ok (.istore_n 2, 1) := by decide +kernel
theorem dX9_both_40 : decode cX9_both 40 = .ok (.iload_n 1, 1) := by decide +kernel
theorem dX9_both_41 : decode cX9_both 41 = .ok (.ifCond .eq 11, 3) := by decide +kernel
theorem dX9_both_44 : decode cX9_both 44 = .ok (.iload_n 2, 1) := by decide +kernel
theorem dX9_both_45 : decode cX9_both 45 = .ok (.ifCond .eq 7, 3) := by decide +kernel
theorem dX9_both_48 : decode cX9_both 48 = .ok (.iconst 1, 1) := by decide +kernel
theorem dX9_both_49 : decode cX9_both 49 = .ok (.goto 4, 3) := by decide +kernel
theorem dX9_both_52 : decode cX9_both 52 = .ok (.iconst 0, 1) := by decide +kernel
theorem dX9_both_53 : decode cX9_both 53 = .ok (.istore_n 1, 1) := by decide +kernel
theorem dX9_both_54 : decode cX9_both 54 = .ok (.goto (-49), 3) := by decide +kernel
theorem dX9_both_57 : decode cX9_both 57 = .ok (.iload_n 1, 1) := by decide +kernel
theorem dX9_both_58 : decode cX9_both 58 = .ok (.ireturn, 1) := by decide +kernel
theorem dX9_whole_0 : decode cX9_whole 0 = .ok (.aload_n 0, 1) := by decide +kernel
theorem dX9_whole_1 : decode cX9_whole 1 = .ok (.invokevirtual 155, 3) := by decide +kernel
theorem dX9_whole_4 : decode cX9_whole 4 = .ok (.istore_n 1, 1) := by decide +kernel
theorem dX9_whole_5 : decode cX9_whole 5 = .ok (.aload_n 0, 1) := by decide +kernel
theorem dX9_whole_6 : decode cX9_whole 6 = .ok (.getfield 105, 3) := by decide +kernel
theorem dX9_whole_9 : decode cX9_whole 9 = .ok (.ifCond .eq 48, 3) := by decide +kernel
theorem dX9_whole_12 : decode cX9_whole 12 = .ok (.aload_n 0, 1) := by decide +kernel
theorem dX9_whole_13 : decode cX9_whole 13 = .ok (.aload_n 0, 1) := by decide +kernel
theorem dX9_whole_14 : decode cX9_whole 14 = .ok (.getfield 109, 3) := by decide +kernel
theorem dX9_whole_17 : decode cX9_whole 17 = .ok (.invokevirtual 112, 3) := by decide +kernel
theorem dX9_whole_20 : decode cX9_whole 20 = .ok (.bipush 124, 2) := by decide +kernel
theorem dX9_whole_22 : decode cX9_whole 22 = .ok (.if_icmp .ne 35, 3) := by decide +kernel
theorem dX9_whole_25 : decode cX9_whole 25 = .ok (.aload_n 0, 1) := by decide +kernel
theorem dX9_whole_26 : decode cX9_whole 26 = .ok (.dup, 1) := by decide +kernel
theorem dX9_whole_27 : decode cX9_whole 27 = .ok (.getfield 109, 3) := by decide +kernel
theorem dX9_whole_30 : decode cX9_whole 30 = .ok (.iconst 1, 1) := by decide +kernel
theorem dX9_whole_31 : decode cX9_whole 31 = .ok (.iadd, 1) := by decide +kernel
theorem dX9_whole_32 : decode cX9_whole 32 = .ok (.putfield 109, 3) := by decide +kernel
theorem dX9_whole_35 : decode cX9_whole 35 = .ok (.aload_n 0, 1) := by decide +kernel
theorem dX9_whole_36 : decode cX9_whole 36 = .ok (.invokevirtual 155, 3) := by decide +kernel
theorem dX9_whole_39 : decode cX9_whole 39 = .ok (.istore_n 2, 1) := by decide +kernel
theorem dX9_whole_40 : decode cX9_whole 40 = .ok (.iload_n 1, 1) := by decide +kernel
theorem dX9_whole_41 : decode cX9_whole 41 = .ok (.ifCond .ne 7, 3) := by decide +kernel
theorem dX9_whole_44 : decode cX9_whole 44 = .ok (.iload_n 2, 1) := by decide +kernel
theorem dX9_whole_45 : decode cX9_whole 45 = .ok (.ifCond .eq 7, 3) := by decide +kernel
theorem dX9_whole_48 : decode cX9_whole 48 = .ok (.iconst 1, 1) := by decide +kernel
theorem dX9_whole_49 : decode cX9_whole 49 = .ok (.goto 4, 3) := by decide +kernel
theorem dX9_whole_52 : decode cX9_whole 52 = .ok (.iconst 0, 1) := by decide +kernel
theorem dX9_whole_53 : decode cX9_whole 53 = .ok (.istore_n 1, 1) := by decide +kernel
theorem dX9_whole_54 : decode cX9_whole 54 = .ok (.goto (-49), 3) := by decide +kernel
theorem dX9_whole_57 : decode cX9_whole 57 = .ok (.iload_n 1, 1) := by decide +kernel
theorem dX9_whole_58 : decode cX9_whole 58 = .ok (.ireturn, 1) := by decide +kernel
theorem dX9_walks_0 : decode cX9_walks 0 = .ok (.aload_n 0, 1) := by decide +kernel
theorem dX9_walks_1 : decode cX9_walks 1 = .ok (.iload_n 1, 1) := by decide +kernel
theorem dX9_walks_2 : decode cX9_walks 2 = .ok (.putfield 102, 3) := by decide +kernel
theorem dX9_walks_5 : decode cX9_walks 5 = .ok (.aload_n 0, 1) := by decide +kernel
theorem dX9_walks_6 : decode cX9_walks 6 = .ok (.iconst 0, 1) := by decide +kernel
theorem dX9_walks_7 : decode cX9_walks 7 = .ok (.putfield 109, 3) := by decide +kernel
theorem dX9_walks_10 : decode cX9_walks 10 = .ok (.aload_n 0, 1) := by decide +kernel
theorem dX9_walks_11 : decode cX9_walks 11 = .ok (.aload_n 0, 1) := by decide +kernel
theorem dX9_walks_12 : decode cX9_walks 12 = .ok (.getfield 7, 3) := by decide +kernel
theorem dX9_walks_15 : decode cX9_walks 15 = .ok (.bipush 7, 2) := by decide +kernel
theorem dX9_walks_17 : decode cX9_walks 17 = .ok (.iload_n 1, 1) := by decide +kernel
theorem dX9_walks_18 : decode cX9_walks 18 = .ok (.iadd, 1) := by decide +kernel
theorem dX9_walks_19 : decode cX9_walks 19 = .ok (.iaload, 1) := by decide +kernel
theorem dX9_walks_20 : decode cX9_walks 20 = .ok (.putfield 98, 3) := by decide +kernel
theorem dX9_walks_23 : decode cX9_walks 23 = .ok (.aload_n 0, 1) := by decide +kernel
theorem dX9_walks_24 : decode cX9_walks 24 = .ok (.iconst 0, 1) := by decide +kernel
theorem dX9_walks_25 : decode cX9_walks 25 = .ok (.putfield 137, 3) := by decide +kernel
theorem dX9_walks_28 : decode cX9_walks 28 = .ok (.aload_n 0, 1) := by decide +kernel
theorem dX9_walks_29 : decode cX9_walks 29 = .ok (.iconst 1, 1) := by decide +kernel
theorem dX9_walks_30 : decode cX9_walks 30 = .ok (.putfield 105, 3) := by decide +kernel
theorem dX9_walks_33 : decode cX9_walks 33 = .ok (.aload_n 0, 1) := by decide +kernel
theorem dX9_walks_34 : decode cX9_walks 34 = .ok (.iload_n 2, 1) := by decide +kernel
theorem dX9_walks_35 : decode cX9_walks 35 = .ok (.putfield 122, 3) := by decide +kernel
theorem dX9_walks_38 : decode cX9_walks 38 = .ok (.aload_n 0, 1) := by decide +kernel
theorem dX9_walks_39 : decode cX9_walks 39 = .ok (.iload_n 3, 1) := by decide +kernel
theorem dX9_walks_40 : decode cX9_walks 40 = .ok (.putfield 125, 3) := by decide +kernel
theorem dX9_walks_43 : decode cX9_walks 43 = .ok (.aload_n 0, 1) := by decide +kernel
theorem dX9_walks_44 : decode cX9_walks 44 = .ok (.iload 4, 2) := by decide +kernel
theorem dX9_walks_46 : decode cX9_walks 46 = .ok (.putfield 128, 3) := by decide +kernel
theorem dX9_walks_49 : decode cX9_walks 49 = .ok (.aload_n 0, 1) := by decide +kernel
theorem dX9_walks_50 : decode cX9_walks 50 = .ok (.invokevirtual 143, 3) := by decide +kernel
theorem dX9_walks_53 : decode cX9_walks 53 = .ok (.istore 5, 2) := by decide +kernel
theorem dX9_walks_55 : decode cX9_walks 55 = .ok (.aload_n 0, 1) := by decide +kernel
theorem dX9_walks_56 : decode cX9_walks 56 = .ok (.aload_n 0, 1) := by decide +kernel
theorem dX9_walks_57 : decode cX9_walks 57 = .ok (.getfield 105, 3) := by decide +kernel
theorem dX9_walks_60 : decode cX9_walks 60 = .ok (.ifCond .eq 18, 3) := by decide +kernel
theorem dX9_walks_63 : decode cX9_walks 63 = .ok (.aload_n 0, 1) := by decide +kernel
theorem dX9_walks_64 : decode cX9_walks 64 = .ok (.getfield 109, 3) := by decide +kernel
theorem dX9_walks_67 : decode cX9_walks 67 = .ok (.aload_n 0, 1) := by decide +kernel
theorem dX9_walks_68 : decode cX9_walks 68 = .ok (.getfield 98, 3) := by decide +kernel
theorem dX9_walks_71 : decode cX9_walks 71 = .ok (.if_icmp .ne 7, 3) := by decide +kernel
theorem dX9_walks_74 : decode cX9_walks 74 = .ok (.iconst 1, 1) := by decide +kernel
theorem dX9_walks_75 : decode cX9_walks 75 = .ok (.goto 4, 3) := by decide +kernel
theorem dX9_walks_78 : decode cX9_walks 78 = .ok (.iconst 0, 1) := by decide +kernel
theorem dX9_walks_79 : decode cX9_walks 79 = .ok (.putfield 105, 3) := by decide +kernel
theorem dX9_walks_82 : decode cX9_walks 82 = .ok (.iload 5, 2) := by decide +kernel
theorem dX9_walks_84 : decode cX9_walks 84 = .ok (.ireturn, 1) := by decide +kernel
theorem dX9_forgets_0 : decode cX9_forgets 0 = .ok (.iconst 0, 1) := by decide +kernel
theorem dX9_forgets_1 : decode cX9_forgets 1 = .ok (.istore_n 1, 1) := by decide +kernel
theorem dX9_forgets_2 : decode cX9_forgets 2 = .ok (.iload_n 1, 1) := by decide +kernel
theorem dX9_forgets_3 : decode cX9_forgets 3 = .ok (.sipush 2000, 3) := by decide +kernel
theorem dX9_forgets_6 : decode cX9_forgets 6 = .ok (.if_icmp .ge 16, 3) := by decide +kernel
theorem dX9_forgets_9 : decode cX9_forgets 9 = .ok (.aload_n 0, 1) := by decide +kernel
theorem dX9_forgets_10 : decode cX9_forgets 10 = .ok (.getfield 25, 3) := by decide +kernel
theorem dX9_forgets_13 : decode cX9_forgets 13 = .ok (.iload_n 1, 1) := by decide +kernel
theorem dX9_forgets_14 : decode cX9_forgets 14 = .ok (.iconst (-1), 1) := by decide +kernel
theorem dX9_forgets_15 : decode cX9_forgets 15 = .ok (.iastore, 1) := by decide +kernel
theorem dX9_forgets_16 : decode cX9_forgets 16 = .ok (.iinc 1 1, 3) := by decide +kernel
theorem dX9_forgets_19 : decode cX9_forgets 19 = .ok (.goto (-17), 3) := by decide +kernel
theorem dX9_forgets_22 : decode cX9_forgets 22 = .ok (.return_, 1) := by decide +kernel
theorem dX9_worked_0 : decode cX9_worked 0 = .ok (.aload_n 0, 1) := by decide +kernel
theorem dX9_worked_1 : decode cX9_worked 1 = .ok (.getfield 7, 3) := by decide +kernel
theorem dX9_worked_4 : decode cX9_worked 4 = .ok (.bipush 7, 2) := by decide +kernel
theorem dX9_worked_6 : decode cX9_worked 6 = .ok (.iload_n 1, 1) := by decide +kernel
theorem dX9_worked_7 : decode cX9_worked 7 = .ok (.iadd, 1) := by decide +kernel
theorem dX9_worked_8 : decode cX9_worked 8 = .ok (.iaload, 1) := by decide +kernel
theorem dX9_worked_9 : decode cX9_worked 9 = .ok (.ifCond .lt 15, 3) := by decide +kernel
theorem dX9_worked_12 : decode cX9_worked 12 = .ok (.aload_n 0, 1) := by decide +kernel
theorem dX9_worked_13 : decode cX9_worked 13 = .ok (.iload_n 1, 1) := by decide +kernel
theorem dX9_worked_14 : decode cX9_worked 14 = .ok (.iload_n 2, 1) := by decide +kernel
theorem dX9_worked_15 : decode cX9_worked 15 = .ok (.iload_n 3, 1) := by decide +kernel
theorem dX9_worked_16 : decode cX9_worked 16 = .ok (.iload 4, 2) := by decide +kernel
theorem dX9_worked_18 : decode cX9_worked 18 = .ok (.invokevirtual 158, 3) := by decide +kernel
theorem dX9_worked_21 : decode cX9_worked 21 = .ok (.goto 4, 3) := by decide +kernel
theorem dX9_worked_24 : decode cX9_worked 24 = .ok (.iload_n 2, 1) := by decide +kernel
theorem dX9_worked_25 : decode cX9_worked 25 = .ok (.istore 5, 2) := by decide +kernel
theorem dX9_worked_27 : decode cX9_worked 27 = .ok (.iload 5, 2) := by decide +kernel
theorem dX9_worked_29 : decode cX9_worked 29 = .ok (.iconst 0, 1) := by decide +kernel
theorem dX9_worked_30 : decode cX9_worked 30 = .ok (.iload_n 1, 1) := by decide +kernel
theorem dX9_worked_31 : decode cX9_worked 31 = .ok (.ifCond .ne 7, 3) := by decide +kernel
theorem dX9_worked_34 : decode cX9_worked 34 = .ok (.iconst 4, 1) := by decide +kernel
theorem dX9_worked_35 : decode cX9_worked 35 = .ok (.goto 5, 3) := by decide +kernel
theorem dX9_worked_38 : decode cX9_worked 38 = .ok (.bipush 9, 2) := by decide +kernel
theorem dX9_worked_40 : decode cX9_worked 40 = .ok (.invokestatic 162, 3) := by decide +kernel
theorem dX9_worked_43 : decode cX9_worked 43 = .ok (.ireturn, 1) := by decide +kernel
theorem dX9_lawOf_0 : decode cX9_lawOf 0 = .ok (.iload_n 2, 1) := by decide +kernel
theorem dX9_lawOf_1 : decode cX9_lawOf 1 = .ok (.iconst 0, 1) := by decide +kernel
theorem dX9_lawOf_2 : decode cX9_lawOf 2 = .ok (.bipush 9, 2) := by decide +kernel
theorem dX9_lawOf_4 : decode cX9_lawOf 4 = .ok (.invokestatic 53, 3) := by decide +kernel
theorem dX9_lawOf_7 : decode cX9_lawOf 7 = .ok (.ifCond .eq 24, 3) := by decide +kernel
theorem dX9_lawOf_10 : decode cX9_lawOf 10 = .ok (.iload_n 3, 1) := by decide +kernel
theorem dX9_lawOf_11 : decode cX9_lawOf 11 = .ok (.iconst 0, 1) := by decide +kernel
theorem dX9_lawOf_12 : decode cX9_lawOf 12 = .ok (.bipush 9, 2) := by decide +kernel
theorem dX9_lawOf_14 : decode cX9_lawOf 14 = .ok (.invokestatic 53, 3) := by decide +kernel
theorem dX9_lawOf_17 : decode cX9_lawOf 17 = .ok (.ifCond .eq 14, 3) := by decide +kernel
theorem dX9_lawOf_20 : decode cX9_lawOf 20 = .ok (.iload 4, 2) := by decide +kernel
theorem dX9_lawOf_22 : decode cX9_lawOf 22 = .ok (.iconst 0, 1) := by decide +kernel
theorem dX9_lawOf_23 : decode cX9_lawOf 23 = .ok (.bipush 9, 2) := by decide +kernel
theorem dX9_lawOf_25 : decode cX9_lawOf 25 = .ok (.invokestatic 53, 3) := by decide +kernel
theorem dX9_lawOf_28 : decode cX9_lawOf 28 = .ok (.ifCond .ne 13, 3) := by decide +kernel
theorem dX9_lawOf_31 : decode cX9_lawOf 31 = .ok (.aload_n 0, 1) := by decide +kernel
theorem dX9_lawOf_32 : decode cX9_lawOf 32 = .ok (.iload_n 1, 1) := by decide +kernel
theorem dX9_lawOf_33 : decode cX9_lawOf 33 = .ok (.iload_n 2, 1) := by decide +kernel
theorem dX9_lawOf_34 : decode cX9_lawOf 34 = .ok (.iload_n 3, 1) := by decide +kernel
theorem dX9_lawOf_35 : decode cX9_lawOf 35 = .ok (.iload 4, 2) := by decide +kernel
theorem dX9_lawOf_37 : decode cX9_lawOf 37 = .ok (.invokevirtual 166, 3) := by decide +kernel
theorem dX9_lawOf_40 : decode cX9_lawOf 40 = .ok (.ireturn, 1) := by decide +kernel
theorem dX9_lawOf_41 : decode cX9_lawOf 41 = .ok (.sipush 1000, 3) := by decide +kernel
theorem dX9_lawOf_44 : decode cX9_lawOf 44 = .ok (.iload_n 1, 1) := by decide +kernel
theorem dX9_lawOf_45 : decode cX9_lawOf 45 = .ok (.imul, 1) := by decide +kernel
theorem dX9_lawOf_46 : decode cX9_lawOf 46 = .ok (.bipush 100, 2) := by decide +kernel
theorem dX9_lawOf_48 : decode cX9_lawOf 48 = .ok (.iload_n 2, 1) := by decide +kernel
theorem dX9_lawOf_49 : decode cX9_lawOf 49 = .ok (.imul, 1) := by decide +kernel
theorem dX9_lawOf_50 : decode cX9_lawOf 50 = .ok (.iadd, 1) := by decide +kernel
theorem dX9_lawOf_51 : decode cX9_lawOf 51 = .ok (.bipush 10, 2) := by decide +kernel
theorem dX9_lawOf_53 : decode cX9_lawOf 53 = .ok (.iload_n 3, 1) := by decide +kernel
theorem dX9_lawOf_54 : decode cX9_lawOf 54 = .ok (.imul, 1) := by decide +kernel
theorem dX9_lawOf_55 : decode cX9_lawOf 55 = .ok (.iadd, 1) := by decide +kernel
theorem dX9_lawOf_56 : decode cX9_lawOf 56 = .ok (.iload 4, 2) := by decide +kernel
theorem dX9_lawOf_58 : decode cX9_lawOf 58 = .ok (.iadd, 1) := by decide +kernel
theorem dX9_lawOf_59 : decode cX9_lawOf 59 = .ok (.istore 5, 2) := by decide +kernel
theorem dX9_lawOf_61 : decode cX9_lawOf 61 = .ok (.aload_n 0, 1) := by decide +kernel
theorem dX9_lawOf_62 : decode cX9_lawOf 62 = .ok (.getfield 25, 3) := by decide +kernel
theorem dX9_lawOf_65 : decode cX9_lawOf 65 = .ok (.iload 5, 2) := by decide +kernel
theorem dX9_lawOf_67 : decode cX9_lawOf 67 = .ok (.iaload, 1) := by decide +kernel
theorem dX9_lawOf_68 : decode cX9_lawOf 68 = .ok (.ifCond .ge 19, 3) := by decide +kernel
theorem dX9_lawOf_71 : decode cX9_lawOf 71 = .ok (.aload_n 0, 1) := by decide +kernel
theorem dX9_lawOf_72 : decode cX9_lawOf 72 = .ok (.getfield 25, 3) := by decide +kernel
theorem dX9_lawOf_75 : decode cX9_lawOf 75 = .ok (.iload 5, 2) := by decide +kernel
theorem dX9_lawOf_77 : decode cX9_lawOf 77 = .ok (.aload_n 0, 1) := by decide +kernel
theorem dX9_lawOf_78 : decode cX9_lawOf 78 = .ok (.iload_n 1, 1) := by decide +kernel
theorem dX9_lawOf_79 : decode cX9_lawOf 79 = .ok (.iload_n 2, 1) := by decide +kernel
theorem dX9_lawOf_80 : decode cX9_lawOf 80 = .ok (.iload_n 3, 1) := by decide +kernel
theorem dX9_lawOf_81 : decode cX9_lawOf 81 = .ok (.iload 4, 2) := by decide +kernel
theorem dX9_lawOf_83 : decode cX9_lawOf 83 = .ok (.invokevirtual 166, 3) := by decide +kernel
theorem dX9_lawOf_86 : decode cX9_lawOf 86 = .ok (.iastore, 1) := by decide +kernel
theorem dX9_lawOf_87 : decode cX9_lawOf 87 = .ok (.aload_n 0, 1) := by decide +kernel
theorem dX9_lawOf_88 : decode cX9_lawOf 88 = .ok (.getfield 25, 3) := by decide +kernel
theorem dX9_lawOf_91 : decode cX9_lawOf 91 = .ok (.iload 5, 2) := by decide +kernel
theorem dX9_lawOf_93 : decode cX9_lawOf 93 = .ok (.iaload, 1) := by decide +kernel
theorem dX9_lawOf_94 : decode cX9_lawOf 94 = .ok (.ireturn, 1) := by decide +kernel
theorem dX9_law_0 : decode cX9_law 0 = .ok (.iload_n 1, 1) := by decide +kernel
theorem dX9_law_1 : decode cX9_law 1 = .ok (.iconst 0, 1) := by decide +kernel
theorem dX9_law_2 : decode cX9_law 2 = .ok (.iconst 1, 1) := by decide +kernel
theorem dX9_law_3 : decode cX9_law 3 = .ok (.invokestatic 53, 3) := by decide +kernel
theorem dX9_law_6 : decode cX9_law 6 = .ok (.ifCond .eq 15, 3) := by decide +kernel
theorem dX9_law_9 : decode cX9_law 9 = .ok (.aload_n 0, 1) := by decide +kernel
theorem dX9_law_10 : decode cX9_law 10 = .ok (.iload_n 1, 1) := by decide +kernel
theorem dX9_law_11 : decode cX9_law 11 = .ok (.iload_n 2, 1) := by decide +kernel
theorem dX9_law_12 : decode cX9_law 12 = .ok (.iload_n 3, 1) := by decide +kernel
theorem dX9_law_13 : decode cX9_law 13 = .ok (.iload 4, 2) := by decide +kernel
theorem dX9_law_15 : decode cX9_law 15 = .ok (.invokevirtual 169, 3) := by decide +kernel
theorem dX9_law_18 : decode cX9_law 18 = .ok (.goto 9, 3) := by decide +kernel
theorem dX9_law_21 : decode cX9_law 21 = .ok (.aload_n 0, 1) := by decide +kernel
theorem dX9_law_22 : decode cX9_law 22 = .ok (.ldc 65, 2) := by decide +kernel
theorem dX9_law_24 : decode cX9_law 24 = .ok (.invokevirtual 66, 3) := by decide +kernel
theorem dX9_law_27 : decode cX9_law 27 = .ok (.ireturn, 1) := by decide +kernel
theorem dX9_feed_0 : decode cX9_feed 0 = .ok (.iload_n 3, 1) := by decide +kernel
theorem dX9_feed_1 : decode cX9_feed 1 = .ok (.iconst 1, 1) := by decide +kernel
theorem dX9_feed_2 : decode cX9_feed 2 = .ok (.bipush 8, 2) := by decide +kernel
theorem dX9_feed_4 : decode cX9_feed 4 = .ok (.invokestatic 53, 3) := by decide +kernel
theorem dX9_feed_7 : decode cX9_feed 7 = .ok (.ifCond .ne 10, 3) := by decide +kernel
theorem dX9_feed_10 : decode cX9_feed 10 = .ok (.aload_n 0, 1) := by decide +kernel
theorem dX9_feed_11 : decode cX9_feed 11 = .ok (.ldc 65, 2) := by decide +kernel
theorem dX9_feed_13 : decode cX9_feed 13 = .ok (.invokevirtual 66, 3) := by decide +kernel
theorem dX9_feed_16 : decode cX9_feed 16 = .ok (.ireturn, 1) := by decide +kernel
theorem dX9_feed_17 : decode cX9_feed 17 = .ok (.aload_n 0, 1) := by decide +kernel
theorem dX9_feed_18 : decode cX9_feed 18 = .ok (.getfield 7, 3) := by decide +kernel
theorem dX9_feed_21 : decode cX9_feed 21 = .ok (.iconst 5, 1) := by decide +kernel
theorem dX9_feed_22 : decode cX9_feed 22 = .ok (.iaload, 1) := by decide +kernel
theorem dX9_feed_23 : decode cX9_feed 23 = .ok (.iload_n 3, 1) := by decide +kernel
theorem dX9_feed_24 : decode cX9_feed 24 = .ok (.iadd, 1) := by decide +kernel
theorem dX9_feed_25 : decode cX9_feed 25 = .ok (.bipush 50, 2) := by decide +kernel
theorem dX9_feed_27 : decode cX9_feed 27 = .ok (.if_icmp .le 10, 3) := by decide +kernel
theorem dX9_feed_30 : decode cX9_feed 30 = .ok (.aload_n 0, 1) := by decide +kernel
theorem dX9_feed_31 : decode cX9_feed 31 = .ok (.ldc 77, 2) := by decide +kernel
theorem dX9_feed_33 : decode cX9_feed 33 = .ok (.invokevirtual 66, 3) := by decide +kernel
theorem dX9_feed_36 : decode cX9_feed 36 = .ok (.ireturn, 1) := by decide +kernel
theorem dX9_feed_37 : decode cX9_feed 37 = .ok (.iconst 0, 1) := by decide +kernel
theorem dX9_feed_38 : decode cX9_feed 38 = .ok (.istore 4, 2) := by decide +kernel
theorem dX9_feed_40 : decode cX9_feed 40 = .ok (.iload 4, 2) := by decide +kernel
theorem dX9_feed_42 : decode cX9_feed 42 = .ok (.iload_n 3, 1) := by decide +kernel
theorem dX9_feed_43 : decode cX9_feed 43 = .ok (.if_icmp .ge 45, 3) := by decide +kernel
theorem dX9_feed_46 : decode cX9_feed 46 = .ok (.aload_n 0, 1) := by decide +kernel
theorem dX9_feed_47 : decode cX9_feed 47 = .ok (.getfield 7, 3) := by decide +kernel
theorem dX9_feed_50 : decode cX9_feed 50 = .ok (.bipush 87, 2) := by decide +kernel
theorem dX9_feed_52 : decode cX9_feed 52 = .ok (.aload_n 0, 1) := by decide +kernel
theorem dX9_feed_53 : decode cX9_feed 53 = .ok (.getfield 7, 3) := by decide +kernel
theorem dX9_feed_56 : decode cX9_feed 56 = .ok (.iconst 5, 1) := by decide +kernel
theorem dX9_feed_57 : decode cX9_feed 57 = .ok (.iaload, 1) := by decide +kernel
theorem dX9_feed_58 : decode cX9_feed 58 = .ok (.iadd, 1) := by decide +kernel
theorem dX9_feed_59 : decode cX9_feed 59 = .ok (.lload_n 1, 1) := by decide +kernel
theorem dX9_feed_60 : decode cX9_feed 60 = .ok (.bipush 8, 2) := by decide +kernel
theorem dX9_feed_62 : decode cX9_feed 62 = .ok (.iload 4, 2) := by decide +kernel
theorem dX9_feed_64 : decode cX9_feed 64 = .ok (.imul, 1) := by decide +kernel
theorem dX9_feed_65 : decode cX9_feed 65 = .ok (.lshr, 1) := by decide +kernel
theorem dX9_feed_66 : decode cX9_feed 66 = .ok (.ldc2_w 172, 3) := by decide +kernel
theorem dX9_feed_69 : decode cX9_feed 69 = .ok (.land, 1) := by decide +kernel
theorem dX9_feed_70 : decode cX9_feed 70 = .ok (.l2i, 1) := by decide +kernel
theorem dX9_feed_71 : decode cX9_feed 71 = .ok (.iastore, 1) := by decide +kernel
theorem dX9_feed_72 : decode cX9_feed 72 = .ok (.aload_n 0, 1) := by decide +kernel
theorem dX9_feed_73 : decode cX9_feed 73 = .ok (.getfield 7, 3) := by decide +kernel
theorem dX9_feed_76 : decode cX9_feed 76 = .ok (.iconst 5, 1) := by decide +kernel
theorem dX9_feed_77 : decode cX9_feed 77 = .ok (.dup2, 1) := by decide +kernel
theorem dX9_feed_78 : decode cX9_feed 78 = .ok (.iaload, 1) := by decide +kernel
theorem dX9_feed_79 : decode cX9_feed 79 = .ok (.iconst 1, 1) := by decide +kernel
theorem dX9_feed_80 : decode cX9_feed 80 = .ok (.iadd, 1) := by decide +kernel
theorem dX9_feed_81 : decode cX9_feed 81 = .ok (.iastore, 1) := by decide +kernel
theorem dX9_feed_82 : decode cX9_feed 82 = .ok (.iinc 4 1, 3) := by decide +kernel
theorem dX9_feed_85 : decode cX9_feed 85 = .ok (.goto (-45), 3) := by decide +kernel
theorem dX9_feed_88 : decode cX9_feed 88 = .ok (.aload_n 0, 1) := by decide +kernel
theorem dX9_feed_89 : decode cX9_feed 89 = .ok (.getfield 7, 3) := by decide +kernel
theorem dX9_feed_92 : decode cX9_feed 92 = .ok (.iconst 5, 1) := by decide +kernel
theorem dX9_feed_93 : decode cX9_feed 93 = .ok (.iaload, 1) := by decide +kernel
theorem dX9_feed_94 : decode cX9_feed 94 = .ok (.ireturn, 1) := by decide +kernel
theorem dX9_text_0 : decode cX9_text 0 = .ok (.iload_n 1, 1) := by decide +kernel
theorem dX9_text_1 : decode cX9_text 1 = .ok (.iconst 0, 1) := by decide +kernel
theorem dX9_text_2 : decode cX9_text 2 = .ok (.iconst 1, 1) := by decide +kernel
theorem dX9_text_3 : decode cX9_text 3 = .ok (.invokestatic 53, 3) := by decide +kernel
theorem dX9_text_6 : decode cX9_text 6 = .ok (.ifCond .ne 10, 3) := by decide +kernel
theorem dX9_text_9 : decode cX9_text 9 = .ok (.aload_n 0, 1) := by decide +kernel
theorem dX9_text_10 : decode cX9_text 10 = .ok (.ldc 65, 2) := by decide +kernel
theorem dX9_text_12 : decode cX9_text 12 = .ok (.invokevirtual 66, 3) := by decide +kernel
theorem dX9_text_15 : decode cX9_text 15 = .ok (.ireturn, 1) := by decide +kernel
theorem dX9_text_16 : decode cX9_text 16 = .ok (.aload_n 0, 1) := by decide +kernel
theorem dX9_text_17 : decode cX9_text 17 = .ok (.aload_n 0, 1) := by decide +kernel
theorem dX9_text_18 : decode cX9_text 18 = .ok (.getfield 7, 3) := by decide +kernel
theorem dX9_text_21 : decode cX9_text 21 = .ok (.aload_n 0, 1) := by decide +kernel
theorem dX9_text_22 : decode cX9_text 22 = .ok (.getfield 19, 3) := by decide +kernel
theorem dX9_text_25 : decode cX9_text 25 = .ok (.invokevirtual 174, 3) := by decide +kernel
theorem dX9_text_28 : decode cX9_text 28 = .ok (.iconst 0, 1) := by decide +kernel
theorem dX9_text_29 : decode cX9_text 29 = .ok (.istore_n 2, 1) := by decide +kernel
theorem dX9_text_30 : decode cX9_text 30 = .ok (.iload_n 2, 1) := by decide +kernel
theorem dX9_text_31 : decode cX9_text 31 = .ok (.bipush 50, 2) := by decide +kernel
theorem dX9_text_33 : decode cX9_text 33 = .ok (.if_icmp .ge 33, 3) := by decide +kernel
theorem dX9_text_36 : decode cX9_text 36 = .ok (.aload_n 0, 1) := by decide +kernel
theorem dX9_text_37 : decode cX9_text 37 = .ok (.getfield 7, 3) := by decide +kernel
theorem dX9_text_40 : decode cX9_text 40 = .ok (.sipush 157, 3) := by decide +kernel
theorem dX9_text_43 : decode cX9_text 43 = .ok (.bipush 50, 2) := by decide +kernel
theorem dX9_text_45 : decode cX9_text 45 = .ok (.iload_n 1, 1) := by decide +kernel
theorem dX9_text_46 : decode cX9_text 46 = .ok (.imul, 1) := by decide +kernel
theorem dX9_text_47 : decode cX9_text 47 = .ok (.iadd, 1) := by decide +kernel
theorem dX9_text_48 : decode cX9_text 48 = .ok (.iload_n 2, 1) := by decide +kernel
theorem dX9_text_49 : decode cX9_text 49 = .ok (.iadd, 1) := by decide +kernel
theorem dX9_text_50 : decode cX9_text 50 = .ok (.aload_n 0, 1) := by decide +kernel
theorem dX9_text_51 : decode cX9_text 51 = .ok (.getfield 7, 3) := by decide +kernel
theorem dX9_text_54 : decode cX9_text 54 = .ok (.bipush 87, 2) := by decide +kernel
theorem dX9_text_56 : decode cX9_text 56 = .ok (.iload_n 2, 1) := by decide +kernel
theorem dX9_text_57 : decode cX9_text 57 = .ok (.iadd, 1) := by decide +kernel
theorem dX9_text_58 : decode cX9_text 58 = .ok (.iaload, 1) := by decide +kernel
theorem dX9_text_59 : decode cX9_text 59 = .ok (.iastore, 1) := by decide +kernel
theorem dX9_text_60 : decode cX9_text 60 = .ok (.iinc 2 1, 3) := by decide +kernel
theorem dX9_text_63 : decode cX9_text 63 = .ok (.goto (-33), 3) := by decide +kernel
theorem dX9_text_66 : decode cX9_text 66 = .ok (.aload_n 0, 1) := by decide +kernel
theorem dX9_text_67 : decode cX9_text 67 = .ok (.getfield 7, 3) := by decide +kernel
theorem dX9_text_70 : decode cX9_text 70 = .ok (.bipush 7, 2) := by decide +kernel
theorem dX9_text_72 : decode cX9_text 72 = .ok (.iload_n 1, 1) := by decide +kernel
theorem dX9_text_73 : decode cX9_text 73 = .ok (.iadd, 1) := by decide +kernel
theorem dX9_text_74 : decode cX9_text 74 = .ok (.aload_n 0, 1) := by decide +kernel
theorem dX9_text_75 : decode cX9_text 75 = .ok (.getfield 7, 3) := by decide +kernel
theorem dX9_text_78 : decode cX9_text 78 = .ok (.iconst 5, 1) := by decide +kernel
theorem dX9_text_79 : decode cX9_text 79 = .ok (.iaload, 1) := by decide +kernel
theorem dX9_text_80 : decode cX9_text 80 = .ok (.iastore, 1) := by decide +kernel
theorem dX9_text_81 : decode cX9_text 81 = .ok (.aload_n 0, 1) := by decide +kernel
theorem dX9_text_82 : decode cX9_text 82 = .ok (.iload_n 1, 1) := by decide +kernel
theorem dX9_text_83 : decode cX9_text 83 = .ok (.iconst 1, 1) := by decide +kernel
theorem dX9_text_84 : decode cX9_text 84 = .ok (.iconst 1, 1) := by decide +kernel
theorem dX9_text_85 : decode cX9_text 85 = .ok (.iconst 1, 1) := by decide +kernel
theorem dX9_text_86 : decode cX9_text 86 = .ok (.invokevirtual 158, 3) := by decide +kernel
theorem dX9_text_89 : decode cX9_text 89 = .ok (.istore_n 2, 1) := by decide +kernel
theorem dX9_text_90 : decode cX9_text 90 = .ok (.aload_n 0, 1) := by decide +kernel
theorem dX9_text_91 : decode cX9_text 91 = .ok (.getfield 105, 3) := by decide +kernel
theorem dX9_text_94 : decode cX9_text 94 = .ok (.ifCond .eq 12, 3) := by decide +kernel
theorem dX9_text_97 : decode cX9_text 97 = .ok (.iload_n 2, 1) := by decide +kernel
theorem dX9_text_98 : decode cX9_text 98 = .ok (.iload_n 2, 1) := by decide +kernel
theorem dX9_text_99 : decode cX9_text 99 = .ok (.if_icmp .ne 7, 3) := by decide +kernel
theorem dX9_text_102 : decode cX9_text 102 = .ok (.iconst 1, 1) := by decide +kernel
theorem dX9_text_103 : decode cX9_text 103 = .ok (.goto 4, 3) := by decide +kernel
theorem dX9_text_106 : decode cX9_text 106 = .ok (.iconst 0, 1) := by decide +kernel
theorem dX9_text_107 : decode cX9_text 107 = .ok (.istore_n 3, 1) := by decide +kernel
theorem dX9_text_108 : decode cX9_text 108 = .ok (.aload_n 0, 1) := by decide +kernel
theorem dX9_text_109 : decode cX9_text 109 = .ok (.getfield 109, 3) := by decide +kernel
theorem dX9_text_112 : decode cX9_text 112 = .ok (.istore 4, 2) := by decide +kernel
theorem dX9_text_114 : decode cX9_text 114 = .ok (.iload_n 3, 1) := by decide +kernel
theorem dX9_text_115 : decode cX9_text 115 = .ok (.ifCond .ne 15, 3) := by decide +kernel
theorem dX9_text_118 : decode cX9_text 118 = .ok (.aload_n 0, 1) := by decide +kernel
theorem dX9_text_119 : decode cX9_text 119 = .ok (.aload_n 0, 1) := by decide +kernel
theorem dX9_text_120 : decode cX9_text 120 = .ok (.getfield 19, 3) := by decide +kernel
theorem dX9_text_123 : decode cX9_text 123 = .ok (.aload_n 0, 1) := by decide +kernel
theorem dX9_text_124 : decode cX9_text 124 = .ok (.getfield 7, 3) := by decide +kernel
theorem dX9_text_127 : decode cX9_text 127 = .ok (.invokevirtual 174, 3) := by decide +kernel
theorem dX9_text_130 : decode cX9_text 130 = .ok (.aload_n 0, 1) := by decide +kernel
theorem dX9_text_131 : decode cX9_text 131 = .ok (.getfield 7, 3) := by decide +kernel
theorem dX9_text_134 : decode cX9_text 134 = .ok (.iconst 5, 1) := by decide +kernel
theorem dX9_text_135 : decode cX9_text 135 = .ok (.iconst 0, 1) := by decide +kernel
theorem dX9_text_136 : decode cX9_text 136 = .ok (.iastore, 1) := by decide +kernel
theorem dX9_text_137 : decode cX9_text 137 = .ok (.aload_n 0, 1) := by decide +kernel
theorem dX9_text_138 : decode cX9_text 138 = .ok (.invokevirtual 49, 3) := by decide +kernel
theorem dX9_text_141 : decode cX9_text 141 = .ok (.iload_n 3, 1) := by decide +kernel
theorem dX9_text_142 : decode cX9_text 142 = .ok (.ifCond .eq 7, 3) := by decide +kernel
theorem dX9_text_145 : decode cX9_text 145 = .ok (.iconst 1, 1) := by decide +kernel
theorem dX9_text_146 : decode cX9_text 146 = .ok (.goto 8, 3) := by decide +kernel
theorem dX9_text_149 : decode cX9_text 149 = .ok (.bipush (-10), 2) := by decide +kernel
theorem dX9_text_151 : decode cX9_text 151 = .ok (.iload 4, 2) := by decide +kernel
theorem dX9_text_153 : decode cX9_text 153 = .ok (.isub, 1) := by decide +kernel
theorem dX9_text_154 : decode cX9_text 154 = .ok (.ireturn, 1) := by decide +kernel
theorem dX9_sweet_0 : decode cX9_sweet 0 = .ok (.aload_n 0, 1) := by decide +kernel
theorem dX9_sweet_1 : decode cX9_sweet 1 = .ok (.getfield 7, 3) := by decide +kernel
theorem dX9_sweet_4 : decode cX9_sweet 4 = .ok (.bipush 9, 2) := by decide +kernel
theorem dX9_sweet_6 : decode cX9_sweet 6 = .ok (.iconst 2, 1) := by decide +kernel
theorem dX9_sweet_7 : decode cX9_sweet 7 = .ok (.aload_n 0, 1) := by decide +kernel
theorem dX9_sweet_8 : decode cX9_sweet 8 = .ok (.getfield 7, 3) := by decide +kernel
theorem dX9_sweet_11 : decode cX9_sweet 11 = .ok (.bipush 41, 2) := by decide +kernel
theorem dX9_sweet_13 : decode cX9_sweet 13 = .ok (.iload_n 1, 1) := by decide +kernel
theorem dX9_sweet_14 : decode cX9_sweet 14 = .ok (.iadd, 1) := by decide +kernel
theorem dX9_sweet_15 : decode cX9_sweet 15 = .ok (.iaload, 1) := by decide +kernel
theorem dX9_sweet_16 : decode cX9_sweet 16 = .ok (.imul, 1) := by decide +kernel
theorem dX9_sweet_17 : decode cX9_sweet 17 = .ok (.iadd, 1) := by decide +kernel
theorem dX9_sweet_18 : decode cX9_sweet 18 = .ok (.iaload, 1) := by decide +kernel
theorem dX9_sweet_19 : decode cX9_sweet 19 = .ok (.ireturn, 1) := by decide +kernel
theorem dX9_fat_0 : decode cX9_fat 0 = .ok (.aload_n 0, 1) := by decide +kernel
theorem dX9_fat_1 : decode cX9_fat 1 = .ok (.getfield 7, 3) := by decide +kernel
theorem dX9_fat_4 : decode cX9_fat 4 = .ok (.bipush 9, 2) := by decide +kernel
theorem dX9_fat_6 : decode cX9_fat 6 = .ok (.iconst 2, 1) := by decide +kernel
theorem dX9_fat_7 : decode cX9_fat 7 = .ok (.aload_n 0, 1) := by decide +kernel
theorem dX9_fat_8 : decode cX9_fat 8 = .ok (.getfield 7, 3) := by decide +kernel
theorem dX9_fat_11 : decode cX9_fat 11 = .ok (.bipush 41, 2) := by decide +kernel
theorem dX9_fat_13 : decode cX9_fat 13 = .ok (.iload_n 1, 1) := by decide +kernel
theorem dX9_fat_14 : decode cX9_fat 14 = .ok (.iadd, 1) := by decide +kernel
theorem dX9_fat_15 : decode cX9_fat 15 = .ok (.iaload, 1) := by decide +kernel
theorem dX9_fat_16 : decode cX9_fat 16 = .ok (.imul, 1) := by decide +kernel
theorem dX9_fat_17 : decode cX9_fat 17 = .ok (.iadd, 1) := by decide +kernel
theorem dX9_fat_18 : decode cX9_fat 18 = .ok (.iconst 1, 1) := by decide +kernel
theorem dX9_fat_19 : decode cX9_fat 19 = .ok (.iadd, 1) := by decide +kernel
theorem dX9_fat_20 : decode cX9_fat 20 = .ok (.iaload, 1) := by decide +kernel
theorem dX9_fat_21 : decode cX9_fat 21 = .ok (.ireturn, 1) := by decide +kernel
theorem dX9_leaving_0 : decode cX9_leaving 0 = .ok (.aload_n 0, 1) := by decide +kernel
theorem dX9_leaving_1 : decode cX9_leaving 1 = .ok (.iload_n 1, 1) := by decide +kernel
theorem dX9_leaving_2 : decode cX9_leaving 2 = .ok (.iconst 2, 1) := by decide +kernel
theorem dX9_leaving_3 : decode cX9_leaving 3 = .ok (.invokevirtual 85, 3) := by decide +kernel
theorem dX9_leaving_6 : decode cX9_leaving 6 = .ok (.istore_n 3, 1) := by decide +kernel
theorem dX9_leaving_7 : decode cX9_leaving 7 = .ok (.aload_n 0, 1) := by decide +kernel
theorem dX9_leaving_8 : decode cX9_leaving 8 = .ok (.iload_n 1, 1) := by decide +kernel
theorem dX9_leaving_9 : decode cX9_leaving 9 = .ok (.iconst 1, 1) := by decide +kernel
theorem dX9_leaving_10 : decode cX9_leaving 10 = .ok (.invokevirtual 85, 3) := by decide +kernel
theorem dX9_leaving_13 : decode cX9_leaving 13 = .ok (.istore 4, 2) := by decide +kernel
theorem dX9_leaving_15 : decode cX9_leaving 15 = .ok (.iload_n 3, 1) := by decide +kernel
theorem dX9_leaving_16 : decode cX9_leaving 16 = .ok (.iconst 3, 1) := by decide +kernel
theorem dX9_leaving_17 : decode cX9_leaving 17 = .ok (.idiv, 1) := by decide +kernel
theorem dX9_leaving_18 : decode cX9_leaving 18 = .ok (.aload_n 0, 1) := by decide +kernel
theorem dX9_leaving_19 : decode cX9_leaving 19 = .ok (.iload_n 2, 1) := by decide +kernel
theorem dX9_leaving_20 : decode cX9_leaving 20 = .ok (.invokevirtual 178, 3) := by decide +kernel
theorem dX9_leaving_23 : decode cX9_leaving 23 = .ok (.iconst 5, 1) := by decide +kernel
theorem dX9_leaving_24 : decode cX9_leaving 24 = .ok (.if_icmp .le 7, 3) := by decide +kernel
theorem dX9_leaving_27 : decode cX9_leaving 27 = .ok (.iconst 1, 1) := by decide +kernel
theorem dX9_leaving_28 : decode cX9_leaving 28 = .ok (.goto 4, 3) := by decide +kernel
theorem dX9_leaving_31 : decode cX9_leaving 31 = .ok (.iconst 0, 1) := by decide +kernel
theorem dX9_leaving_32 : decode cX9_leaving 32 = .ok (.iadd, 1) := by decide +kernel
theorem dX9_leaving_33 : decode cX9_leaving 33 = .ok (.istore 5, 2) := by decide +kernel
theorem dX9_leaving_35 : decode cX9_leaving 35 = .ok (.iload 5, 2) := by decide +kernel
theorem dX9_leaving_37 : decode cX9_leaving 37 = .ok (.aload_n 0, 1) := by decide +kernel
theorem dX9_leaving_38 : decode cX9_leaving 38 = .ok (.iload_n 2, 1) := by decide +kernel
theorem dX9_leaving_39 : decode cX9_leaving 39 = .ok (.invokevirtual 181, 3) := by decide +kernel
theorem dX9_leaving_42 : decode cX9_leaving 42 = .ok (.iconst 5, 1) := by decide +kernel
theorem dX9_leaving_43 : decode cX9_leaving 43 = .ok (.if_icmp .le 7, 3) := by decide +kernel
theorem dX9_leaving_46 : decode cX9_leaving 46 = .ok (.iconst 1, 1) := by decide +kernel
theorem dX9_leaving_47 : decode cX9_leaving 47 = .ok (.goto 4, 3) := by decide +kernel
theorem dX9_leaving_50 : decode cX9_leaving 50 = .ok (.iconst 0, 1) := by decide +kernel
theorem dX9_leaving_51 : decode cX9_leaving 51 = .ok (.iadd, 1) := by decide +kernel
theorem dX9_leaving_52 : decode cX9_leaving 52 = .ok (.istore 6, 2) := by decide +kernel
theorem dX9_leaving_54 : decode cX9_leaving 54 = .ok (.aload_n 0, 1) := by decide +kernel
theorem dX9_leaving_55 : decode cX9_leaving 55 = .ok (.iload_n 2, 1) := by decide +kernel
theorem dX9_leaving_56 : decode cX9_leaving 56 = .ok (.invokevirtual 181, 3) := by decide +kernel
theorem dX9_leaving_59 : decode cX9_leaving 59 = .ok (.iload_n 3, 1) := by decide +kernel
theorem dX9_leaving_60 : decode cX9_leaving 60 = .ok (.iadd, 1) := by decide +kernel
theorem dX9_leaving_61 : decode cX9_leaving 61 = .ok (.bipush 9, 2) := by decide +kernel
theorem dX9_leaving_63 : decode cX9_leaving 63 = .ok (.if_icmp .le 7, 3) := by decide +kernel
theorem dX9_leaving_66 : decode cX9_leaving 66 = .ok (.iconst 4, 1) := by decide +kernel
theorem dX9_leaving_67 : decode cX9_leaving 67 = .ok (.goto 5, 3) := by decide +kernel
theorem dX9_leaving_70 : decode cX9_leaving 70 = .ok (.iload 5, 2) := by decide +kernel
theorem dX9_leaving_72 : decode cX9_leaving 72 = .ok (.istore 7, 2) := by decide +kernel
theorem dX9_leaving_74 : decode cX9_leaving 74 = .ok (.aload_n 0, 1) := by decide +kernel
theorem dX9_leaving_75 : decode cX9_leaving 75 = .ok (.iload_n 1, 1) := by decide +kernel
theorem dX9_leaving_76 : decode cX9_leaving 76 = .ok (.iconst 0, 1) := by decide +kernel
theorem dX9_leaving_77 : decode cX9_leaving 77 = .ok (.invokevirtual 85, 3) := by decide +kernel
theorem dX9_leaving_80 : decode cX9_leaving 80 = .ok (.tableswitch 89 1 6 #[40, 50, 78, 44, 53, 81], 40) := by decide +kernel
theorem dX9_leaving_120 : decode cX9_leaving 120 = .ok (.iload_n 3, 1) := by decide +kernel
theorem dX9_leaving_121 : decode cX9_leaving 121 = .ok (.iconst 2, 1) := by decide +kernel
theorem dX9_leaving_122 : decode cX9_leaving 122 = .ok (.idiv, 1) := by decide +kernel
theorem dX9_leaving_123 : decode cX9_leaving 123 = .ok (.ireturn, 1) := by decide +kernel
theorem dX9_leaving_124 : decode cX9_leaving 124 = .ok (.iload_n 3, 1) := by decide +kernel
theorem dX9_leaving_125 : decode cX9_leaving 125 = .ok (.iconst 2, 1) := by decide +kernel
theorem dX9_leaving_126 : decode cX9_leaving 126 = .ok (.idiv, 1) := by decide +kernel
theorem dX9_leaving_127 : decode cX9_leaving 127 = .ok (.iconst 1, 1) := by decide +kernel
theorem dX9_leaving_128 : decode cX9_leaving 128 = .ok (.isub, 1) := by decide +kernel
theorem dX9_leaving_129 : decode cX9_leaving 129 = .ok (.ireturn, 1) := by decide +kernel
theorem dX9_leaving_130 : decode cX9_leaving 130 = .ok (.iload 6, 2) := by decide +kernel
theorem dX9_leaving_132 : decode cX9_leaving 132 = .ok (.ireturn, 1) := by decide +kernel
theorem dX9_leaving_133 : decode cX9_leaving 133 = .ok (.aload_n 0, 1) := by decide +kernel
theorem dX9_leaving_134 : decode cX9_leaving 134 = .ok (.getfield 7, 3) := by decide +kernel
theorem dX9_leaving_137 : decode cX9_leaving 137 = .ok (.iconst 0, 1) := by decide +kernel
theorem dX9_leaving_138 : decode cX9_leaving 138 = .ok (.iaload, 1) := by decide +kernel
theorem dX9_leaving_139 : decode cX9_leaving 139 = .ok (.iconst 2, 1) := by decide +kernel
theorem dX9_leaving_140 : decode cX9_leaving 140 = .ok (.irem, 1) := by decide +kernel
theorem dX9_leaving_141 : decode cX9_leaving 141 = .ok (.iconst 1, 1) := by decide +kernel
theorem dX9_leaving_142 : decode cX9_leaving 142 = .ok (.if_icmp .ne 13, 3) := by decide +kernel
theorem dX9_leaving_145 : decode cX9_leaving 145 = .ok (.iload 4, 2) := by decide +kernel
theorem dX9_leaving_147 : decode cX9_leaving 147 = .ok (.iload_n 3, 1) := by decide +kernel
theorem dX9_leaving_148 : decode cX9_leaving 148 = .ok (.if_icmp .le 7, 3) := by decide +kernel
theorem dX9_leaving_151 : decode cX9_leaving 151 = .ok (.iconst 4, 1) := by decide +kernel
theorem dX9_leaving_152 : decode cX9_leaving 152 = .ok (.goto 5, 3) := by decide +kernel
theorem dX9_leaving_155 : decode cX9_leaving 155 = .ok (.iload 6, 2) := by decide +kernel
theorem dX9_leaving_157 : decode cX9_leaving 157 = .ok (.ireturn, 1) := by decide +kernel
theorem dX9_leaving_158 : decode cX9_leaving 158 = .ok (.iload 7, 2) := by decide +kernel
theorem dX9_leaving_160 : decode cX9_leaving 160 = .ok (.ireturn, 1) := by decide +kernel
theorem dX9_leaving_161 : decode cX9_leaving 161 = .ok (.iload 7, 2) := by decide +kernel
theorem dX9_leaving_163 : decode cX9_leaving 163 = .ok (.iload 4, 2) := by decide +kernel
theorem dX9_leaving_165 : decode cX9_leaving 165 = .ok (.iconst 3, 1) := by decide +kernel
theorem dX9_leaving_166 : decode cX9_leaving 166 = .ok (.idiv, 1) := by decide +kernel
theorem dX9_leaving_167 : decode cX9_leaving 167 = .ok (.iadd, 1) := by decide +kernel
theorem dX9_leaving_168 : decode cX9_leaving 168 = .ok (.ireturn, 1) := by decide +kernel
theorem dX9_leaving_169 : decode cX9_leaving 169 = .ok (.iload 5, 2) := by decide +kernel
theorem dX9_leaving_171 : decode cX9_leaving 171 = .ok (.ireturn, 1) := by decide +kernel
theorem dX9_left_0 : decode cX9_left 0 = .ok (.aload_n 0, 1) := by decide +kernel
theorem dX9_left_1 : decode cX9_left 1 = .ok (.iconst 0, 1) := by decide +kernel
theorem dX9_left_2 : decode cX9_left 2 = .ok (.aload_n 0, 1) := by decide +kernel
theorem dX9_left_3 : decode cX9_left 3 = .ok (.iload_n 1, 1) := by decide +kernel
theorem dX9_left_4 : decode cX9_left 4 = .ok (.iload_n 2, 1) := by decide +kernel
theorem dX9_left_5 : decode cX9_left 5 = .ok (.invokevirtual 184, 3) := by decide +kernel
theorem dX9_left_8 : decode cX9_left 8 = .ok (.aload_n 0, 1) := by decide +kernel
theorem dX9_left_9 : decode cX9_left 9 = .ok (.iload_n 2, 1) := by decide +kernel
theorem dX9_left_10 : decode cX9_left 10 = .ok (.invokevirtual 181, 3) := by decide +kernel
theorem dX9_left_13 : decode cX9_left 13 = .ok (.aload_n 0, 1) := by decide +kernel
theorem dX9_left_14 : decode cX9_left 14 = .ok (.iload_n 1, 1) := by decide +kernel
theorem dX9_left_15 : decode cX9_left 15 = .ok (.iconst 2, 1) := by decide +kernel
theorem dX9_left_16 : decode cX9_left 16 = .ok (.invokevirtual 85, 3) := by decide +kernel
theorem dX9_left_19 : decode cX9_left 19 = .ok (.invokevirtual 169, 3) := by decide +kernel
theorem dX9_left_22 : decode cX9_left 22 = .ok (.ireturn, 1) := by decide +kernel
theorem dX9_taste_0 : decode cX9_taste 0 = .ok (.aload_n 0, 1) := by decide +kernel
theorem dX9_taste_1 : decode cX9_taste 1 = .ok (.iconst 1, 1) := by decide +kernel
theorem dX9_taste_2 : decode cX9_taste 2 = .ok (.iload_n 3, 1) := by decide +kernel
theorem dX9_taste_3 : decode cX9_taste 3 = .ok (.aload_n 0, 1) := by decide +kernel
theorem dX9_taste_4 : decode cX9_taste 4 = .ok (.iload_n 2, 1) := by decide +kernel
theorem dX9_taste_5 : decode cX9_taste 5 = .ok (.invokevirtual 181, 3) := by decide +kernel
theorem dX9_taste_8 : decode cX9_taste 8 = .ok (.aload_n 0, 1) := by decide +kernel
theorem dX9_taste_9 : decode cX9_taste 9 = .ok (.iload_n 1, 1) := by decide +kernel
theorem dX9_taste_10 : decode cX9_taste 10 = .ok (.iconst 2, 1) := by decide +kernel
theorem dX9_taste_11 : decode cX9_taste 11 = .ok (.invokevirtual 85, 3) := by decide +kernel
theorem dX9_taste_14 : decode cX9_taste 14 = .ok (.invokevirtual 169, 3) := by decide +kernel
theorem dX9_taste_17 : decode cX9_taste 17 = .ok (.ireturn, 1) := by decide +kernel
theorem dX9_mending_0 : decode cX9_mending 0 = .ok (.aload_n 0, 1) := by decide +kernel
theorem dX9_mending_1 : decode cX9_mending 1 = .ok (.getfield 7, 3) := by decide +kernel
theorem dX9_mending_4 : decode cX9_mending 4 = .ok (.iconst 0, 1) := by decide +kernel
theorem dX9_mending_5 : decode cX9_mending 5 = .ok (.iaload, 1) := by decide +kernel
theorem dX9_mending_6 : decode cX9_mending 6 = .ok (.iconst 2, 1) := by decide +kernel
theorem dX9_mending_7 : decode cX9_mending 7 = .ok (.irem, 1) := by decide +kernel
theorem dX9_mending_8 : decode cX9_mending 8 = .ok (.ifCond .ne 7, 3) := by decide +kernel
theorem dX9_mending_11 : decode cX9_mending 11 = .ok (.iconst 0, 1) := by decide +kernel
theorem dX9_mending_12 : decode cX9_mending 12 = .ok (.goto 4, 3) := by decide +kernel
theorem dX9_mending_15 : decode cX9_mending 15 = .ok (.iconst 1, 1) := by decide +kernel
theorem dX9_mending_16 : decode cX9_mending 16 = .ok (.istore_n 2, 1) := by decide +kernel
theorem dX9_mending_17 : decode cX9_mending 17 = .ok (.aload_n 0, 1) := by decide +kernel
theorem dX9_mending_18 : decode cX9_mending 18 = .ok (.iload_n 1, 1) := by decide +kernel
theorem dX9_mending_19 : decode cX9_mending 19 = .ok (.iconst 0, 1) := by decide +kernel
theorem dX9_mending_20 : decode cX9_mending 20 = .ok (.invokevirtual 85, 3) := by decide +kernel
theorem dX9_mending_23 : decode cX9_mending 23 = .ok (.tableswitch 60 1 6 #[37, 60, 39, 37, 58, 41], 37) := by decide +kernel
theorem dX9_mending_60 : decode cX9_mending 60 = .ok (.iload_n 2, 1) := by decide +kernel
theorem dX9_mending_61 : decode cX9_mending 61 = .ok (.ireturn, 1) := by decide +kernel
theorem dX9_mending_62 : decode cX9_mending 62 = .ok (.iconst 0, 1) := by decide +kernel
theorem dX9_mending_63 : decode cX9_mending 63 = .ok (.ireturn, 1) := by decide +kernel
theorem dX9_mending_64 : decode cX9_mending 64 = .ok (.aload_n 0, 1) := by decide +kernel
theorem dX9_mending_65 : decode cX9_mending 65 = .ok (.iload_n 1, 1) := by decide +kernel
theorem dX9_mending_66 : decode cX9_mending 66 = .ok (.iconst 1, 1) := by decide +kernel
theorem dX9_mending_67 : decode cX9_mending 67 = .ok (.invokevirtual 85, 3) := by decide +kernel
theorem dX9_mending_70 : decode cX9_mending 70 = .ok (.iconst 2, 1) := by decide +kernel
theorem dX9_mending_71 : decode cX9_mending 71 = .ok (.irem, 1) := by decide +kernel
theorem dX9_mending_72 : decode cX9_mending 72 = .ok (.ifCond .ne 7, 3) := by decide +kernel
theorem dX9_mending_75 : decode cX9_mending 75 = .ok (.iconst 1, 1) := by decide +kernel
theorem dX9_mending_76 : decode cX9_mending 76 = .ok (.goto 4, 3) := by decide +kernel
theorem dX9_mending_79 : decode cX9_mending 79 = .ok (.iconst 0, 1) := by decide +kernel
theorem dX9_mending_80 : decode cX9_mending 80 = .ok (.ireturn, 1) := by decide +kernel
theorem dX9_mending_81 : decode cX9_mending 81 = .ok (.iconst 2, 1) := by decide +kernel
theorem dX9_mending_82 : decode cX9_mending 82 = .ok (.ireturn, 1) := by decide +kernel
theorem dX9_mending_83 : decode cX9_mending 83 = .ok (.iconst 1, 1) := by decide +kernel
theorem dX9_mending_84 : decode cX9_mending 84 = .ok (.ireturn, 1) := by decide +kernel
theorem dX9_findHeartless_0 : decode cX9_findHeartless 0 = .ok (.aload_n 0, 1) := by decide +kernel
theorem dX9_findHeartless_1 : decode cX9_findHeartless 1 = .ok (.iconst 0, 1) := by decide +kernel
theorem dX9_findHeartless_2 : decode cX9_findHeartless 2 = .ok (.putfield 187, 3) := by decide +kernel
theorem dX9_findHeartless_5 : decode cX9_findHeartless 5 = .ok (.iconst 0, 1) := by decide +kernel
theorem dX9_findHeartless_6 : decode cX9_findHeartless 6 = .ok (.istore_n 1, 1) := by decide +kernel
theorem dX9_findHeartless_7 : decode cX9_findHeartless 7 = .ok (.iload_n 1, 1) := by decide +kernel
theorem dX9_findHeartless_8 : decode cX9_findHeartless 8 = .ok (.aload_n 0, 1) := by decide +kernel
theorem dX9_findHeartless_9 : decode cX9_findHeartless 9 = .ok (.getfield 7, 3) := by decide +kernel
theorem dX9_findHeartless_12 : decode cX9_findHeartless 12 = .ok (.iconst 2, 1) := by decide +kernel
theorem dX9_findHeartless_13 : decode cX9_findHeartless 13 = .ok (.iaload, 1) := by decide +kernel
theorem dX9_findHeartless_14 : decode cX9_findHeartless 14 = .ok (.if_icmp .ge 35, 3) := by decide +kernel
theorem dX9_findHeartless_17 : decode cX9_findHeartless 17 = .ok (.aload_n 0, 1) := by decide +kernel
theorem dX9_findHeartless_18 : decode cX9_findHeartless 18 = .ok (.dup, 1) := by decide +kernel
theorem dX9_findHeartless_19 : decode cX9_findHeartless 19 = .ok (.getfield 187, 3) := by decide +kernel
theorem dX9_findHeartless_22 : decode cX9_findHeartless 22 = .ok (.aload_n 0, 1) := by decide +kernel
theorem dX9_findHeartless_23 : decode cX9_findHeartless 23 = .ok (.iload_n 1, 1) := by decide +kernel
theorem dX9_findHeartless_24 : decode cX9_findHeartless 24 = .ok (.iconst 5, 1) := by decide +kernel
theorem dX9_findHeartless_25 : decode cX9_findHeartless 25 = .ok (.invokevirtual 91, 3) := by decide +kernel
theorem dX9_findHeartless_28 : decode cX9_findHeartless 28 = .ok (.iconst 4, 1) := by decide +kernel
theorem dX9_findHeartless_29 : decode cX9_findHeartless 29 = .ok (.if_icmp .ne 9, 3) := by decide +kernel
theorem dX9_findHeartless_32 : decode cX9_findHeartless 32 = .ok (.iconst 1, 1) := by decide +kernel
theorem dX9_findHeartless_33 : decode cX9_findHeartless 33 = .ok (.iload_n 1, 1) := by decide +kernel
theorem dX9_findHeartless_34 : decode cX9_findHeartless 34 = .ok (.ishl, 1) := by decide +kernel
theorem dX9_findHeartless_35 : decode cX9_findHeartless 35 = .ok (.goto 4, 3) := by decide +kernel
theorem dX9_findHeartless_38 : decode cX9_findHeartless 38 = .ok (.iconst 0, 1) := by decide +kernel
theorem dX9_findHeartless_39 : decode cX9_findHeartless 39 = .ok (.ior, 1) := by decide +kernel
theorem dX9_findHeartless_40 : decode cX9_findHeartless 40 = .ok (.putfield 187, 3) := by decide +kernel
theorem dX9_findHeartless_43 : decode cX9_findHeartless 43 = .ok (.iinc 1 1, 3) := by decide +kernel
theorem dX9_findHeartless_46 : decode cX9_findHeartless 46 = .ok (.goto (-39), 3) := by decide +kernel
theorem dX9_findHeartless_49 : decode cX9_findHeartless 49 = .ok (.return_, 1) := by decide +kernel
theorem dX9_eats_0 : decode cX9_eats 0 = .ok (.aload_n 0, 1) := by decide +kernel
theorem dX9_eats_1 : decode cX9_eats 1 = .ok (.getfield 7, 3) := by decide +kernel
theorem dX9_eats_4 : decode cX9_eats 4 = .ok (.iconst 3, 1) := by decide +kernel
theorem dX9_eats_5 : decode cX9_eats 5 = .ok (.iaload, 1) := by decide +kernel
theorem dX9_eats_6 : decode cX9_eats 6 = .ok (.istore_n 1, 1) := by decide +kernel
theorem dX9_eats_7 : decode cX9_eats 7 = .ok (.iconst 0, 1) := by decide +kernel
theorem dX9_eats_8 : decode cX9_eats 8 = .ok (.istore_n 2, 1) := by decide +kernel
theorem dX9_eats_9 : decode cX9_eats 9 = .ok (.iload_n 2, 1) := by decide +kernel
theorem dX9_eats_10 : decode cX9_eats 10 = .ok (.bipush 6, 2) := by decide +kernel
theorem dX9_eats_12 : decode cX9_eats 12 = .ok (.if_icmp .ge 110, 3) := by decide +kernel
theorem dX9_eats_15 : decode cX9_eats 15 = .ok (.iconst 0, 1) := by decide +kernel
theorem dX9_eats_16 : decode cX9_eats 16 = .ok (.istore_n 3, 1) := by decide +kernel
theorem dX9_eats_17 : decode cX9_eats 17 = .ok (.iload_n 3, 1) := by decide +kernel
theorem dX9_eats_18 : decode cX9_eats 18 = .ok (.aload_n 0, 1) := by decide +kernel
theorem dX9_eats_19 : decode cX9_eats 19 = .ok (.getfield 7, 3) := by decide +kernel
theorem dX9_eats_22 : decode cX9_eats 22 = .ok (.iconst 2, 1) := by decide +kernel
theorem dX9_eats_23 : decode cX9_eats 23 = .ok (.iaload, 1) := by decide +kernel
theorem dX9_eats_24 : decode cX9_eats 24 = .ok (.if_icmp .ge 92, 3) := by decide +kernel
theorem dX9_eats_27 : decode cX9_eats 27 = .ok (.aload_n 0, 1) := by decide +kernel
theorem dX9_eats_28 : decode cX9_eats 28 = .ok (.iload_n 3, 1) := by decide +kernel
theorem dX9_eats_29 : decode cX9_eats 29 = .ok (.iload_n 2, 1) := by decide +kernel
theorem dX9_eats_30 : decode cX9_eats 30 = .ok (.invokevirtual 91, 3) := by decide +kernel
theorem dX9_eats_33 : decode cX9_eats 33 = .ok (.istore 4, 2) := by decide +kernel
theorem dX9_eats_35 : decode cX9_eats 35 = .ok (.iload 4, 2) := by decide +kernel
theorem dX9_eats_37 : decode cX9_eats 37 = .ok (.iload_n 1, 1) := by decide +kernel
theorem dX9_eats_38 : decode cX9_eats 38 = .ok (.if_icmp .ge 8, 3) := by decide +kernel
theorem dX9_eats_41 : decode cX9_eats 41 = .ok (.iload 4, 2) := by decide +kernel
theorem dX9_eats_43 : decode cX9_eats 43 = .ok (.goto 4, 3) := by decide +kernel
theorem dX9_eats_46 : decode cX9_eats 46 = .ok (.iload_n 1, 1) := by decide +kernel
theorem dX9_eats_47 : decode cX9_eats 47 = .ok (.istore 5, 2) := by decide +kernel
theorem dX9_eats_49 : decode cX9_eats 49 = .ok (.iload_n 1, 1) := by decide +kernel
theorem dX9_eats_50 : decode cX9_eats 50 = .ok (.iload 5, 2) := by decide +kernel
theorem dX9_eats_52 : decode cX9_eats 52 = .ok (.isub, 1) := by decide +kernel
theorem dX9_eats_53 : decode cX9_eats 53 = .ok (.istore_n 1, 1) := by decide +kernel
theorem dX9_eats_54 : decode cX9_eats 54 = .ok (.iload 5, 2) := by decide +kernel
theorem dX9_eats_56 : decode cX9_eats 56 = .ok (.ifCond .le 30, 3) := by decide +kernel
theorem dX9_eats_59 : decode cX9_eats 59 = .ok (.aload_n 0, 1) := by decide +kernel
theorem dX9_eats_60 : decode cX9_eats 60 = .ok (.iload_n 3, 1) := by decide +kernel
theorem dX9_eats_61 : decode cX9_eats 61 = .ok (.iconst 4, 1) := by decide +kernel
theorem dX9_eats_62 : decode cX9_eats 62 = .ok (.aload_n 0, 1) := by decide +kernel
theorem dX9_eats_63 : decode cX9_eats 63 = .ok (.iload_n 3, 1) := by decide +kernel
theorem dX9_eats_64 : decode cX9_eats 64 = .ok (.iconst 4, 1) := by decide +kernel
theorem dX9_eats_65 : decode cX9_eats 65 = .ok (.invokevirtual 85, 3) := by decide +kernel
theorem dX9_eats_68 : decode cX9_eats 68 = .ok (.aload_n 0, 1) := by decide +kernel
theorem dX9_eats_69 : decode cX9_eats 69 = .ok (.iload_n 3, 1) := by decide +kernel
theorem dX9_eats_70 : decode cX9_eats 70 = .ok (.iload_n 2, 1) := by decide +kernel
theorem dX9_eats_71 : decode cX9_eats 71 = .ok (.iload 5, 2) := by decide +kernel
theorem dX9_eats_73 : decode cX9_eats 73 = .ok (.invokevirtual 190, 3) := by decide +kernel
theorem dX9_eats_76 : decode cX9_eats 76 = .ok (.iadd, 1) := by decide +kernel
theorem dX9_eats_77 : decode cX9_eats 77 = .ok (.iconst 0, 1) := by decide +kernel
theorem dX9_eats_78 : decode cX9_eats 78 = .ok (.bipush 99, 2) := by decide +kernel
theorem dX9_eats_80 : decode cX9_eats 80 = .ok (.invokestatic 162, 3) := by decide +kernel
theorem dX9_eats_83 : decode cX9_eats 83 = .ok (.invokevirtual 78, 3) := by decide +kernel
theorem dX9_eats_86 : decode cX9_eats 86 = .ok (.aload_n 0, 1) := by decide +kernel
theorem dX9_eats_87 : decode cX9_eats 87 = .ok (.getfield 7, 3) := by decide +kernel
theorem dX9_eats_90 : decode cX9_eats 90 = .ok (.iconst 4, 1) := by decide +kernel
theorem dX9_eats_91 : decode cX9_eats 91 = .ok (.aload_n 0, 1) := by decide +kernel
theorem dX9_eats_92 : decode cX9_eats 92 = .ok (.getfield 7, 3) := by decide +kernel
theorem dX9_eats_95 : decode cX9_eats 95 = .ok (.iconst 4, 1) := by decide +kernel
theorem dX9_eats_96 : decode cX9_eats 96 = .ok (.iaload, 1) := by decide +kernel
theorem dX9_eats_97 : decode cX9_eats 97 = .ok (.iload 4, 2) := by decide +kernel
theorem dX9_eats_99 : decode cX9_eats 99 = .ok (.iadd, 1) := by decide +kernel
theorem dX9_eats_100 : decode cX9_eats 100 = .ok (.iload 5, 2) := by decide +kernel
theorem dX9_eats_102 : decode cX9_eats 102 = .ok (.isub, 1) := by decide +kernel
theorem dX9_eats_103 : decode cX9_eats 103 = .ok (.iconst 0, 1) := by decide +kernel
theorem dX9_eats_104 : decode cX9_eats 104 = .ok (.ldc 76, 2) := by decide +kernel
theorem dX9_eats_106 : decode cX9_eats 106 = .ok (.invokestatic 162, 3) := by decide +kernel
theorem dX9_eats_109 : decode cX9_eats 109 = .ok (.iastore, 1) := by decide +kernel
theorem dX9_eats_110 : decode cX9_eats 110 = .ok (.iinc 3 1, 3) := by decide +kernel
theorem dX9_eats_113 : decode cX9_eats 113 = .ok (.goto (-96), 3) := by decide +kernel
theorem dX9_eats_116 : decode cX9_eats 116 = .ok (.iinc 2 1, 3) := by decide +kernel
theorem dX9_eats_119 : decode cX9_eats 119 = .ok (.goto (-110), 3) := by decide +kernel
theorem dX9_eats_122 : decode cX9_eats 122 = .ok (.return_, 1) := by decide +kernel
theorem dX9_isSlighted_0 : decode cX9_isSlighted 0 = .ok (.aload_n 0, 1) := by decide +kernel
theorem dX9_isSlighted_1 : decode cX9_isSlighted 1 = .ok (.iload_n 1, 1) := by decide +kernel
theorem dX9_isSlighted_2 : decode cX9_isSlighted 2 = .ok (.iconst 3, 1) := by decide +kernel
theorem dX9_isSlighted_3 : decode cX9_isSlighted 3 = .ok (.invokevirtual 85, 3) := by decide +kernel
theorem dX9_isSlighted_6 : decode cX9_isSlighted 6 = .ok (.istore_n 2, 1) := by decide +kernel
theorem dX9_isSlighted_7 : decode cX9_isSlighted 7 = .ok (.iload_n 2, 1) := by decide +kernel
theorem dX9_isSlighted_8 : decode cX9_isSlighted 8 = .ok (.iload_n 1, 1) := by decide +kernel
theorem dX9_isSlighted_9 : decode cX9_isSlighted 9 = .ok (.if_icmp .eq 19, 3) := by decide +kernel
theorem dX9_isSlighted_12 : decode cX9_isSlighted 12 = .ok (.aload_n 0, 1) := by decide +kernel
theorem dX9_isSlighted_13 : decode cX9_isSlighted 13 = .ok (.getfield 187, 3) := by decide +kernel
theorem dX9_isSlighted_16 : decode cX9_isSlighted 16 = .ok (.iload_n 2, 1) := by decide +kernel
theorem dX9_isSlighted_17 : decode cX9_isSlighted 17 = .ok (.ishr, 1) := by decide +kernel
theorem dX9_isSlighted_18 : decode cX9_isSlighted 18 = .ok (.iconst 1, 1) := by decide +kernel
theorem dX9_isSlighted_19 : decode cX9_isSlighted 19 = .ok (.iand, 1) := by decide +kernel
theorem dX9_isSlighted_20 : decode cX9_isSlighted 20 = .ok (.iconst 1, 1) := by decide +kernel
theorem dX9_isSlighted_21 : decode cX9_isSlighted 21 = .ok (.if_icmp .ne 7, 3) := by decide +kernel
theorem dX9_isSlighted_24 : decode cX9_isSlighted 24 = .ok (.iconst 1, 1) := by decide +kernel
theorem dX9_isSlighted_25 : decode cX9_isSlighted 25 = .ok (.goto 4, 3) := by decide +kernel
theorem dX9_isSlighted_28 : decode cX9_isSlighted 28 = .ok (.iconst 0, 1) := by decide +kernel
theorem dX9_isSlighted_29 : decode cX9_isSlighted 29 = .ok (.ireturn, 1) := by decide +kernel
theorem dX9_oneDay_0 : decode cX9_oneDay 0 = .ok (.aload_n 0, 1) := by decide +kernel
theorem dX9_oneDay_1 : decode cX9_oneDay 1 = .ok (.invokevirtual 193, 3) := by decide +kernel
theorem dX9_oneDay_4 : decode cX9_oneDay 4 = .ok (.aload_n 0, 1) := by decide +kernel
theorem dX9_oneDay_5 : decode cX9_oneDay 5 = .ok (.invokevirtual 196, 3) := by decide +kernel
theorem dX9_oneDay_8 : decode cX9_oneDay 8 = .ok (.iconst 0, 1) := by decide +kernel
theorem dX9_oneDay_9 : decode cX9_oneDay 9 = .ok (.istore_n 1, 1) := by decide +kernel
theorem dX9_oneDay_10 : decode cX9_oneDay 10 = .ok (.iload_n 1, 1) := by decide +kernel
theorem dX9_oneDay_11 : decode cX9_oneDay 11 = .ok (.aload_n 0, 1) := by decide +kernel
theorem dX9_oneDay_12 : decode cX9_oneDay 12 = .ok (.getfield 7, 3) := by decide +kernel
theorem dX9_oneDay_15 : decode cX9_oneDay 15 = .ok (.iconst 2, 1) := by decide +kernel
theorem dX9_oneDay_16 : decode cX9_oneDay 16 = .ok (.iaload, 1) := by decide +kernel
theorem dX9_oneDay_17 : decode cX9_oneDay 17 = .ok (.if_icmp .ge 52, 3) := by decide +kernel
theorem dX9_oneDay_20 : decode cX9_oneDay 20 = .ok (.aload_n 0, 1) := by decide +kernel
theorem dX9_oneDay_21 : decode cX9_oneDay 21 = .ok (.iload_n 1, 1) := by decide +kernel
theorem dX9_oneDay_22 : decode cX9_oneDay 22 = .ok (.iconst 2, 1) := by decide +kernel
theorem dX9_oneDay_23 : decode cX9_oneDay 23 = .ok (.aload_n 0, 1) := by decide +kernel
theorem dX9_oneDay_24 : decode cX9_oneDay 24 = .ok (.iload_n 1, 1) := by decide +kernel
theorem dX9_oneDay_25 : decode cX9_oneDay 25 = .ok (.invokevirtual 199, 3) := by decide +kernel
theorem dX9_oneDay_28 : decode cX9_oneDay 28 = .ok (.ifCond .eq 14, 3) := by decide +kernel
theorem dX9_oneDay_31 : decode cX9_oneDay 31 = .ok (.aload_n 0, 1) := by decide +kernel
theorem dX9_oneDay_32 : decode cX9_oneDay 32 = .ok (.iload_n 1, 1) := by decide +kernel
theorem dX9_oneDay_33 : decode cX9_oneDay 33 = .ok (.iconst 2, 1) := by decide +kernel
theorem dX9_oneDay_34 : decode cX9_oneDay 34 = .ok (.invokevirtual 85, 3) := by decide +kernel
theorem dX9_oneDay_37 : decode cX9_oneDay 37 = .ok (.iconst 1, 1) := by decide +kernel
theorem dX9_oneDay_38 : decode cX9_oneDay 38 = .ok (.iadd, 1) := by decide +kernel
theorem dX9_oneDay_39 : decode cX9_oneDay 39 = .ok (.goto 15, 3) := by decide +kernel
theorem dX9_oneDay_42 : decode cX9_oneDay 42 = .ok (.aload_n 0, 1) := by decide +kernel
theorem dX9_oneDay_43 : decode cX9_oneDay 43 = .ok (.iload_n 1, 1) := by decide +kernel
theorem dX9_oneDay_44 : decode cX9_oneDay 44 = .ok (.iconst 2, 1) := by decide +kernel
theorem dX9_oneDay_45 : decode cX9_oneDay 45 = .ok (.invokevirtual 85, 3) := by decide +kernel
theorem dX9_oneDay_48 : decode cX9_oneDay 48 = .ok (.aload_n 0, 1) := by decide +kernel
theorem dX9_oneDay_49 : decode cX9_oneDay 49 = .ok (.iload_n 1, 1) := by decide +kernel
theorem dX9_oneDay_50 : decode cX9_oneDay 50 = .ok (.invokevirtual 88, 3) := by decide +kernel
theorem dX9_oneDay_53 : decode cX9_oneDay 53 = .ok (.isub, 1) := by decide +kernel
theorem dX9_oneDay_54 : decode cX9_oneDay 54 = .ok (.iconst 0, 1) := by decide +kernel
theorem dX9_oneDay_55 : decode cX9_oneDay 55 = .ok (.bipush 9, 2) := by decide +kernel
theorem dX9_oneDay_57 : decode cX9_oneDay 57 = .ok (.invokestatic 162, 3) := by decide +kernel
theorem dX9_oneDay_60 : decode cX9_oneDay 60 = .ok (.invokevirtual 78, 3) := by decide +kernel
theorem dX9_oneDay_63 : decode cX9_oneDay 63 = .ok (.iinc 1 1, 3) := by decide +kernel
theorem dX9_oneDay_66 : decode cX9_oneDay 66 = .ok (.goto (-56), 3) := by decide +kernel
theorem dX9_oneDay_69 : decode cX9_oneDay 69 = .ok (.aload_n 0, 1) := by decide +kernel
theorem dX9_oneDay_70 : decode cX9_oneDay 70 = .ok (.getfield 7, 3) := by decide +kernel
theorem dX9_oneDay_73 : decode cX9_oneDay 73 = .ok (.iconst 0, 1) := by decide +kernel
theorem dX9_oneDay_74 : decode cX9_oneDay 74 = .ok (.dup2, 1) := by decide +kernel
theorem dX9_oneDay_75 : decode cX9_oneDay 75 = .ok (.iaload, 1) := by decide +kernel
theorem dX9_oneDay_76 : decode cX9_oneDay 76 = .ok (.iconst 1, 1) := by decide +kernel
theorem dX9_oneDay_77 : decode cX9_oneDay 77 = .ok (.iadd, 1) := by decide +kernel
theorem dX9_oneDay_78 : decode cX9_oneDay 78 = .ok (.iastore, 1) := by decide +kernel
theorem dX9_oneDay_79 : decode cX9_oneDay 79 = .ok (.return_, 1) := by decide +kernel
theorem dX9_passes_0 : decode cX9_passes 0 = .ok (.iconst 0, 1) := by decide +kernel
theorem dX9_passes_1 : decode cX9_passes 1 = .ok (.istore_n 2, 1) := by decide +kernel
theorem dX9_passes_2 : decode cX9_passes 2 = .ok (.iload_n 2, 1) := by decide +kernel
theorem dX9_passes_3 : decode cX9_passes 3 = .ok (.iload_n 1, 1) := by decide +kernel
theorem dX9_passes_4 : decode cX9_passes 4 = .ok (.if_icmp .ge 13, 3) := by decide +kernel
theorem dX9_passes_7 : decode cX9_passes 7 = .ok (.aload_n 0, 1) := by decide +kernel
theorem dX9_passes_8 : decode cX9_passes 8 = .ok (.invokevirtual 202, 3) := by decide +kernel
theorem dX9_passes_11 : decode cX9_passes 11 = .ok (.iinc 2 1, 3) := by decide +kernel
theorem dX9_passes_14 : decode cX9_passes 14 = .ok (.goto (-12), 3) := by decide +kernel
theorem dX9_passes_17 : decode cX9_passes 17 = .ok (.return_, 1) := by decide +kernel
theorem dX9_days_0 : decode cX9_days 0 = .ok (.iload_n 1, 1) := by decide +kernel
theorem dX9_days_1 : decode cX9_days 1 = .ok (.iconst 1, 1) := by decide +kernel
theorem dX9_days_2 : decode cX9_days 2 = .ok (.bipush 60, 2) := by decide +kernel
theorem dX9_days_4 : decode cX9_days 4 = .ok (.invokestatic 53, 3) := by decide +kernel
theorem dX9_days_7 : decode cX9_days 7 = .ok (.ifCond .ne 10, 3) := by decide +kernel
theorem dX9_days_10 : decode cX9_days 10 = .ok (.aload_n 0, 1) := by decide +kernel
theorem dX9_days_11 : decode cX9_days 11 = .ok (.ldc 65, 2) := by decide +kernel
theorem dX9_days_13 : decode cX9_days 13 = .ok (.invokevirtual 66, 3) := by decide +kernel
theorem dX9_days_16 : decode cX9_days 16 = .ok (.ireturn, 1) := by decide +kernel
theorem dX9_days_17 : decode cX9_days 17 = .ok (.aload_n 0, 1) := by decide +kernel
theorem dX9_days_18 : decode cX9_days 18 = .ok (.getfield 7, 3) := by decide +kernel
theorem dX9_days_21 : decode cX9_days 21 = .ok (.iconst 0, 1) := by decide +kernel
theorem dX9_days_22 : decode cX9_days 22 = .ok (.iaload, 1) := by decide +kernel
theorem dX9_days_23 : decode cX9_days 23 = .ok (.iload_n 1, 1) := by decide +kernel
theorem dX9_days_24 : decode cX9_days 24 = .ok (.iadd, 1) := by decide +kernel
theorem dX9_days_25 : decode cX9_days 25 = .ok (.sipush 9999, 3) := by decide +kernel
theorem dX9_days_28 : decode cX9_days 28 = .ok (.if_icmp .le 10, 3) := by decide +kernel
theorem dX9_days_31 : decode cX9_days 31 = .ok (.aload_n 0, 1) := by decide +kernel
theorem dX9_days_32 : decode cX9_days 32 = .ok (.ldc 205, 2) := by decide +kernel
theorem dX9_days_34 : decode cX9_days 34 = .ok (.invokevirtual 66, 3) := by decide +kernel
theorem dX9_days_37 : decode cX9_days 37 = .ok (.ireturn, 1) := by decide +kernel
theorem dX9_days_38 : decode cX9_days 38 = .ok (.aload_n 0, 1) := by decide +kernel
theorem dX9_days_39 : decode cX9_days 39 = .ok (.iload_n 1, 1) := by decide +kernel
theorem dX9_days_40 : decode cX9_days 40 = .ok (.invokevirtual 206, 3) := by decide +kernel
theorem dX9_days_43 : decode cX9_days 43 = .ok (.aload_n 0, 1) := by decide +kernel
theorem dX9_days_44 : decode cX9_days 44 = .ok (.getfield 7, 3) := by decide +kernel
theorem dX9_days_47 : decode cX9_days 47 = .ok (.iconst 4, 1) := by decide +kernel
theorem dX9_days_48 : decode cX9_days 48 = .ok (.iaload, 1) := by decide +kernel
theorem dX9_days_49 : decode cX9_days 49 = .ok (.ireturn, 1) := by decide +kernel
theorem dX9_drawn_0 : decode cX9_drawn 0 = .ok (.aload_n 0, 1) := by decide +kernel
theorem dX9_drawn_1 : decode cX9_drawn 1 = .ok (.getfield 7, 3) := by decide +kernel
theorem dX9_drawn_4 : decode cX9_drawn 4 = .ok (.iconst 1, 1) := by decide +kernel
theorem dX9_drawn_5 : decode cX9_drawn 5 = .ok (.aload_n 0, 1) := by decide +kernel
theorem dX9_drawn_6 : decode cX9_drawn 6 = .ok (.getfield 7, 3) := by decide +kernel
theorem dX9_drawn_9 : decode cX9_drawn 9 = .ok (.iconst 1, 1) := by decide +kernel
theorem dX9_drawn_10 : decode cX9_drawn 10 = .ok (.iaload, 1) := by decide +kernel
theorem dX9_drawn_11 : decode cX9_drawn 11 = .ok (.ldc 210, 2) := by decide +kernel
theorem dX9_drawn_13 : decode cX9_drawn 13 = .ok (.imul, 1) := by decide +kernel
theorem dX9_drawn_14 : decode cX9_drawn 14 = .ok (.sipush 12345, 3) := by decide +kernel
theorem dX9_drawn_17 : decode cX9_drawn 17 = .ok (.iadd, 1) := by decide +kernel
theorem dX9_drawn_18 : decode cX9_drawn 18 = .ok (.iastore, 1) := by decide +kernel
theorem dX9_drawn_19 : decode cX9_drawn 19 = .ok (.aload_n 0, 1) := by decide +kernel
theorem dX9_drawn_20 : decode cX9_drawn 20 = .ok (.getfield 7, 3) := by decide +kernel
theorem dX9_drawn_23 : decode cX9_drawn 23 = .ok (.iconst 1, 1) := by decide +kernel
theorem dX9_drawn_24 : decode cX9_drawn 24 = .ok (.iaload, 1) := by decide +kernel
theorem dX9_drawn_25 : decode cX9_drawn 25 = .ok (.bipush 8, 2) := by decide +kernel
theorem dX9_drawn_27 : decode cX9_drawn 27 = .ok (.iushr, 1) := by decide +kernel
theorem dX9_drawn_28 : decode cX9_drawn 28 = .ok (.ireturn, 1) := by decide +kernel
theorem dX9_loose_0 : decode cX9_loose 0 = .ok (.iload_n 1, 1) := by decide +kernel
theorem dX9_loose_1 : decode cX9_loose 1 = .ok (.iconst 1, 1) := by decide +kernel
theorem dX9_loose_2 : decode cX9_loose 2 = .ok (.bipush 40, 2) := by decide +kernel
theorem dX9_loose_4 : decode cX9_loose 4 = .ok (.invokestatic 53, 3) := by decide +kernel
theorem dX9_loose_7 : decode cX9_loose 7 = .ok (.ifCond .ne 10, 3) := by decide +kernel
theorem dX9_loose_10 : decode cX9_loose 10 = .ok (.aload_n 0, 1) := by decide +kernel
theorem dX9_loose_11 : decode cX9_loose 11 = .ok (.ldc 65, 2) := by decide +kernel
theorem dX9_loose_13 : decode cX9_loose 13 = .ok (.invokevirtual 66, 3) := by decide +kernel
theorem dX9_loose_16 : decode cX9_loose 16 = .ok (.ireturn, 1) := by decide +kernel
theorem dX9_loose_17 : decode cX9_loose 17 = .ok (.aload_n 0, 1) := by decide +kernel
theorem dX9_loose_18 : decode cX9_loose 18 = .ok (.getfield 7, 3) := by decide +kernel
theorem dX9_loose_21 : decode cX9_loose 21 = .ok (.iconst 0, 1) := by decide +kernel
theorem dX9_loose_22 : decode cX9_loose 22 = .ok (.iaload, 1) := by decide +kernel
theorem dX9_loose_23 : decode cX9_loose 23 = .ok (.iload_n 1, 1) := by decide +kernel
theorem dX9_loose_24 : decode cX9_loose 24 = .ok (.iadd, 1) := by decide +kernel
theorem dX9_loose_25 : decode cX9_loose 25 = .ok (.sipush 9999, 3) := by decide +kernel
theorem dX9_loose_28 : decode cX9_loose 28 = .ok (.if_icmp .le 10, 3) := by decide +kernel
theorem dX9_loose_31 : decode cX9_loose 31 = .ok (.aload_n 0, 1) := by decide +kernel
theorem dX9_loose_32 : decode cX9_loose 32 = .ok (.ldc 205, 2) := by decide +kernel
theorem dX9_loose_34 : decode cX9_loose 34 = .ok (.invokevirtual 66, 3) := by decide +kernel
theorem dX9_loose_37 : decode cX9_loose 37 = .ok (.ireturn, 1) := by decide +kernel
theorem dX9_loose_38 : decode cX9_loose 38 = .ok (.iconst 0, 1) := by decide +kernel
theorem dX9_loose_39 : decode cX9_loose 39 = .ok (.istore_n 2, 1) := by decide +kernel
theorem dX9_loose_40 : decode cX9_loose 40 = .ok (.iload_n 2, 1) := by decide +kernel
theorem dX9_loose_41 : decode cX9_loose 41 = .ok (.iload_n 1, 1) := by decide +kernel
theorem dX9_loose_42 : decode cX9_loose 42 = .ok (.if_icmp .ge 37, 3) := by decide +kernel
theorem dX9_loose_45 : decode cX9_loose 45 = .ok (.aload_n 0, 1) := by decide +kernel
theorem dX9_loose_46 : decode cX9_loose 46 = .ok (.invokevirtual 211, 3) := by decide +kernel
theorem dX9_loose_49 : decode cX9_loose 49 = .ok (.bipush 6, 2) := by decide +kernel
theorem dX9_loose_51 : decode cX9_loose 51 = .ok (.irem, 1) := by decide +kernel
theorem dX9_loose_52 : decode cX9_loose 52 = .ok (.istore_n 3, 1) := by decide +kernel
theorem dX9_loose_53 : decode cX9_loose 53 = .ok (.aload_n 0, 1) := by decide +kernel
theorem dX9_loose_54 : decode cX9_loose 54 = .ok (.getfield 7, 3) := by decide +kernel
theorem dX9_loose_57 : decode cX9_loose 57 = .ok (.bipush 41, 2) := by decide +kernel
theorem dX9_loose_59 : decode cX9_loose 59 = .ok (.iload_n 3, 1) := by decide +kernel
theorem dX9_loose_60 : decode cX9_loose 60 = .ok (.iadd, 1) := by decide +kernel
theorem dX9_loose_61 : decode cX9_loose 61 = .ok (.aload_n 0, 1) := by decide +kernel
theorem dX9_loose_62 : decode cX9_loose 62 = .ok (.invokevirtual 211, 3) := by decide +kernel
theorem dX9_loose_65 : decode cX9_loose 65 = .ok (.bipush 16, 2) := by decide +kernel
theorem dX9_loose_67 : decode cX9_loose 67 = .ok (.irem, 1) := by decide +kernel
theorem dX9_loose_68 : decode cX9_loose 68 = .ok (.iastore, 1) := by decide +kernel
theorem dX9_loose_69 : decode cX9_loose 69 = .ok (.aload_n 0, 1) := by decide +kernel
theorem dX9_loose_70 : decode cX9_loose 70 = .ok (.invokevirtual 202, 3) := by decide +kernel
theorem dX9_loose_73 : decode cX9_loose 73 = .ok (.iinc 2 1, 3) := by decide +kernel
theorem dX9_loose_76 : decode cX9_loose 76 = .ok (.goto (-36), 3) := by decide +kernel
theorem dX9_loose_79 : decode cX9_loose 79 = .ok (.aload_n 0, 1) := by decide +kernel
theorem dX9_loose_80 : decode cX9_loose 80 = .ok (.getfield 7, 3) := by decide +kernel
theorem dX9_loose_83 : decode cX9_loose 83 = .ok (.iconst 4, 1) := by decide +kernel
theorem dX9_loose_84 : decode cX9_loose 84 = .ok (.iaload, 1) := by decide +kernel
theorem dX9_loose_85 : decode cX9_loose 85 = .ok (.ireturn, 1) := by decide +kernel
theorem dX9_then_0 : decode cX9_then 0 = .ok (.iload_n 1, 1) := by decide +kernel
theorem dX9_then_1 : decode cX9_then 1 = .ok (.iconst 0, 1) := by decide +kernel
theorem dX9_then_2 : decode cX9_then 2 = .ok (.bipush 60, 2) := by decide +kernel
theorem dX9_then_4 : decode cX9_then 4 = .ok (.invokestatic 53, 3) := by decide +kernel
theorem dX9_then_7 : decode cX9_then 7 = .ok (.ifCond .eq 20, 3) := by decide +kernel
theorem dX9_then_10 : decode cX9_then 10 = .ok (.aload_n 0, 1) := by decide +kernel
theorem dX9_then_11 : decode cX9_then 11 = .ok (.iload_n 2, 1) := by decide +kernel
theorem dX9_then_12 : decode cX9_then 12 = .ok (.invokevirtual 82, 3) := by decide +kernel
theorem dX9_then_15 : decode cX9_then 15 = .ok (.ifCond .eq 12, 3) := by decide +kernel
theorem dX9_then_18 : decode cX9_then 18 = .ok (.iload_n 3, 1) := by decide +kernel
theorem dX9_then_19 : decode cX9_then 19 = .ok (.iconst 0, 1) := by decide +kernel
theorem dX9_then_20 : decode cX9_then 20 = .ok (.iconst 1, 1) := by decide +kernel
theorem dX9_then_21 : decode cX9_then 21 = .ok (.invokestatic 53, 3) := by decide +kernel
theorem dX9_then_24 : decode cX9_then 24 = .ok (.ifCond .ne 10, 3) := by decide +kernel
theorem dX9_then_27 : decode cX9_then 27 = .ok (.aload_n 0, 1) := by decide +kernel
theorem dX9_then_28 : decode cX9_then 28 = .ok (.ldc 65, 2) := by decide +kernel
theorem dX9_then_30 : decode cX9_then 30 = .ok (.invokevirtual 66, 3) := by decide +kernel
theorem dX9_then_33 : decode cX9_then 33 = .ok (.ireturn, 1) := by decide +kernel
theorem dX9_then_34 : decode cX9_then 34 = .ok (.aload_n 0, 1) := by decide +kernel
theorem dX9_then_35 : decode cX9_then 35 = .ok (.aload_n 0, 1) := by decide +kernel
theorem dX9_then_36 : decode cX9_then 36 = .ok (.getfield 7, 3) := by decide +kernel
theorem dX9_then_39 : decode cX9_then 39 = .ok (.aload_n 0, 1) := by decide +kernel
theorem dX9_then_40 : decode cX9_then 40 = .ok (.getfield 16, 3) := by decide +kernel
theorem dX9_then_43 : decode cX9_then 43 = .ok (.invokevirtual 174, 3) := by decide +kernel
theorem dX9_then_46 : decode cX9_then 46 = .ok (.aload_n 0, 1) := by decide +kernel
theorem dX9_then_47 : decode cX9_then 47 = .ok (.iload_n 1, 1) := by decide +kernel
theorem dX9_then_48 : decode cX9_then 48 = .ok (.invokevirtual 206, 3) := by decide +kernel
theorem dX9_then_51 : decode cX9_then 51 = .ok (.aload_n 0, 1) := by decide +kernel
theorem dX9_then_52 : decode cX9_then 52 = .ok (.iload_n 2, 1) := by decide +kernel
theorem dX9_then_53 : decode cX9_then 53 = .ok (.iload_n 3, 1) := by decide +kernel
theorem dX9_then_54 : decode cX9_then 54 = .ok (.ifCond .ne 7, 3) := by decide +kernel
theorem dX9_then_57 : decode cX9_then 57 = .ok (.iconst 2, 1) := by decide +kernel
theorem dX9_then_58 : decode cX9_then 58 = .ok (.goto 4, 3) := by decide +kernel
theorem dX9_then_61 : decode cX9_then 61 = .ok (.iconst 4, 1) := by decide +kernel
theorem dX9_then_62 : decode cX9_then 62 = .ok (.invokevirtual 85, 3) := by decide +kernel
theorem dX9_then_65 : decode cX9_then 65 = .ok (.istore 4, 2) := by decide +kernel
theorem dX9_then_67 : decode cX9_then 67 = .ok (.aload_n 0, 1) := by decide +kernel
theorem dX9_then_68 : decode cX9_then 68 = .ok (.aload_n 0, 1) := by decide +kernel
theorem dX9_then_69 : decode cX9_then 69 = .ok (.getfield 16, 3) := by decide +kernel
theorem dX9_then_72 : decode cX9_then 72 = .ok (.aload_n 0, 1) := by decide +kernel
theorem dX9_then_73 : decode cX9_then 73 = .ok (.getfield 7, 3) := by decide +kernel
theorem dX9_then_76 : decode cX9_then 76 = .ok (.invokevirtual 174, 3) := by decide +kernel
theorem dX9_then_79 : decode cX9_then 79 = .ok (.iload 4, 2) := by decide +kernel
theorem dX9_then_81 : decode cX9_then 81 = .ok (.ireturn, 1) := by decide +kernel
theorem dX9_out_0 : decode cX9_out 0 = .ok (.aload_n 0, 1) := by decide +kernel
theorem dX9_out_1 : decode cX9_out 1 = .ok (.iload_n 1, 1) := by decide +kernel
theorem dX9_out_2 : decode cX9_out 2 = .ok (.invokevirtual 82, 3) := by decide +kernel
theorem dX9_out_5 : decode cX9_out 5 = .ok (.ifCond .eq 13, 3) := by decide +kernel
theorem dX9_out_8 : decode cX9_out 8 = .ok (.iload_n 2, 1) := by decide +kernel
theorem dX9_out_9 : decode cX9_out 9 = .ok (.iconst 0, 1) := by decide +kernel
theorem dX9_out_10 : decode cX9_out 10 = .ok (.bipush 99, 2) := by decide +kernel
theorem dX9_out_12 : decode cX9_out 12 = .ok (.invokestatic 53, 3) := by decide +kernel
theorem dX9_out_15 : decode cX9_out 15 = .ok (.ifCond .ne 10, 3) := by decide +kernel
theorem dX9_out_18 : decode cX9_out 18 = .ok (.aload_n 0, 1) := by decide +kernel
theorem dX9_out_19 : decode cX9_out 19 = .ok (.ldc 65, 2) := by decide +kernel
theorem dX9_out_21 : decode cX9_out 21 = .ok (.invokevirtual 66, 3) := by decide +kernel
theorem dX9_out_24 : decode cX9_out 24 = .ok (.ireturn, 1) := by decide +kernel
theorem dX9_out_25 : decode cX9_out 25 = .ok (.aload_n 0, 1) := by decide +kernel
theorem dX9_out_26 : decode cX9_out 26 = .ok (.aload_n 0, 1) := by decide +kernel
theorem dX9_out_27 : decode cX9_out 27 = .ok (.getfield 7, 3) := by decide +kernel
theorem dX9_out_30 : decode cX9_out 30 = .ok (.aload_n 0, 1) := by decide +kernel
theorem dX9_out_31 : decode cX9_out 31 = .ok (.getfield 16, 3) := by decide +kernel
theorem dX9_out_34 : decode cX9_out 34 = .ok (.invokevirtual 174, 3) := by decide +kernel
theorem dX9_out_37 : decode cX9_out 37 = .ok (.iconst 0, 1) := by decide +kernel
theorem dX9_out_38 : decode cX9_out 38 = .ok (.istore_n 3, 1) := by decide +kernel
theorem dX9_out_39 : decode cX9_out 39 = .ok (.iload_n 3, 1) := by decide +kernel
theorem dX9_out_40 : decode cX9_out 40 = .ok (.bipush 60, 2) := by decide +kernel
theorem dX9_out_42 : decode cX9_out 42 = .ok (.if_icmp .gt 23, 3) := by decide +kernel
theorem dX9_out_45 : decode cX9_out 45 = .ok (.aload_n 0, 1) := by decide +kernel
theorem dX9_out_46 : decode cX9_out 46 = .ok (.iload_n 1, 1) := by decide +kernel
theorem dX9_out_47 : decode cX9_out 47 = .ok (.iconst 4, 1) := by decide +kernel
theorem dX9_out_48 : decode cX9_out 48 = .ok (.invokevirtual 85, 3) := by decide +kernel
theorem dX9_out_51 : decode cX9_out 51 = .ok (.iload_n 2, 1) := by decide +kernel
theorem dX9_out_52 : decode cX9_out 52 = .ok (.if_icmp .ge 13, 3) := by decide +kernel
theorem dX9_out_55 : decode cX9_out 55 = .ok (.aload_n 0, 1) := by decide +kernel
theorem dX9_out_56 : decode cX9_out 56 = .ok (.invokevirtual 202, 3) := by decide +kernel
theorem dX9_out_59 : decode cX9_out 59 = .ok (.iinc 3 1, 3) := by decide +kernel
theorem dX9_out_62 : decode cX9_out 62 = .ok (.goto (-23), 3) := by decide +kernel
theorem dX9_out_65 : decode cX9_out 65 = .ok (.aload_n 0, 1) := by decide +kernel
theorem dX9_out_66 : decode cX9_out 66 = .ok (.aload_n 0, 1) := by decide +kernel
theorem dX9_out_67 : decode cX9_out 67 = .ok (.getfield 16, 3) := by decide +kernel
theorem dX9_out_70 : decode cX9_out 70 = .ok (.aload_n 0, 1) := by decide +kernel
theorem dX9_out_71 : decode cX9_out 71 = .ok (.getfield 7, 3) := by decide +kernel
theorem dX9_out_74 : decode cX9_out 74 = .ok (.invokevirtual 174, 3) := by decide +kernel
theorem dX9_out_77 : decode cX9_out 77 = .ok (.iload_n 3, 1) := by decide +kernel
theorem dX9_out_78 : decode cX9_out 78 = .ok (.bipush 60, 2) := by decide +kernel
theorem dX9_out_80 : decode cX9_out 80 = .ok (.if_icmp .le 12, 3) := by decide +kernel
theorem dX9_out_83 : decode cX9_out 83 = .ok (.aload_n 0, 1) := by decide +kernel
theorem dX9_out_84 : decode cX9_out 84 = .ok (.ldc 214, 2) := by decide +kernel
theorem dX9_out_86 : decode cX9_out 86 = .ok (.invokevirtual 66, 3) := by decide +kernel
theorem dX9_out_89 : decode cX9_out 89 = .ok (.goto 4, 3) := by decide +kernel
theorem dX9_out_92 : decode cX9_out 92 = .ok (.iload_n 3, 1) := by decide +kernel
theorem dX9_out_93 : decode cX9_out 93 = .ok (.ireturn, 1) := by decide +kernel
theorem dX9_first_0 : decode cX9_first 0 = .ok (.iload_n 1, 1) := by decide +kernel
theorem dX9_first_1 : decode cX9_first 1 = .ok (.iconst 0, 1) := by decide +kernel
theorem dX9_first_2 : decode cX9_first 2 = .ok (.iconst 1, 1) := by decide +kernel
theorem dX9_first_3 : decode cX9_first 3 = .ok (.invokestatic 53, 3) := by decide +kernel
theorem dX9_first_6 : decode cX9_first 6 = .ok (.ifCond .ne 10, 3) := by decide +kernel
theorem dX9_first_9 : decode cX9_first 9 = .ok (.aload_n 0, 1) := by decide +kernel
theorem dX9_first_10 : decode cX9_first 10 = .ok (.ldc 65, 2) := by decide +kernel
theorem dX9_first_12 : decode cX9_first 12 = .ok (.invokevirtual 66, 3) := by decide +kernel
theorem dX9_first_15 : decode cX9_first 15 = .ok (.ireturn, 1) := by decide +kernel
theorem dX9_first_16 : decode cX9_first 16 = .ok (.aload_n 0, 1) := by decide +kernel
theorem dX9_first_17 : decode cX9_first 17 = .ok (.aload_n 0, 1) := by decide +kernel
theorem dX9_first_18 : decode cX9_first 18 = .ok (.getfield 7, 3) := by decide +kernel
theorem dX9_first_21 : decode cX9_first 21 = .ok (.aload_n 0, 1) := by decide +kernel
theorem dX9_first_22 : decode cX9_first 22 = .ok (.getfield 16, 3) := by decide +kernel
theorem dX9_first_25 : decode cX9_first 25 = .ok (.invokevirtual 174, 3) := by decide +kernel
theorem dX9_first_28 : decode cX9_first 28 = .ok (.iconst 0, 1) := by decide +kernel
theorem dX9_first_29 : decode cX9_first 29 = .ok (.istore_n 2, 1) := by decide +kernel
theorem dX9_first_30 : decode cX9_first 30 = .ok (.aload_n 0, 1) := by decide +kernel
theorem dX9_first_31 : decode cX9_first 31 = .ok (.invokevirtual 196, 3) := by decide +kernel
theorem dX9_first_34 : decode cX9_first 34 = .ok (.iload_n 2, 1) := by decide +kernel
theorem dX9_first_35 : decode cX9_first 35 = .ok (.bipush 60, 2) := by decide +kernel
theorem dX9_first_37 : decode cX9_first 37 = .ok (.if_icmp .gt 24, 3) := by decide +kernel
theorem dX9_first_40 : decode cX9_first 40 = .ok (.aload_n 0, 1) := by decide +kernel
theorem dX9_first_41 : decode cX9_first 41 = .ok (.getfield 187, 3) := by decide +kernel
theorem dX9_first_44 : decode cX9_first 44 = .ok (.ifCond .ne 17, 3) := by decide +kernel
theorem dX9_first_47 : decode cX9_first 47 = .ok (.aload_n 0, 1) := by decide +kernel
theorem dX9_first_48 : decode cX9_first 48 = .ok (.invokevirtual 202, 3) := by decide +kernel
theorem dX9_first_51 : decode cX9_first 51 = .ok (.aload_n 0, 1) := by decide +kernel
theorem dX9_first_52 : decode cX9_first 52 = .ok (.invokevirtual 196, 3) := by decide +kernel
theorem dX9_first_55 : decode cX9_first 55 = .ok (.iinc 2 1, 3) := by decide +kernel
theorem dX9_first_58 : decode cX9_first 58 = .ok (.goto (-24), 3) := by decide +kernel
theorem dX9_first_61 : decode cX9_first 61 = .ok (.aload_n 0, 1) := by decide +kernel
theorem dX9_first_62 : decode cX9_first 62 = .ok (.aload_n 0, 1) := by decide +kernel
theorem dX9_first_63 : decode cX9_first 63 = .ok (.getfield 16, 3) := by decide +kernel
theorem dX9_first_66 : decode cX9_first 66 = .ok (.aload_n 0, 1) := by decide +kernel
theorem dX9_first_67 : decode cX9_first 67 = .ok (.getfield 7, 3) := by decide +kernel
theorem dX9_first_70 : decode cX9_first 70 = .ok (.invokevirtual 174, 3) := by decide +kernel
theorem dX9_first_73 : decode cX9_first 73 = .ok (.iload_n 2, 1) := by decide +kernel
theorem dX9_first_74 : decode cX9_first 74 = .ok (.bipush 60, 2) := by decide +kernel
theorem dX9_first_76 : decode cX9_first 76 = .ok (.if_icmp .le 10, 3) := by decide +kernel
theorem dX9_first_79 : decode cX9_first 79 = .ok (.aload_n 0, 1) := by decide +kernel
theorem dX9_first_80 : decode cX9_first 80 = .ok (.ldc 214, 2) := by decide +kernel
theorem dX9_first_82 : decode cX9_first 82 = .ok (.invokevirtual 66, 3) := by decide +kernel
theorem dX9_first_85 : decode cX9_first 85 = .ok (.ireturn, 1) := by decide +kernel
theorem dX9_first_86 : decode cX9_first 86 = .ok (.iconst 0, 1) := by decide +kernel
theorem dX9_first_87 : decode cX9_first 87 = .ok (.istore_n 3, 1) := by decide +kernel
theorem dX9_first_88 : decode cX9_first 88 = .ok (.aload_n 0, 1) := by decide +kernel
theorem dX9_first_89 : decode cX9_first 89 = .ok (.getfield 187, 3) := by decide +kernel
theorem dX9_first_92 : decode cX9_first 92 = .ok (.iload_n 3, 1) := by decide +kernel
theorem dX9_first_93 : decode cX9_first 93 = .ok (.ishr, 1) := by decide +kernel
theorem dX9_first_94 : decode cX9_first 94 = .ok (.iconst 1, 1) := by decide +kernel
theorem dX9_first_95 : decode cX9_first 95 = .ok (.iand, 1) := by decide +kernel
theorem dX9_first_96 : decode cX9_first 96 = .ok (.ifCond .ne 9, 3) := by decide +kernel
theorem dX9_first_99 : decode cX9_first 99 = .ok (.iinc 3 1, 3) := by decide +kernel
theorem dX9_first_102 : decode cX9_first 102 = .ok (.goto (-14), 3) := by decide +kernel
theorem dX9_first_105 : decode cX9_first 105 = .ok (.iload_n 1, 1) := by decide +kernel
theorem dX9_first_106 : decode cX9_first 106 = .ok (.ifCond .ne 7, 3) := by decide +kernel
theorem dX9_first_109 : decode cX9_first 109 = .ok (.iload_n 2, 1) := by decide +kernel
theorem dX9_first_110 : decode cX9_first 110 = .ok (.goto 4, 3) := by decide +kernel
theorem dX9_first_113 : decode cX9_first 113 = .ok (.iload_n 3, 1) := by decide +kernel
theorem dX9_first_114 : decode cX9_first 114 = .ok (.ireturn, 1) := by decide +kernel
theorem dX9_sumOf_0 : decode cX9_sumOf 0 = .ok (.iconst 0, 1) := by decide +kernel
theorem dX9_sumOf_1 : decode cX9_sumOf 1 = .ok (.istore_n 2, 1) := by decide +kernel
theorem dX9_sumOf_2 : decode cX9_sumOf 2 = .ok (.iconst 0, 1) := by decide +kernel
theorem dX9_sumOf_3 : decode cX9_sumOf 3 = .ok (.istore_n 3, 1) := by decide +kernel
theorem dX9_sumOf_4 : decode cX9_sumOf 4 = .ok (.iload_n 3, 1) := by decide +kernel
theorem dX9_sumOf_5 : decode cX9_sumOf 5 = .ok (.aload_n 0, 1) := by decide +kernel
theorem dX9_sumOf_6 : decode cX9_sumOf 6 = .ok (.getfield 7, 3) := by decide +kernel
theorem dX9_sumOf_9 : decode cX9_sumOf 9 = .ok (.iconst 2, 1) := by decide +kernel
theorem dX9_sumOf_10 : decode cX9_sumOf 10 = .ok (.iaload, 1) := by decide +kernel
theorem dX9_sumOf_11 : decode cX9_sumOf 11 = .ok (.if_icmp .ge 18, 3) := by decide +kernel
theorem dX9_sumOf_14 : decode cX9_sumOf 14 = .ok (.iload_n 2, 1) := by decide +kernel
theorem dX9_sumOf_15 : decode cX9_sumOf 15 = .ok (.aload_n 0, 1) := by decide +kernel
theorem dX9_sumOf_16 : decode cX9_sumOf 16 = .ok (.iload_n 3, 1) := by decide +kernel
theorem dX9_sumOf_17 : decode cX9_sumOf 17 = .ok (.iload_n 1, 1) := by decide +kernel
theorem dX9_sumOf_18 : decode cX9_sumOf 18 = .ok (.invokevirtual 85, 3) := by decide +kernel
theorem dX9_sumOf_21 : decode cX9_sumOf 21 = .ok (.iadd, 1) := by decide +kernel
theorem dX9_sumOf_22 : decode cX9_sumOf 22 = .ok (.istore_n 2, 1) := by decide +kernel
theorem dX9_sumOf_23 : decode cX9_sumOf 23 = .ok (.iinc 3 1, 3) := by decide +kernel
theorem dX9_sumOf_26 : decode cX9_sumOf 26 = .ok (.goto (-22), 3) := by decide +kernel
theorem dX9_sumOf_29 : decode cX9_sumOf 29 = .ok (.iload_n 2, 1) := by decide +kernel
theorem dX9_sumOf_30 : decode cX9_sumOf 30 = .ok (.ireturn, 1) := by decide +kernel
theorem dX9_knownBehind_0 : decode cX9_knownBehind 0 = .ok (.aload_n 0, 1) := by decide +kernel
theorem dX9_knownBehind_1 : decode cX9_knownBehind 1 = .ok (.iload_n 1, 1) := by decide +kernel
theorem dX9_knownBehind_2 : decode cX9_knownBehind 2 = .ok (.invokevirtual 206, 3) := by decide +kernel
theorem dX9_knownBehind_5 : decode cX9_knownBehind 5 = .ok (.aload_n 0, 1) := by decide +kernel
theorem dX9_knownBehind_6 : decode cX9_knownBehind 6 = .ok (.iconst 4, 1) := by decide +kernel
theorem dX9_knownBehind_7 : decode cX9_knownBehind 7 = .ok (.invokevirtual 215, 3) := by decide +kernel
theorem dX9_knownBehind_10 : decode cX9_knownBehind 10 = .ok (.istore_n 2, 1) := by decide +kernel
theorem dX9_knownBehind_11 : decode cX9_knownBehind 11 = .ok (.aload_n 0, 1) := by decide +kernel
theorem dX9_knownBehind_12 : decode cX9_knownBehind 12 = .ok (.aload_n 0, 1) := by decide +kernel
theorem dX9_knownBehind_13 : decode cX9_knownBehind 13 = .ok (.getfield 16, 3) := by decide +kernel
theorem dX9_knownBehind_16 : decode cX9_knownBehind 16 = .ok (.aload_n 0, 1) := by decide +kernel
theorem dX9_knownBehind_17 : decode cX9_knownBehind 17 = .ok (.getfield 7, 3) := by decide +kernel
theorem dX9_knownBehind_20 : decode cX9_knownBehind 20 = .ok (.invokevirtual 174, 3) := by decide +kernel
theorem dX9_knownBehind_23 : decode cX9_knownBehind 23 = .ok (.iload_n 2, 1) := by decide +kernel
theorem dX9_knownBehind_24 : decode cX9_knownBehind 24 = .ok (.ireturn, 1) := by decide +kernel
theorem dX9_isKnown_0 : decode cX9_isKnown 0 = .ok (.aload_n 0, 1) := by decide +kernel
theorem dX9_isKnown_1 : decode cX9_isKnown 1 = .ok (.getfield 7, 3) := by decide +kernel
theorem dX9_isKnown_4 : decode cX9_isKnown 4 = .ok (.iconst 3, 1) := by decide +kernel
theorem dX9_isKnown_5 : decode cX9_isKnown 5 = .ok (.iload_n 2, 1) := by decide +kernel
theorem dX9_isKnown_6 : decode cX9_isKnown 6 = .ok (.iastore, 1) := by decide +kernel
theorem dX9_isKnown_7 : decode cX9_isKnown 7 = .ok (.aload_n 0, 1) := by decide +kernel
theorem dX9_isKnown_8 : decode cX9_isKnown 8 = .ok (.iload_n 3, 1) := by decide +kernel
theorem dX9_isKnown_9 : decode cX9_isKnown 9 = .ok (.invokevirtual 206, 3) := by decide +kernel
theorem dX9_isKnown_12 : decode cX9_isKnown 12 = .ok (.aload_n 0, 1) := by decide +kernel
theorem dX9_isKnown_13 : decode cX9_isKnown 13 = .ok (.iload_n 1, 1) := by decide +kernel
theorem dX9_isKnown_14 : decode cX9_isKnown 14 = .ok (.iconst 4, 1) := by decide +kernel
theorem dX9_isKnown_15 : decode cX9_isKnown 15 = .ok (.invokevirtual 85, 3) := by decide +kernel
theorem dX9_isKnown_18 : decode cX9_isKnown 18 = .ok (.iload 4, 2) := by decide +kernel
theorem dX9_isKnown_20 : decode cX9_isKnown 20 = .ok (.if_icmp .lt 7, 3) := by decide +kernel
theorem dX9_isKnown_23 : decode cX9_isKnown 23 = .ok (.iconst 1, 1) := by decide +kernel
theorem dX9_isKnown_24 : decode cX9_isKnown 24 = .ok (.goto 4, 3) := by decide +kernel
theorem dX9_isKnown_27 : decode cX9_isKnown 27 = .ok (.iconst 0, 1) := by decide +kernel
theorem dX9_isKnown_28 : decode cX9_isKnown 28 = .ok (.istore 5, 2) := by decide +kernel
theorem dX9_isKnown_30 : decode cX9_isKnown 30 = .ok (.aload_n 0, 1) := by decide +kernel
theorem dX9_isKnown_31 : decode cX9_isKnown 31 = .ok (.aload_n 0, 1) := by decide +kernel
theorem dX9_isKnown_32 : decode cX9_isKnown 32 = .ok (.getfield 16, 3) := by decide +kernel
theorem dX9_isKnown_35 : decode cX9_isKnown 35 = .ok (.aload_n 0, 1) := by decide +kernel
theorem dX9_isKnown_36 : decode cX9_isKnown 36 = .ok (.getfield 7, 3) := by decide +kernel
theorem dX9_isKnown_39 : decode cX9_isKnown 39 = .ok (.invokevirtual 174, 3) := by decide +kernel
theorem dX9_isKnown_42 : decode cX9_isKnown 42 = .ok (.iload 5, 2) := by decide +kernel
theorem dX9_isKnown_44 : decode cX9_isKnown 44 = .ok (.ireturn, 1) := by decide +kernel
theorem dX9_roomFor_0 : decode cX9_roomFor 0 = .ok (.aload_n 0, 1) := by decide +kernel
theorem dX9_roomFor_1 : decode cX9_roomFor 1 = .ok (.iload_n 1, 1) := by decide +kernel
theorem dX9_roomFor_2 : decode cX9_roomFor 2 = .ok (.invokevirtual 82, 3) := by decide +kernel
theorem dX9_roomFor_5 : decode cX9_roomFor 5 = .ok (.ifCond .eq 23, 3) := by decide +kernel
theorem dX9_roomFor_8 : decode cX9_roomFor 8 = .ok (.iload_n 2, 1) := by decide +kernel
theorem dX9_roomFor_9 : decode cX9_roomFor 9 = .ok (.iconst 0, 1) := by decide +kernel
theorem dX9_roomFor_10 : decode cX9_roomFor 10 = .ok (.bipush 99, 2) := by decide +kernel
theorem dX9_roomFor_12 : decode cX9_roomFor 12 = .ok (.invokestatic 53, 3) := by decide +kernel
theorem dX9_roomFor_15 : decode cX9_roomFor 15 = .ok (.ifCond .eq 13, 3) := by decide +kernel
theorem dX9_roomFor_18 : decode cX9_roomFor 18 = .ok (.iload_n 3, 1) := by decide +kernel
theorem dX9_roomFor_19 : decode cX9_roomFor 19 = .ok (.iconst 0, 1) := by decide +kernel
theorem dX9_roomFor_20 : decode cX9_roomFor 20 = .ok (.bipush 30, 2) := by decide +kernel
theorem dX9_roomFor_22 : decode cX9_roomFor 22 = .ok (.invokestatic 53, 3) := by decide +kernel
theorem dX9_roomFor_25 : decode cX9_roomFor 25 = .ok (.ifCond .ne 10, 3) := by decide +kernel
theorem dX9_roomFor_28 : decode cX9_roomFor 28 = .ok (.aload_n 0, 1) := by decide +kernel
theorem dX9_roomFor_29 : decode cX9_roomFor 29 = .ok (.ldc 65, 2) := by decide +kernel
theorem dX9_roomFor_31 : decode cX9_roomFor 31 = .ok (.invokevirtual 66, 3) := by decide +kernel
theorem dX9_roomFor_34 : decode cX9_roomFor 34 = .ok (.ireturn, 1) := by decide +kernel
theorem dX9_roomFor_35 : decode cX9_roomFor 35 = .ok (.aload_n 0, 1) := by decide +kernel
theorem dX9_roomFor_36 : decode cX9_roomFor 36 = .ok (.aload_n 0, 1) := by decide +kernel
theorem dX9_roomFor_37 : decode cX9_roomFor 37 = .ok (.getfield 7, 3) := by decide +kernel
theorem dX9_roomFor_40 : decode cX9_roomFor 40 = .ok (.aload_n 0, 1) := by decide +kernel
theorem dX9_roomFor_41 : decode cX9_roomFor 41 = .ok (.getfield 16, 3) := by decide +kernel
theorem dX9_roomFor_44 : decode cX9_roomFor 44 = .ok (.invokevirtual 174, 3) := by decide +kernel
theorem dX9_roomFor_47 : decode cX9_roomFor 47 = .ok (.iconst 0, 1) := by decide +kernel
theorem dX9_roomFor_48 : decode cX9_roomFor 48 = .ok (.istore 4, 2) := by decide +kernel
theorem dX9_roomFor_50 : decode cX9_roomFor 50 = .ok (.iload 4, 2) := by decide +kernel
theorem dX9_roomFor_52 : decode cX9_roomFor 52 = .ok (.bipush 40, 2) := by decide +kernel
theorem dX9_roomFor_54 : decode cX9_roomFor 54 = .ok (.if_icmp .gt 21, 3) := by decide +kernel
theorem dX9_roomFor_57 : decode cX9_roomFor 57 = .ok (.aload_n 0, 1) := by decide +kernel
theorem dX9_roomFor_58 : decode cX9_roomFor 58 = .ok (.iload_n 1, 1) := by decide +kernel
theorem dX9_roomFor_59 : decode cX9_roomFor 59 = .ok (.iload 4, 2) := by decide +kernel
theorem dX9_roomFor_61 : decode cX9_roomFor 61 = .ok (.iload_n 3, 1) := by decide +kernel
theorem dX9_roomFor_62 : decode cX9_roomFor 62 = .ok (.iload_n 2, 1) := by decide +kernel
theorem dX9_roomFor_63 : decode cX9_roomFor 63 = .ok (.invokevirtual 218, 3) := by decide +kernel
theorem dX9_roomFor_66 : decode cX9_roomFor 66 = .ok (.ifCond .ne 9, 3) := by decide +kernel
theorem dX9_roomFor_69 : decode cX9_roomFor 69 = .ok (.iinc 4 1, 3) := by decide +kernel
theorem dX9_roomFor_72 : decode cX9_roomFor 72 = .ok (.goto (-22), 3) := by decide +kernel
theorem dX9_roomFor_75 : decode cX9_roomFor 75 = .ok (.iload 4, 2) := by decide +kernel
theorem dX9_roomFor_77 : decode cX9_roomFor 77 = .ok (.bipush 40, 2) := by decide +kernel
theorem dX9_roomFor_79 : decode cX9_roomFor 79 = .ok (.if_icmp .le 12, 3) := by decide +kernel
theorem dX9_roomFor_82 : decode cX9_roomFor 82 = .ok (.aload_n 0, 1) := by decide +kernel
theorem dX9_roomFor_83 : decode cX9_roomFor 83 = .ok (.ldc 214, 2) := by decide +kernel
theorem dX9_roomFor_85 : decode cX9_roomFor 85 = .ok (.invokevirtual 66, 3) := by decide +kernel
theorem dX9_roomFor_88 : decode cX9_roomFor 88 = .ok (.goto 5, 3) := by decide +kernel
theorem dX9_roomFor_91 : decode cX9_roomFor 91 = .ok (.iload 4, 2) := by decide +kernel
theorem dX9_roomFor_93 : decode cX9_roomFor 93 = .ok (.ireturn, 1) := by decide +kernel
theorem dX9_best_0 : decode cX9_best 0 = .ok (.iload_n 1, 1) := by decide +kernel
theorem dX9_best_1 : decode cX9_best 1 = .ok (.invokestatic 73, 3) := by decide +kernel
theorem dX9_best_4 : decode cX9_best 4 = .ok (.ifCond .eq 22, 3) := by decide +kernel
theorem dX9_best_7 : decode cX9_best 7 = .ok (.iload_n 2, 1) := by decide +kernel
theorem dX9_best_8 : decode cX9_best 8 = .ok (.iconst 0, 1) := by decide +kernel
theorem dX9_best_9 : decode cX9_best 9 = .ok (.bipush 20, 2) := by decide +kernel
theorem dX9_best_11 : decode cX9_best 11 = .ok (.invokestatic 53, 3) := by decide +kernel
theorem dX9_best_14 : decode cX9_best 14 = .ok (.ifCond .eq 12, 3) := by decide +kernel
theorem dX9_best_17 : decode cX9_best 17 = .ok (.iload_n 3, 1) := by decide +kernel
theorem dX9_best_18 : decode cX9_best 18 = .ok (.iconst 0, 1) := by decide +kernel
theorem dX9_best_19 : decode cX9_best 19 = .ok (.iconst 1, 1) := by decide +kernel
theorem dX9_best_20 : decode cX9_best 20 = .ok (.invokestatic 53, 3) := by decide +kernel
theorem dX9_best_23 : decode cX9_best 23 = .ok (.ifCond .ne 10, 3) := by decide +kernel
theorem dX9_best_26 : decode cX9_best 26 = .ok (.aload_n 0, 1) := by decide +kernel
theorem dX9_best_27 : decode cX9_best 27 = .ok (.ldc 65, 2) := by decide +kernel
theorem dX9_best_29 : decode cX9_best 29 = .ok (.invokevirtual 66, 3) := by decide +kernel
theorem dX9_best_32 : decode cX9_best 32 = .ok (.ireturn, 1) := by decide +kernel
theorem dX9_best_33 : decode cX9_best 33 = .ok (.aload_n 0, 1) := by decide +kernel
theorem dX9_best_34 : decode cX9_best 34 = .ok (.aload_n 0, 1) := by decide +kernel
theorem dX9_best_35 : decode cX9_best 35 = .ok (.getfield 7, 3) := by decide +kernel
theorem dX9_best_38 : decode cX9_best 38 = .ok (.aload_n 0, 1) := by decide +kernel
theorem dX9_best_39 : decode cX9_best 39 = .ok (.getfield 16, 3) := by decide +kernel
theorem dX9_best_42 : decode cX9_best 42 = .ok (.invokevirtual 174, 3) := by decide +kernel
theorem dX9_best_45 : decode cX9_best 45 = .ok (.iconst 0, 1) := by decide +kernel
theorem dX9_best_46 : decode cX9_best 46 = .ok (.istore 4, 2) := by decide +kernel
theorem dX9_best_48 : decode cX9_best 48 = .ok (.iconst (-1), 1) := by decide +kernel
theorem dX9_best_49 : decode cX9_best 49 = .ok (.istore 5, 2) := by decide +kernel
theorem dX9_best_51 : decode cX9_best 51 = .ok (.iconst 0, 1) := by decide +kernel
theorem dX9_best_52 : decode cX9_best 52 = .ok (.istore 6, 2) := by decide +kernel
theorem dX9_best_54 : decode cX9_best 54 = .ok (.iload 6, 2) := by decide +kernel
theorem dX9_best_56 : decode cX9_best 56 = .ok (.bipush 16, 2) := by decide +kernel
theorem dX9_best_58 : decode cX9_best 58 = .ok (.if_icmp .ge 59, 3) := by decide +kernel
theorem dX9_best_61 : decode cX9_best 61 = .ok (.aload_n 0, 1) := by decide +kernel
theorem dX9_best_62 : decode cX9_best 62 = .ok (.getfield 7, 3) := by decide +kernel
theorem dX9_best_65 : decode cX9_best 65 = .ok (.bipush 41, 2) := by decide +kernel
theorem dX9_best_67 : decode cX9_best 67 = .ok (.iload_n 1, 1) := by decide +kernel
theorem dX9_best_68 : decode cX9_best 68 = .ok (.iadd, 1) := by decide +kernel
theorem dX9_best_69 : decode cX9_best 69 = .ok (.iload 6, 2) := by decide +kernel
theorem dX9_best_71 : decode cX9_best 71 = .ok (.iastore, 1) := by decide +kernel
theorem dX9_best_72 : decode cX9_best 72 = .ok (.aload_n 0, 1) := by decide +kernel
theorem dX9_best_73 : decode cX9_best 73 = .ok (.iload_n 2, 1) := by decide +kernel
theorem dX9_best_74 : decode cX9_best 74 = .ok (.invokevirtual 222, 3) := by decide +kernel
theorem dX9_best_77 : decode cX9_best 77 = .ok (.istore 7, 2) := by decide +kernel
theorem dX9_best_79 : decode cX9_best 79 = .ok (.iload 7, 2) := by decide +kernel
theorem dX9_best_81 : decode cX9_best 81 = .ok (.iload 5, 2) := by decide +kernel
theorem dX9_best_83 : decode cX9_best 83 = .ok (.if_icmp .le 8, 3) := by decide +kernel
theorem dX9_best_86 : decode cX9_best 86 = .ok (.iload 6, 2) := by decide +kernel
theorem dX9_best_88 : decode cX9_best 88 = .ok (.goto 5, 3) := by decide +kernel
theorem dX9_best_91 : decode cX9_best 91 = .ok (.iload 4, 2) := by decide +kernel
theorem dX9_best_93 : decode cX9_best 93 = .ok (.istore 4, 2) := by decide +kernel
theorem dX9_best_95 : decode cX9_best 95 = .ok (.iload 7, 2) := by decide +kernel
theorem dX9_best_97 : decode cX9_best 97 = .ok (.iload 5, 2) := by decide +kernel
theorem dX9_best_99 : decode cX9_best 99 = .ok (.if_icmp .le 8, 3) := by decide +kernel
theorem dX9_best_102 : decode cX9_best 102 = .ok (.iload 7, 2) := by decide +kernel
theorem dX9_best_104 : decode cX9_best 104 = .ok (.goto 5, 3) := by decide +kernel
theorem dX9_best_107 : decode cX9_best 107 = .ok (.iload 5, 2) := by decide +kernel
theorem dX9_best_109 : decode cX9_best 109 = .ok (.istore 5, 2) := by decide +kernel
theorem dX9_best_111 : decode cX9_best 111 = .ok (.iinc 6 1, 3) := by decide +kernel
theorem dX9_best_114 : decode cX9_best 114 = .ok (.goto (-60), 3) := by decide +kernel
theorem dX9_best_117 : decode cX9_best 117 = .ok (.iload_n 3, 1) := by decide +kernel
theorem dX9_best_118 : decode cX9_best 118 = .ok (.ifCond .ne 8, 3) := by decide +kernel
theorem dX9_best_121 : decode cX9_best 121 = .ok (.iload 4, 2) := by decide +kernel
theorem dX9_best_123 : decode cX9_best 123 = .ok (.goto 5, 3) := by decide +kernel
theorem dX9_best_126 : decode cX9_best 126 = .ok (.iload 5, 2) := by decide +kernel
theorem dX9_best_128 : decode cX9_best 128 = .ok (.ireturn, 1) := by decide +kernel
theorem dX9_swap_0 : decode cX9_swap 0 = .ok (.iload_n 1, 1) := by decide +kernel
theorem dX9_swap_1 : decode cX9_swap 1 = .ok (.iconst 0, 1) := by decide +kernel
theorem dX9_swap_2 : decode cX9_swap 2 = .ok (.bipush 20, 2) := by decide +kernel
theorem dX9_swap_4 : decode cX9_swap 4 = .ok (.invokestatic 53, 3) := by decide +kernel
theorem dX9_swap_7 : decode cX9_swap 7 = .ok (.ifCond .ne 10, 3) := by decide +kernel
theorem dX9_swap_10 : decode cX9_swap 10 = .ok (.aload_n 0, 1) := by decide +kernel
theorem dX9_swap_11 : decode cX9_swap 11 = .ok (.ldc 65, 2) := by decide +kernel
theorem dX9_swap_13 : decode cX9_swap 13 = .ok (.invokevirtual 66, 3) := by decide +kernel
theorem dX9_swap_16 : decode cX9_swap 16 = .ok (.ireturn, 1) := by decide +kernel
theorem dX9_swap_17 : decode cX9_swap 17 = .ok (.aload_n 0, 1) := by decide +kernel
theorem dX9_swap_18 : decode cX9_swap 18 = .ok (.aload_n 0, 1) := by decide +kernel
theorem dX9_swap_19 : decode cX9_swap 19 = .ok (.getfield 7, 3) := by decide +kernel
theorem dX9_swap_22 : decode cX9_swap 22 = .ok (.aload_n 0, 1) := by decide +kernel
theorem dX9_swap_23 : decode cX9_swap 23 = .ok (.getfield 16, 3) := by decide +kernel
theorem dX9_swap_26 : decode cX9_swap 26 = .ok (.invokevirtual 174, 3) := by decide +kernel
theorem dX9_swap_29 : decode cX9_swap 29 = .ok (.iconst (-1), 1) := by decide +kernel
theorem dX9_swap_30 : decode cX9_swap 30 = .ok (.istore_n 2, 1) := by decide +kernel
theorem dX9_swap_31 : decode cX9_swap 31 = .ok (.aload_n 0, 1) := by decide +kernel
theorem dX9_swap_32 : decode cX9_swap 32 = .ok (.iload_n 1, 1) := by decide +kernel
theorem dX9_swap_33 : decode cX9_swap 33 = .ok (.invokevirtual 222, 3) := by decide +kernel
theorem dX9_swap_36 : decode cX9_swap 36 = .ok (.istore_n 3, 1) := by decide +kernel
theorem dX9_swap_37 : decode cX9_swap 37 = .ok (.iconst 0, 1) := by decide +kernel
theorem dX9_swap_38 : decode cX9_swap 38 = .ok (.istore 4, 2) := by decide +kernel
theorem dX9_swap_40 : decode cX9_swap 40 = .ok (.iload 4, 2) := by decide +kernel
theorem dX9_swap_42 : decode cX9_swap 42 = .ok (.bipush 6, 2) := by decide +kernel
theorem dX9_swap_44 : decode cX9_swap 44 = .ok (.if_icmp .ge 107, 3) := by decide +kernel
theorem dX9_swap_47 : decode cX9_swap 47 = .ok (.iload 4, 2) := by decide +kernel
theorem dX9_swap_49 : decode cX9_swap 49 = .ok (.iconst 1, 1) := by decide +kernel
theorem dX9_swap_50 : decode cX9_swap 50 = .ok (.iadd, 1) := by decide +kernel
theorem dX9_swap_51 : decode cX9_swap 51 = .ok (.istore 5, 2) := by decide +kernel
theorem dX9_swap_53 : decode cX9_swap 53 = .ok (.iload 5, 2) := by decide +kernel
theorem dX9_swap_55 : decode cX9_swap 55 = .ok (.bipush 6, 2) := by decide +kernel
theorem dX9_swap_57 : decode cX9_swap 57 = .ok (.if_icmp .ge 88, 3) := by decide +kernel
theorem dX9_swap_60 : decode cX9_swap 60 = .ok (.aload_n 0, 1) := by decide +kernel
theorem dX9_swap_61 : decode cX9_swap 61 = .ok (.getfield 7, 3) := by decide +kernel
theorem dX9_swap_64 : decode cX9_swap 64 = .ok (.bipush 41, 2) := by decide +kernel
theorem dX9_swap_66 : decode cX9_swap 66 = .ok (.iload 4, 2) := by decide +kernel
theorem dX9_swap_68 : decode cX9_swap 68 = .ok (.iadd, 1) := by decide +kernel
theorem dX9_swap_69 : decode cX9_swap 69 = .ok (.aload_n 0, 1) := by decide +kernel
theorem dX9_swap_70 : decode cX9_swap 70 = .ok (.getfield 16, 3) := by decide +kernel
theorem dX9_swap_73 : decode cX9_swap 73 = .ok (.bipush 41, 2) := by decide +kernel
theorem dX9_swap_75 : decode cX9_swap 75 = .ok (.iload 5, 2) := by decide +kernel
theorem dX9_swap_77 : decode cX9_swap 77 = .ok (.iadd, 1) := by decide +kernel
theorem dX9_swap_78 : decode cX9_swap 78 = .ok (.iaload, 1) := by decide +kernel
theorem dX9_swap_79 : decode cX9_swap 79 = .ok (.iastore, 1) := by decide +kernel
theorem dX9_swap_80 : decode cX9_swap 80 = .ok (.aload_n 0, 1) := by decide +kernel
theorem dX9_swap_81 : decode cX9_swap 81 = .ok (.getfield 7, 3) := by decide +kernel
theorem dX9_swap_84 : decode cX9_swap 84 = .ok (.bipush 41, 2) := by decide +kernel
theorem dX9_swap_86 : decode cX9_swap 86 = .ok (.iload 5, 2) := by decide +kernel
theorem dX9_swap_88 : decode cX9_swap 88 = .ok (.iadd, 1) := by decide +kernel
theorem dX9_swap_89 : decode cX9_swap 89 = .ok (.aload_n 0, 1) := by decide +kernel
theorem dX9_swap_90 : decode cX9_swap 90 = .ok (.getfield 16, 3) := by decide +kernel
theorem dX9_swap_93 : decode cX9_swap 93 = .ok (.bipush 41, 2) := by decide +kernel
theorem dX9_swap_95 : decode cX9_swap 95 = .ok (.iload 4, 2) := by decide +kernel
theorem dX9_swap_97 : decode cX9_swap 97 = .ok (.iadd, 1) := by decide +kernel
theorem dX9_swap_98 : decode cX9_swap 98 = .ok (.iaload, 1) := by decide +kernel
theorem dX9_swap_99 : decode cX9_swap 99 = .ok (.iastore, 1) := by decide +kernel
theorem dX9_swap_100 : decode cX9_swap 100 = .ok (.aload_n 0, 1) := by decide +kernel
theorem dX9_swap_101 : decode cX9_swap 101 = .ok (.iload_n 1, 1) := by decide +kernel
theorem dX9_swap_102 : decode cX9_swap 102 = .ok (.invokevirtual 222, 3) := by decide +kernel
theorem dX9_swap_105 : decode cX9_swap 105 = .ok (.istore 6, 2) := by decide +kernel
theorem dX9_swap_107 : decode cX9_swap 107 = .ok (.iload 6, 2) := by decide +kernel
theorem dX9_swap_109 : decode cX9_swap 109 = .ok (.iload_n 3, 1) := by decide +kernel
theorem dX9_swap_110 : decode cX9_swap 110 = .ok (.if_icmp .le 14, 3) := by decide +kernel
theorem dX9_swap_113 : decode cX9_swap 113 = .ok (.bipush 10, 2) := by decide +kernel
theorem dX9_swap_115 : decode cX9_swap 115 = .ok (.iload 4, 2) := by decide +kernel
theorem dX9_swap_117 : decode cX9_swap 117 = .ok (.imul, 1) := by decide +kernel
theorem dX9_swap_118 : decode cX9_swap 118 = .ok (.iload 5, 2) := by decide +kernel
theorem dX9_swap_120 : decode cX9_swap 120 = .ok (.iadd, 1) := by decide +kernel
theorem dX9_swap_121 : decode cX9_swap 121 = .ok (.goto 4, 3) := by decide +kernel
theorem dX9_swap_124 : decode cX9_swap 124 = .ok (.iload_n 2, 1) := by decide +kernel
theorem dX9_swap_125 : decode cX9_swap 125 = .ok (.istore_n 2, 1) := by decide +kernel
theorem dX9_swap_126 : decode cX9_swap 126 = .ok (.iload 6, 2) := by decide +kernel
theorem dX9_swap_128 : decode cX9_swap 128 = .ok (.iload_n 3, 1) := by decide +kernel
theorem dX9_swap_129 : decode cX9_swap 129 = .ok (.if_icmp .le 8, 3) := by decide +kernel
theorem dX9_swap_132 : decode cX9_swap 132 = .ok (.iload 6, 2) := by decide +kernel
theorem dX9_swap_134 : decode cX9_swap 134 = .ok (.goto 4, 3) := by decide +kernel
theorem dX9_swap_137 : decode cX9_swap 137 = .ok (.iload_n 3, 1) := by decide +kernel
theorem dX9_swap_138 : decode cX9_swap 138 = .ok (.istore_n 3, 1) := by decide +kernel
theorem dX9_swap_139 : decode cX9_swap 139 = .ok (.iinc 5 1, 3) := by decide +kernel
theorem dX9_swap_142 : decode cX9_swap 142 = .ok (.goto (-89), 3) := by decide +kernel
theorem dX9_swap_145 : decode cX9_swap 145 = .ok (.iinc 4 1, 3) := by decide +kernel
theorem dX9_swap_148 : decode cX9_swap 148 = .ok (.goto (-108), 3) := by decide +kernel
theorem dX9_swap_151 : decode cX9_swap 151 = .ok (.iload_n 2, 1) := by decide +kernel
theorem dX9_swap_152 : decode cX9_swap 152 = .ok (.ireturn, 1) := by decide +kernel
theorem dX9_isSheet_0 : decode cX9_isSheet 0 = .ok (.iload_n 0, 1) := by decide +kernel
theorem dX9_isSheet_1 : decode cX9_isSheet 1 = .ok (.iconst 0, 1) := by decide +kernel
theorem dX9_isSheet_2 : decode cX9_isSheet 2 = .ok (.iconst 3, 1) := by decide +kernel
theorem dX9_isSheet_3 : decode cX9_isSheet 3 = .ok (.invokestatic 53, 3) := by decide +kernel
theorem dX9_isSheet_6 : decode cX9_isSheet 6 = .ok (.ireturn, 1) := by decide +kernel
theorem dX9_leavesSo_0 : decode cX9_leavesSo 0 = .ok (.aload_n 0, 1) := by decide +kernel
theorem dX9_leavesSo_1 : decode cX9_leavesSo 1 = .ok (.getfield 31, 3) := by decide +kernel
theorem dX9_leavesSo_4 : decode cX9_leavesSo 4 = .ok (.iload_n 1, 1) := by decide +kernel
theorem dX9_leavesSo_5 : decode cX9_leavesSo 5 = .ok (.iaload, 1) := by decide +kernel
theorem dX9_leavesSo_6 : decode cX9_leavesSo 6 = .ok (.bipush 6, 2) := by decide +kernel
theorem dX9_leavesSo_8 : decode cX9_leavesSo 8 = .ok (.if_icmp .gt 7, 3) := by decide +kernel
theorem dX9_leavesSo_11 : decode cX9_leavesSo 11 = .ok (.iconst 1, 1) := by decide +kernel
theorem dX9_leavesSo_12 : decode cX9_leavesSo 12 = .ok (.goto 4, 3) := by decide +kernel
theorem dX9_leavesSo_15 : decode cX9_leavesSo 15 = .ok (.iconst 0, 1) := by decide +kernel
theorem dX9_leavesSo_16 : decode cX9_leavesSo 16 = .ok (.istore_n 3, 1) := by decide +kernel
theorem dX9_leavesSo_17 : decode cX9_leavesSo 17 = .ok (.iconst 0, 1) := by decide +kernel
theorem dX9_leavesSo_18 : decode cX9_leavesSo 18 = .ok (.istore 4, 2) := by decide +kernel
theorem dX9_leavesSo_20 : decode cX9_leavesSo 20 = .ok (.iload 4, 2) := by decide +kernel
theorem dX9_leavesSo_22 : decode cX9_leavesSo 22 = .ok (.aload_n 0, 1) := by decide +kernel
theorem dX9_leavesSo_23 : decode cX9_leavesSo 23 = .ok (.getfield 31, 3) := by decide +kernel
theorem dX9_leavesSo_26 : decode cX9_leavesSo 26 = .ok (.iload_n 1, 1) := by decide +kernel
theorem dX9_leavesSo_27 : decode cX9_leavesSo 27 = .ok (.iaload, 1) := by decide +kernel
theorem dX9_leavesSo_28 : decode cX9_leavesSo 28 = .ok (.if_icmp .ge 41, 3) := by decide +kernel
theorem dX9_leavesSo_31 : decode cX9_leavesSo 31 = .ok (.iload_n 3, 1) := by decide +kernel
theorem dX9_leavesSo_32 : decode cX9_leavesSo 32 = .ok (.ifCond .eq 37, 3) := by decide +kernel
theorem dX9_leavesSo_35 : decode cX9_leavesSo 35 = .ok (.aload_n 0, 1) := by decide +kernel
theorem dX9_leavesSo_36 : decode cX9_leavesSo 36 = .ok (.getfield 34, 3) := by decide +kernel
theorem dX9_leavesSo_39 : decode cX9_leavesSo 39 = .ok (.bipush 40, 2) := by decide +kernel
theorem dX9_leavesSo_41 : decode cX9_leavesSo 41 = .ok (.iload_n 1, 1) := by decide +kernel
theorem dX9_leavesSo_42 : decode cX9_leavesSo 42 = .ok (.imul, 1) := by decide +kernel
theorem dX9_leavesSo_43 : decode cX9_leavesSo 43 = .ok (.iload 4, 2) := by decide +kernel
theorem dX9_leavesSo_45 : decode cX9_leavesSo 45 = .ok (.iadd, 1) := by decide +kernel
theorem dX9_leavesSo_46 : decode cX9_leavesSo 46 = .ok (.iaload, 1) := by decide +kernel
theorem dX9_leavesSo_47 : decode cX9_leavesSo 47 = .ok (.aload_n 0, 1) := by decide +kernel
theorem dX9_leavesSo_48 : decode cX9_leavesSo 48 = .ok (.iload_n 2, 1) := by decide +kernel
theorem dX9_leavesSo_49 : decode cX9_leavesSo 49 = .ok (.iload 4, 2) := by decide +kernel
theorem dX9_leavesSo_51 : decode cX9_leavesSo 51 = .ok (.invokevirtual 91, 3) := by decide +kernel
theorem dX9_leavesSo_54 : decode cX9_leavesSo 54 = .ok (.if_icmp .ne 7, 3) := by decide +kernel
theorem dX9_leavesSo_57 : decode cX9_leavesSo 57 = .ok (.iconst 1, 1) := by decide +kernel
theorem dX9_leavesSo_58 : decode cX9_leavesSo 58 = .ok (.goto 4, 3) := by decide +kernel
theorem dX9_leavesSo_61 : decode cX9_leavesSo 61 = .ok (.iconst 0, 1) := by decide +kernel
theorem dX9_leavesSo_62 : decode cX9_leavesSo 62 = .ok (.istore_n 3, 1) := by decide +kernel
theorem dX9_leavesSo_63 : decode cX9_leavesSo 63 = .ok (.iinc 4 1, 3) := by decide +kernel
theorem dX9_leavesSo_66 : decode cX9_leavesSo 66 = .ok (.goto (-46), 3) := by decide +kernel
theorem dX9_leavesSo_69 : decode cX9_leavesSo 69 = .ok (.iload_n 3, 1) := by decide +kernel
theorem dX9_leavesSo_70 : decode cX9_leavesSo 70 = .ok (.ireturn, 1) := by decide +kernel
theorem dX9_whose_0 : decode cX9_whose 0 = .ok (.iload_n 1, 1) := by decide +kernel
theorem dX9_whose_1 : decode cX9_whose 1 = .ok (.invokestatic 225, 3) := by decide +kernel
theorem dX9_whose_4 : decode cX9_whose 4 = .ok (.ifCond .eq 20, 3) := by decide +kernel
theorem dX9_whose_7 : decode cX9_whose 7 = .ok (.aload_n 0, 1) := by decide +kernel
theorem dX9_whose_8 : decode cX9_whose 8 = .ok (.iload_n 2, 1) := by decide +kernel
theorem dX9_whose_9 : decode cX9_whose 9 = .ok (.invokevirtual 82, 3) := by decide +kernel
theorem dX9_whose_12 : decode cX9_whose 12 = .ok (.ifCond .eq 12, 3) := by decide +kernel
theorem dX9_whose_15 : decode cX9_whose 15 = .ok (.iload_n 3, 1) := by decide +kernel
theorem dX9_whose_16 : decode cX9_whose 16 = .ok (.iconst 0, 1) := by decide +kernel
theorem dX9_whose_17 : decode cX9_whose 17 = .ok (.iconst 1, 1) := by decide +kernel
theorem dX9_whose_18 : decode cX9_whose 18 = .ok (.invokestatic 53, 3) := by decide +kernel
theorem dX9_whose_21 : decode cX9_whose 21 = .ok (.ifCond .ne 10, 3) := by decide +kernel
theorem dX9_whose_24 : decode cX9_whose 24 = .ok (.aload_n 0, 1) := by decide +kernel
theorem dX9_whose_25 : decode cX9_whose 25 = .ok (.ldc 65, 2) := by decide +kernel
theorem dX9_whose_27 : decode cX9_whose 27 = .ok (.invokevirtual 66, 3) := by decide +kernel
