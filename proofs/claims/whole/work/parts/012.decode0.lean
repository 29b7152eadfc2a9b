theorem dX0_init_0 : decode cX0_init 0 = .ok (.aload_n 0, 1) := by decide +kernel
theorem dX0_init_1 : decode cX0_init 1 = .ok (.invokespecial 1, 3) := by decide +kernel
theorem dX0_init_4 : decode cX0_init 4 = .ok (.aload_n 0, 1) := by decide +kernel
theorem dX0_init_5 : decode cX0_init 5 = .ok (.bipush 16, 2) := by decide +kernel
theorem dX0_init_7 : decode cX0_init 7 = .ok (.newarray .int, 2) := by decide +kernel
theorem dX0_init_9 : decode cX0_init 9 = .ok (.putfield 9, 3) := by decide +kernel
theorem dX0_init_12 : decode cX0_init 12 = .ok (.aload_n 0, 1) := by decide +kernel
theorem dX0_init_13 : decode cX0_init 13 = .ok (.bipush 16, 2) := by decide +kernel
theorem dX0_init_15 : decode cX0_init 15 = .ok (.newarray .int, 2) := by decide +kernel
theorem dX0_init_17 : decode cX0_init 17 = .ok (.putfield 13, 3) := by decide +kernel
theorem dX0_init_20 : decode cX0_init 20 = .ok (.aload_n 0, 1) := by decide +kernel
theorem dX0_init_21 : decode cX0_init 21 = .ok (.bipush 6, 2) := by decide +kernel
theorem dX0_init_23 : decode cX0_init 23 = .ok (.newarray .int, 2) := by decide +kernel
theorem dX0_init_25 : decode cX0_init 25 = .ok (.putfield 16, 3) := by decide +kernel
theorem dX0_init_28 : decode cX0_init 28 = .ok (.aload_n 0, 1) := by decide +kernel
theorem dX0_init_29 : decode cX0_init 29 = .ok (.bipush 8, 2) := by decide +kernel
theorem dX0_init_31 : decode cX0_init 31 = .ok (.newarray .int, 2) := by decide +kernel
theorem dX0_init_33 : decode cX0_init 33 = .ok (.putfield 19, 3) := by decide +kernel
theorem dX0_init_36 : decode cX0_init 36 = .ok (.aload_n 0, 1) := by decide +kernel
theorem dX0_init_37 : decode cX0_init 37 = .ok (.bipush 8, 2) := by decide +kernel
theorem dX0_init_39 : decode cX0_init 39 = .ok (.newarray .int, 2) := by decide +kernel
theorem dX0_init_41 : decode cX0_init 41 = .ok (.putfield 22, 3) := by decide +kernel
theorem dX0_init_44 : decode cX0_init 44 = .ok (.aload_n 0, 1) := by decide +kernel
theorem dX0_init_45 : decode cX0_init 45 = .ok (.bipush 8, 2) := by decide +kernel
theorem dX0_init_47 : decode cX0_init 47 = .ok (.newarray .int, 2) := by decide +kernel
theorem dX0_init_49 : decode cX0_init 49 = .ok (.putfield 25, 3) := by decide +kernel
theorem dX0_init_52 : decode cX0_init 52 = .ok (.aload_n 0, 1) := by decide +kernel
theorem dX0_init_53 : decode cX0_init 53 = .ok (.bipush 8, 2) := by decide +kernel
theorem dX0_init_55 : decode cX0_init 55 = .ok (.newarray .int, 2) := by decide +kernel
theorem dX0_init_57 : decode cX0_init 57 = .ok (.putfield 28, 3) := by decide +kernel
theorem dX0_init_60 : decode cX0_init 60 = .ok (.aload_n 0, 1) := by decide +kernel
theorem dX0_init_61 : decode cX0_init 61 = .ok (.bipush 8, 2) := by decide +kernel
theorem dX0_init_63 : decode cX0_init 63 = .ok (.newarray .int, 2) := by decide +kernel
theorem dX0_init_65 : decode cX0_init 65 = .ok (.putfield 31, 3) := by decide +kernel
theorem dX0_init_68 : decode cX0_init 68 = .ok (.aload_n 0, 1) := by decide +kernel
theorem dX0_init_69 : decode cX0_init 69 = .ok (.bipush 8, 2) := by decide +kernel
theorem dX0_init_71 : decode cX0_init 71 = .ok (.newarray .int, 2) := by decide +kernel
theorem dX0_init_73 : decode cX0_init 73 = .ok (.putfield 34, 3) := by decide +kernel
theorem dX0_init_76 : decode cX0_init 76 = .ok (.aload_n 0, 1) := by decide +kernel
theorem dX0_init_77 : decode cX0_init 77 = .ok (.bipush 12, 2) := by decide +kernel
theorem dX0_init_79 : decode cX0_init 79 = .ok (.putfield 37, 3) := by decide +kernel
theorem dX0_init_82 : decode cX0_init 82 = .ok (.aload_n 0, 1) := by decide +kernel
theorem dX0_init_83 : decode cX0_init 83 = .ok (.iconst 0, 1) := by decide +kernel
theorem dX0_init_84 : decode cX0_init 84 = .ok (.putfield 41, 3) := by decide +kernel
theorem dX0_init_87 : decode cX0_init 87 = .ok (.aload_n 0, 1) := by decide +kernel
theorem dX0_init_88 : decode cX0_init 88 = .ok (.iconst 0, 1) := by decide +kernel
theorem dX0_init_89 : decode cX0_init 89 = .ok (.putfield 44, 3) := by decide +kernel
theorem dX0_init_92 : decode cX0_init 92 = .ok (.aload_n 0, 1) := by decide +kernel
theorem dX0_init_93 : decode cX0_init 93 = .ok (.iconst 0, 1) := by decide +kernel
theorem dX0_init_94 : decode cX0_init 94 = .ok (.putfield 47, 3) := by decide +kernel
theorem dX0_init_97 : decode cX0_init 97 = .ok (.iconst 0, 1) := by decide +kernel
theorem dX0_init_98 : decode cX0_init 98 = .ok (.istore_n 1, 1) := by decide +kernel
theorem dX0_init_99 : decode cX0_init 99 = .ok (.iload_n 1, 1) := by decide +kernel
theorem dX0_init_100 : decode cX0_init 100 = .ok (.bipush 16, 2) := by decide +kernel
theorem dX0_init_102 : decode cX0_init 102 = .ok (.if_icmp .ge 26, 3) := by decide +kernel
theorem dX0_init_105 : decode cX0_init 105 = .ok (.aload_n 0, 1) := by decide +kernel
theorem dX0_init_106 : decode cX0_init 106 = .ok (.getfield 9, 3) := by decide +kernel
theorem dX0_init_109 : decode cX0_init 109 = .ok (.iload_n 1, 1) := by decide +kernel
theorem dX0_init_110 : decode cX0_init 110 = .ok (.iload_n 1, 1) := by decide +kernel
theorem dX0_init_111 : decode cX0_init 111 = .ok (.bipush 10, 2) := by decide +kernel
theorem dX0_init_113 : decode cX0_init 113 = .ok (.irem, 1) := by decide +kernel
theorem dX0_init_114 : decode cX0_init 114 = .ok (.iastore, 1) := by decide +kernel
theorem dX0_init_115 : decode cX0_init 115 = .ok (.aload_n 0, 1) := by decide +kernel
theorem dX0_init_116 : decode cX0_init 116 = .ok (.getfield 13, 3) := by decide +kernel
theorem dX0_init_119 : decode cX0_init 119 = .ok (.iload_n 1, 1) := by decide +kernel
theorem dX0_init_120 : decode cX0_init 120 = .ok (.iconst 3, 1) := by decide +kernel
theorem dX0_init_121 : decode cX0_init 121 = .ok (.iastore, 1) := by decide +kernel
theorem dX0_init_122 : decode cX0_init 122 = .ok (.iinc 1 1, 3) := by decide +kernel
theorem dX0_init_125 : decode cX0_init 125 = .ok (.goto (-26), 3) := by decide +kernel
theorem dX0_init_128 : decode cX0_init 128 = .ok (.iconst 0, 1) := by decide +kernel
theorem dX0_init_129 : decode cX0_init 129 = .ok (.istore_n 1, 1) := by decide +kernel
theorem dX0_init_130 : decode cX0_init 130 = .ok (.iload_n 1, 1) := by decide +kernel
theorem dX0_init_131 : decode cX0_init 131 = .ok (.bipush 6, 2) := by decide +kernel
theorem dX0_init_133 : decode cX0_init 133 = .ok (.if_icmp .ge 16, 3) := by decide +kernel
theorem dX0_init_136 : decode cX0_init 136 = .ok (.aload_n 0, 1) := by decide +kernel
theorem dX0_init_137 : decode cX0_init 137 = .ok (.getfield 16, 3) := by decide +kernel
theorem dX0_init_140 : decode cX0_init 140 = .ok (.iload_n 1, 1) := by decide +kernel
theorem dX0_init_141 : decode cX0_init 141 = .ok (.iload_n 1, 1) := by decide +kernel
theorem dX0_init_142 : decode cX0_init 142 = .ok (.iastore, 1) := by decide +kernel
theorem dX0_init_143 : decode cX0_init 143 = .ok (.iinc 1 1, 3) := by decide +kernel
theorem dX0_init_146 : decode cX0_init 146 = .ok (.goto (-16), 3) := by decide +kernel
theorem dX0_init_149 : decode cX0_init 149 = .ok (.return_, 1) := by decide +kernel
theorem dX0_copyFrom_0 : decode cX0_copyFrom 0 = .ok (.aload_n 1, 1) := by decide +kernel
theorem dX0_copyFrom_1 : decode cX0_copyFrom 1 = .ok (.getfield 9, 3) := by decide +kernel
theorem dX0_copyFrom_4 : decode cX0_copyFrom 4 = .ok (.iconst 0, 1) := by decide +kernel
theorem dX0_copyFrom_5 : decode cX0_copyFrom 5 = .ok (.aload_n 0, 1) := by decide +kernel
theorem dX0_copyFrom_6 : decode cX0_copyFrom 6 = .ok (.getfield 9, 3) := by decide +kernel
theorem dX0_copyFrom_9 : decode cX0_copyFrom 9 = .ok (.iconst 0, 1) := by decide +kernel
theorem dX0_copyFrom_10 : decode cX0_copyFrom 10 = .ok (.bipush 16, 2) := by decide +kernel
theorem dX0_copyFrom_12 : decode cX0_copyFrom 12 = .ok (.invokestatic 50, 3) := by decide +kernel
theorem dX0_copyFrom_15 : decode cX0_copyFrom 15 = .ok (.aload_n 1, 1) := by decide +kernel
theorem dX0_copyFrom_16 : decode cX0_copyFrom 16 = .ok (.getfield 13, 3) := by decide +kernel
theorem dX0_copyFrom_19 : decode cX0_copyFrom 19 = .ok (.iconst 0, 1) := by decide +kernel
theorem dX0_copyFrom_20 : decode cX0_copyFrom 20 = .ok (.aload_n 0, 1) := by decide +kernel
theorem dX0_copyFrom_21 : decode cX0_copyFrom 21 = .ok (.getfield 13, 3) := by decide +kernel
theorem dX0_copyFrom_24 : decode cX0_copyFrom 24 = .ok (.iconst 0, 1) := by decide +kernel
theorem dX0_copyFrom_25 : decode cX0_copyFrom 25 = .ok (.bipush 16, 2) := by decide +kernel
theorem dX0_copyFrom_27 : decode cX0_copyFrom 27 = .ok (.invokestatic 50, 3) := by decide +kernel
theorem dX0_copyFrom_30 : decode cX0_copyFrom 30 = .ok (.aload_n 1, 1) := by decide +kernel
theorem dX0_copyFrom_31 : decode cX0_copyFrom 31 = .ok (.getfield 16, 3) := by decide +kernel
theorem dX0_copyFrom_34 : decode cX0_copyFrom 34 = .ok (.iconst 0, 1) := by decide +kernel
theorem dX0_copyFrom_35 : decode cX0_copyFrom 35 = .ok (.aload_n 0, 1) := by decide +kernel
theorem dX0_copyFrom_36 : decode cX0_copyFrom 36 = .ok (.getfield 16, 3) := by decide +kernel
theorem dX0_copyFrom_39 : decode cX0_copyFrom 39 = .ok (.iconst 0, 1) := by decide +kernel
theorem dX0_copyFrom_40 : decode cX0_copyFrom 40 = .ok (.bipush 6, 2) := by decide +kernel
theorem dX0_copyFrom_42 : decode cX0_copyFrom 42 = .ok (.invokestatic 50, 3) := by decide +kernel
theorem dX0_copyFrom_45 : decode cX0_copyFrom 45 = .ok (.aload_n 1, 1) := by decide +kernel
theorem dX0_copyFrom_46 : decode cX0_copyFrom 46 = .ok (.getfield 19, 3) := by decide +kernel
theorem dX0_copyFrom_49 : decode cX0_copyFrom 49 = .ok (.iconst 0, 1) := by decide +kernel
theorem dX0_copyFrom_50 : decode cX0_copyFrom 50 = .ok (.aload_n 0, 1) := by decide +kernel
theorem dX0_copyFrom_51 : decode cX0_copyFrom 51 = .ok (.getfield 19, 3) := by decide +kernel
theorem dX0_copyFrom_54 : decode cX0_copyFrom 54 = .ok (.iconst 0, 1) := by decide +kernel
theorem dX0_copyFrom_55 : decode cX0_copyFrom 55 = .ok (.bipush 8, 2) := by decide +kernel
theorem dX0_copyFrom_57 : decode cX0_copyFrom 57 = .ok (.invokestatic 50, 3) := by decide +kernel
theorem dX0_copyFrom_60 : decode cX0_copyFrom 60 = .ok (.aload_n 1, 1) := by decide +kernel
theorem dX0_copyFrom_61 : decode cX0_copyFrom 61 = .ok (.getfield 22, 3) := by decide +kernel
theorem dX0_copyFrom_64 : decode cX0_copyFrom 64 = .ok (.iconst 0, 1) := by decide +kernel
theorem dX0_copyFrom_65 : decode cX0_copyFrom 65 = .ok (.aload_n 0, 1) := by decide +kernel
theorem dX0_copyFrom_66 : decode cX0_copyFrom 66 = .ok (.getfield 22, 3) := by decide +kernel
theorem dX0_copyFrom_69 : decode cX0_copyFrom 69 = .ok (.iconst 0, 1) := by decide +kernel
theorem dX0_copyFrom_70 : decode cX0_copyFrom 70 = .ok (.bipush 8, 2) := by decide +kernel
theorem dX0_copyFrom_72 : decode cX0_copyFrom 72 = .ok (.invokestatic 50, 3) := by decide +kernel
theorem dX0_copyFrom_75 : decode cX0_copyFrom 75 = .ok (.aload_n 1, 1) := by decide +kernel
theorem dX0_copyFrom_76 : decode cX0_copyFrom 76 = .ok (.getfield 25, 3) := by decide +kernel
theorem dX0_copyFrom_79 : decode cX0_copyFrom 79 = .ok (.iconst 0, 1) := by decide +kernel
theorem dX0_copyFrom_80 : decode cX0_copyFrom 80 = .ok (.aload_n 0, 1) := by decide +kernel
theorem dX0_copyFrom_81 : decode cX0_copyFrom 81 = .ok (.getfield 25, 3) := by decide +kernel
theorem dX0_copyFrom_84 : decode cX0_copyFrom 84 = .ok (.iconst 0, 1) := by decide +kernel
theorem dX0_copyFrom_85 : decode cX0_copyFrom 85 = .ok (.bipush 8, 2) := by decide +kernel
theorem dX0_copyFrom_87 : decode cX0_copyFrom 87 = .ok (.invokestatic 50, 3) := by decide +kernel
theorem dX0_copyFrom_90 : decode cX0_copyFrom 90 = .ok (.aload_n 1, 1) := by decide +kernel
theorem dX0_copyFrom_91 : decode cX0_copyFrom 91 = .ok (.getfield 28, 3) := by decide +kernel
theorem dX0_copyFrom_94 : decode cX0_copyFrom 94 = .ok (.iconst 0, 1) := by decide +kernel
theorem dX0_copyFrom_95 : decode cX0_copyFrom 95 = .ok (.aload_n 0, 1) := by decide +kernel
theorem dX0_copyFrom_96 : decode cX0_copyFrom 96 = .ok (.getfield 28, 3) := by decide +kernel
theorem dX0_copyFrom_99 : decode cX0_copyFrom 99 = .ok (.iconst 0, 1) := by decide +kernel
theorem dX0_copyFrom_100 : decode cX0_copyFrom 100 = .ok (.bipush 8, 2) := by decide +kernel
theorem dX0_copyFrom_102 : decode cX0_copyFrom 102 = .ok (.invokestatic 50, 3) := by decide +kernel
theorem dX0_copyFrom_105 : decode cX0_copyFrom 105 = .ok (.aload_n 1, 1) := by decide +kernel
theorem dX0_copyFrom_106 : decode cX0_copyFrom 106 = .ok (.getfield 31, 3) := by decide +kernel
theorem dX0_copyFrom_109 : decode cX0_copyFrom 109 = .ok (.iconst 0, 1) := by decide +kernel
theorem dX0_copyFrom_110 : decode cX0_copyFrom 110 = .ok (.aload_n 0, 1) := by decide +kernel
theorem dX0_copyFrom_111 : decode cX0_copyFrom 111 = .ok (.getfield 31, 3) := by decide +kernel
theorem dX0_copyFrom_114 : decode cX0_copyFrom 114 = .ok (.iconst 0, 1) := by decide +kernel
theorem dX0_copyFrom_115 : decode cX0_copyFrom 115 = .ok (.bipush 8, 2) := by decide +kernel
theorem dX0_copyFrom_117 : decode cX0_copyFrom 117 = .ok (.invokestatic 50, 3) := by decide +kernel
theorem dX0_copyFrom_120 : decode cX0_copyFrom 120 = .ok (.aload_n 0, 1) := by decide +kernel
theorem dX0_copyFrom_121 : decode cX0_copyFrom 121 = .ok (.aload_n 1, 1) := by decide +kernel
theorem dX0_copyFrom_122 : decode cX0_copyFrom 122 = .ok (.getfield 37, 3) := by decide +kernel
theorem dX0_copyFrom_125 : decode cX0_copyFrom 125 = .ok (.putfield 37, 3) := by decide +kernel
theorem dX0_copyFrom_128 : decode cX0_copyFrom 128 = .ok (.aload_n 0, 1) := by decide +kernel
theorem dX0_copyFrom_129 : decode cX0_copyFrom 129 = .ok (.aload_n 1, 1) := by decide +kernel
theorem dX0_copyFrom_130 : decode cX0_copyFrom 130 = .ok (.getfield 41, 3) := by decide +kernel
theorem dX0_copyFrom_133 : decode cX0_copyFrom 133 = .ok (.putfield 41, 3) := by decide +kernel
theorem dX0_copyFrom_136 : decode cX0_copyFrom 136 = .ok (.aload_n 0, 1) := by decide +kernel
theorem dX0_copyFrom_137 : decode cX0_copyFrom 137 = .ok (.aload_n 1, 1) := by decide +kernel
theorem dX0_copyFrom_138 : decode cX0_copyFrom 138 = .ok (.getfield 44, 3) := by decide +kernel
theorem dX0_copyFrom_141 : decode cX0_copyFrom 141 = .ok (.putfield 44, 3) := by decide +kernel
theorem dX0_copyFrom_144 : decode cX0_copyFrom 144 = .ok (.aload_n 0, 1) := by decide +kernel
theorem dX0_copyFrom_145 : decode cX0_copyFrom 145 = .ok (.aload_n 1, 1) := by decide +kernel
theorem dX0_copyFrom_146 : decode cX0_copyFrom 146 = .ok (.getfield 47, 3) := by decide +kernel
theorem dX0_copyFrom_149 : decode cX0_copyFrom 149 = .ok (.putfield 47, 3) := by decide +kernel
theorem dX0_copyFrom_152 : decode cX0_copyFrom 152 = .ok (.return_, 1) := by decide +kernel
theorem dX0_seat_0 : decode cX0_seat 0 = .ok (.aload_n 0, 1) := by decide +kernel
theorem dX0_seat_1 : decode cX0_seat 1 = .ok (.getfield 47, 3) := by decide +kernel
theorem dX0_seat_4 : decode cX0_seat 4 = .ok (.istore 4, 2) := by decide +kernel
theorem dX0_seat_6 : decode cX0_seat 6 = .ok (.aload_n 0, 1) := by decide +kernel
theorem dX0_seat_7 : decode cX0_seat 7 = .ok (.getfield 19, 3) := by decide +kernel
theorem dX0_seat_10 : decode cX0_seat 10 = .ok (.iload 4, 2) := by decide +kernel
theorem dX0_seat_12 : decode cX0_seat 12 = .ok (.iload_n 1, 1) := by decide +kernel
theorem dX0_seat_13 : decode cX0_seat 13 = .ok (.iastore, 1) := by decide +kernel
theorem dX0_seat_14 : decode cX0_seat 14 = .ok (.aload_n 0, 1) := by decide +kernel
theorem dX0_seat_15 : decode cX0_seat 15 = .ok (.getfield 22, 3) := by decide +kernel
theorem dX0_seat_18 : decode cX0_seat 18 = .ok (.iload 4, 2) := by decide +kernel
theorem dX0_seat_20 : decode cX0_seat 20 = .ok (.iload_n 2, 1) := by decide +kernel
theorem dX0_seat_21 : decode cX0_seat 21 = .ok (.iastore, 1) := by decide +kernel
theorem dX0_seat_22 : decode cX0_seat 22 = .ok (.aload_n 0, 1) := by decide +kernel
theorem dX0_seat_23 : decode cX0_seat 23 = .ok (.getfield 25, 3) := by decide +kernel
theorem dX0_seat_26 : decode cX0_seat 26 = .ok (.iload 4, 2) := by decide +kernel
theorem dX0_seat_28 : decode cX0_seat 28 = .ok (.iload_n 3, 1) := by decide +kernel
theorem dX0_seat_29 : decode cX0_seat 29 = .ok (.iastore, 1) := by decide +kernel
theorem dX0_seat_30 : decode cX0_seat 30 = .ok (.aload_n 0, 1) := by decide +kernel
theorem dX0_seat_31 : decode cX0_seat 31 = .ok (.getfield 28, 3) := by decide +kernel
theorem dX0_seat_34 : decode cX0_seat 34 = .ok (.iload 4, 2) := by decide +kernel
theorem dX0_seat_36 : decode cX0_seat 36 = .ok (.iload 4, 2) := by decide +kernel
theorem dX0_seat_38 : decode cX0_seat 38 = .ok (.iastore, 1) := by decide +kernel
theorem dX0_seat_39 : decode cX0_seat 39 = .ok (.aload_n 0, 1) := by decide +kernel
theorem dX0_seat_40 : decode cX0_seat 40 = .ok (.getfield 31, 3) := by decide +kernel
theorem dX0_seat_43 : decode cX0_seat 43 = .ok (.iload 4, 2) := by decide +kernel
theorem dX0_seat_45 : decode cX0_seat 45 = .ok (.iconst 0, 1) := by decide +kernel
theorem dX0_seat_46 : decode cX0_seat 46 = .ok (.iastore, 1) := by decide +kernel
theorem dX0_seat_47 : decode cX0_seat 47 = .ok (.aload_n 0, 1) := by decide +kernel
theorem dX0_seat_48 : decode cX0_seat 48 = .ok (.dup, 1) := by decide +kernel
theorem dX0_seat_49 : decode cX0_seat 49 = .ok (.getfield 47, 3) := by decide +kernel
theorem dX0_seat_52 : decode cX0_seat 52 = .ok (.iconst 1, 1) := by decide +kernel
theorem dX0_seat_53 : decode cX0_seat 53 = .ok (.iadd, 1) := by decide +kernel
theorem dX0_seat_54 : decode cX0_seat 54 = .ok (.putfield 47, 3) := by decide +kernel
theorem dX0_seat_57 : decode cX0_seat 57 = .ok (.iload 4, 2) := by decide +kernel
theorem dX0_seat_59 : decode cX0_seat 59 = .ok (.ireturn, 1) := by decide +kernel
theorem dX0_coursesOf_0 : decode cX0_coursesOf 0 = .ok (.iconst 0, 1) := by decide +kernel
theorem dX0_coursesOf_1 : decode cX0_coursesOf 1 = .ok (.istore_n 2, 1) := by decide +kernel
theorem dX0_coursesOf_2 : decode cX0_coursesOf 2 = .ok (.iconst 0, 1) := by decide +kernel
theorem dX0_coursesOf_3 : decode cX0_coursesOf 3 = .ok (.istore_n 3, 1) := by decide +kernel
theorem dX0_coursesOf_4 : decode cX0_coursesOf 4 = .ok (.iload_n 3, 1) := by decide +kernel
theorem dX0_coursesOf_5 : decode cX0_coursesOf 5 = .ok (.bipush 6, 2) := by decide +kernel
theorem dX0_coursesOf_7 : decode cX0_coursesOf 7 = .ok (.if_icmp .ge 25, 3) := by decide +kernel
theorem dX0_coursesOf_10 : decode cX0_coursesOf 10 = .ok (.aload_n 0, 1) := by decide +kernel
theorem dX0_coursesOf_11 : decode cX0_coursesOf 11 = .ok (.getfield 16, 3) := by decide +kernel
theorem dX0_coursesOf_14 : decode cX0_coursesOf 14 = .ok (.iload_n 3, 1) := by decide +kernel
theorem dX0_coursesOf_15 : decode cX0_coursesOf 15 = .ok (.iaload, 1) := by decide +kernel
theorem dX0_coursesOf_16 : decode cX0_coursesOf 16 = .ok (.iload_n 1, 1) := by decide +kernel
theorem dX0_coursesOf_17 : decode cX0_coursesOf 17 = .ok (.if_icmp .ne 9, 3) := by decide +kernel
theorem dX0_coursesOf_20 : decode cX0_coursesOf 20 = .ok (.iload_n 2, 1) := by decide +kernel
theorem dX0_coursesOf_21 : decode cX0_coursesOf 21 = .ok (.iconst 1, 1) := by decide +kernel
theorem dX0_coursesOf_22 : decode cX0_coursesOf 22 = .ok (.iload_n 3, 1) := by decide +kernel
theorem dX0_coursesOf_23 : decode cX0_coursesOf 23 = .ok (.ishl, 1) := by decide +kernel
theorem dX0_coursesOf_24 : decode cX0_coursesOf 24 = .ok (.ior, 1) := by decide +kernel
theorem dX0_coursesOf_25 : decode cX0_coursesOf 25 = .ok (.istore_n 2, 1) := by decide +kernel
theorem dX0_coursesOf_26 : decode cX0_coursesOf 26 = .ok (.iinc 3 1, 3) := by decide +kernel
theorem dX0_coursesOf_29 : decode cX0_coursesOf 29 = .ok (.goto (-25), 3) := by decide +kernel
theorem dX0_coursesOf_32 : decode cX0_coursesOf 32 = .ok (.iload_n 2, 1) := by decide +kernel
theorem dX0_coursesOf_33 : decode cX0_coursesOf 33 = .ok (.ireturn, 1) := by decide +kernel
theorem dX0_mendsOf_0 : decode cX0_mendsOf 0 = .ok (.aload_n 0, 1) := by decide +kernel
theorem dX0_mendsOf_1 : decode cX0_mendsOf 1 = .ok (.getfield 19, 3) := by decide +kernel
theorem dX0_mendsOf_4 : decode cX0_mendsOf 4 = .ok (.iload_n 1, 1) := by decide +kernel
theorem dX0_mendsOf_5 : decode cX0_mendsOf 5 = .ok (.iaload, 1) := by decide +kernel
theorem dX0_mendsOf_6 : decode cX0_mendsOf 6 = .ok (.aload_n 0, 1) := by decide +kernel
theorem dX0_mendsOf_7 : decode cX0_mendsOf 7 = .ok (.getfield 22, 3) := by decide +kernel
theorem dX0_mendsOf_10 : decode cX0_mendsOf 10 = .ok (.iload_n 1, 1) := by decide +kernel
theorem dX0_mendsOf_11 : decode cX0_mendsOf 11 = .ok (.iaload, 1) := by decide +kernel
theorem dX0_mendsOf_12 : decode cX0_mendsOf 12 = .ok (.aload_n 0, 1) := by decide +kernel
theorem dX0_mendsOf_13 : decode cX0_mendsOf 13 = .ok (.getfield 44, 3) := by decide +kernel
theorem dX0_mendsOf_16 : decode cX0_mendsOf 16 = .ok (.invokestatic 56, 3) := by decide +kernel
theorem dX0_mendsOf_19 : decode cX0_mendsOf 19 = .ok (.ireturn, 1) := by decide +kernel
theorem dX0_leftOf_0 : decode cX0_leftOf 0 = .ok (.aload_n 0, 1) := by decide +kernel
theorem dX0_leftOf_1 : decode cX0_leftOf 1 = .ok (.getfield 9, 3) := by decide +kernel
theorem dX0_leftOf_4 : decode cX0_leftOf 4 = .ok (.aload_n 0, 1) := by decide +kernel
theorem dX0_leftOf_5 : decode cX0_leftOf 5 = .ok (.getfield 16, 3) := by decide +kernel
theorem dX0_leftOf_8 : decode cX0_leftOf 8 = .ok (.iload_n 2, 1) := by decide +kernel
theorem dX0_leftOf_9 : decode cX0_leftOf 9 = .ok (.iaload, 1) := by decide +kernel
theorem dX0_leftOf_10 : decode cX0_leftOf 10 = .ok (.iaload, 1) := by decide +kernel
theorem dX0_leftOf_11 : decode cX0_leftOf 11 = .ok (.istore 4, 2) := by decide +kernel
theorem dX0_leftOf_13 : decode cX0_leftOf 13 = .ok (.aload_n 0, 1) := by decide +kernel
theorem dX0_leftOf_14 : decode cX0_leftOf 14 = .ok (.getfield 25, 3) := by decide +kernel
theorem dX0_leftOf_17 : decode cX0_leftOf 17 = .ok (.iload_n 3, 1) := by decide +kernel
theorem dX0_leftOf_18 : decode cX0_leftOf 18 = .ok (.iaload, 1) := by decide +kernel
theorem dX0_leftOf_19 : decode cX0_leftOf 19 = .ok (.istore 5, 2) := by decide +kernel
theorem dX0_leftOf_21 : decode cX0_leftOf 21 = .ok (.aload_n 0, 1) := by decide +kernel
theorem dX0_leftOf_22 : decode cX0_leftOf 22 = .ok (.getfield 19, 3) := by decide +kernel
theorem dX0_leftOf_25 : decode cX0_leftOf 25 = .ok (.iload_n 3, 1) := by decide +kernel
theorem dX0_leftOf_26 : decode cX0_leftOf 26 = .ok (.iaload, 1) := by decide +kernel
theorem dX0_leftOf_27 : decode cX0_leftOf 27 = .ok (.aload_n 0, 1) := by decide +kernel
theorem dX0_leftOf_28 : decode cX0_leftOf 28 = .ok (.getfield 22, 3) := by decide +kernel
theorem dX0_leftOf_31 : decode cX0_leftOf 31 = .ok (.iload_n 3, 1) := by decide +kernel
theorem dX0_leftOf_32 : decode cX0_leftOf 32 = .ok (.iaload, 1) := by decide +kernel
theorem dX0_leftOf_33 : decode cX0_leftOf 33 = .ok (.iload 4, 2) := by decide +kernel
theorem dX0_leftOf_35 : decode cX0_leftOf 35 = .ok (.aload_n 0, 1) := by decide +kernel
theorem dX0_leftOf_36 : decode cX0_leftOf 36 = .ok (.getfield 13, 3) := by decide +kernel
theorem dX0_leftOf_39 : decode cX0_leftOf 39 = .ok (.aload_n 0, 1) := by decide +kernel
theorem dX0_leftOf_40 : decode cX0_leftOf 40 = .ok (.getfield 16, 3) := by decide +kernel
theorem dX0_leftOf_43 : decode cX0_leftOf 43 = .ok (.iload_n 2, 1) := by decide +kernel
theorem dX0_leftOf_44 : decode cX0_leftOf 44 = .ok (.iaload, 1) := by decide +kernel
theorem dX0_leftOf_45 : decode cX0_leftOf 45 = .ok (.iaload, 1) := by decide +kernel
theorem dX0_leftOf_46 : decode cX0_leftOf 46 = .ok (.iload 5, 2) := by decide +kernel
theorem dX0_leftOf_48 : decode cX0_leftOf 48 = .ok (.aload_n 0, 1) := by decide +kernel
theorem dX0_leftOf_49 : decode cX0_leftOf 49 = .ok (.getfield 44, 3) := by decide +kernel
theorem dX0_leftOf_52 : decode cX0_leftOf 52 = .ok (.invokestatic 62, 3) := by decide +kernel
theorem dX0_leftOf_55 : decode cX0_leftOf 55 = .ok (.istore 6, 2) := by decide +kernel
theorem dX0_leftOf_57 : decode cX0_leftOf 57 = .ok (.aload_n 1, 1) := by decide +kernel
theorem dX0_leftOf_58 : decode cX0_leftOf 58 = .ok (.iconst 0, 1) := by decide +kernel
theorem dX0_leftOf_59 : decode cX0_leftOf 59 = .ok (.iload 6, 2) := by decide +kernel
theorem dX0_leftOf_61 : decode cX0_leftOf 61 = .ok (.iload 4, 2) := by decide +kernel
theorem dX0_leftOf_63 : decode cX0_leftOf 63 = .ok (.iload 5, 2) := by decide +kernel
theorem dX0_leftOf_65 : decode cX0_leftOf 65 = .ok (.invokevirtual 68, 3) := by decide +kernel
theorem dX0_leftOf_68 : decode cX0_leftOf 68 = .ok (.ireturn, 1) := by decide +kernel
theorem dX0_tasteOf_0 : decode cX0_tasteOf 0 = .ok (.aload_n 1, 1) := by decide +kernel
theorem dX0_tasteOf_1 : decode cX0_tasteOf 1 = .ok (.iconst 1, 1) := by decide +kernel
theorem dX0_tasteOf_2 : decode cX0_tasteOf 2 = .ok (.iload 4, 2) := by decide +kernel
theorem dX0_tasteOf_4 : decode cX0_tasteOf 4 = .ok (.aload_n 0, 1) := by decide +kernel
theorem dX0_tasteOf_5 : decode cX0_tasteOf 5 = .ok (.getfield 9, 3) := by decide +kernel
theorem dX0_tasteOf_8 : decode cX0_tasteOf 8 = .ok (.aload_n 0, 1) := by decide +kernel
theorem dX0_tasteOf_9 : decode cX0_tasteOf 9 = .ok (.getfield 16, 3) := by decide +kernel
theorem dX0_tasteOf_12 : decode cX0_tasteOf 12 = .ok (.iload_n 2, 1) := by decide +kernel
theorem dX0_tasteOf_13 : decode cX0_tasteOf 13 = .ok (.iaload, 1) := by decide +kernel
theorem dX0_tasteOf_14 : decode cX0_tasteOf 14 = .ok (.iaload, 1) := by decide +kernel
theorem dX0_tasteOf_15 : decode cX0_tasteOf 15 = .ok (.aload_n 0, 1) := by decide +kernel
theorem dX0_tasteOf_16 : decode cX0_tasteOf 16 = .ok (.getfield 25, 3) := by decide +kernel
theorem dX0_tasteOf_19 : decode cX0_tasteOf 19 = .ok (.iload_n 3, 1) := by decide +kernel
theorem dX0_tasteOf_20 : decode cX0_tasteOf 20 = .ok (.iaload, 1) := by decide +kernel
theorem dX0_tasteOf_21 : decode cX0_tasteOf 21 = .ok (.invokevirtual 68, 3) := by decide +kernel
theorem dX0_tasteOf_24 : decode cX0_tasteOf 24 = .ok (.ireturn, 1) := by decide +kernel
theorem dX0_leftOfAll_0 : decode cX0_leftOfAll 0 = .ok (.iconst 0, 1) := by decide +kernel
theorem dX0_leftOfAll_1 : decode cX0_leftOfAll 1 = .ok (.istore_n 3, 1) := by decide +kernel
theorem dX0_leftOfAll_2 : decode cX0_leftOfAll 2 = .ok (.iconst 0, 1) := by decide +kernel
theorem dX0_leftOfAll_3 : decode cX0_leftOfAll 3 = .ok (.istore 4, 2) := by decide +kernel
theorem dX0_leftOfAll_5 : decode cX0_leftOfAll 5 = .ok (.iload 4, 2) := by decide +kernel
theorem dX0_leftOfAll_7 : decode cX0_leftOfAll 7 = .ok (.bipush 6, 2) := by decide +kernel
theorem dX0_leftOfAll_9 : decode cX0_leftOfAll 9 = .ok (.if_icmp .ge 20, 3) := by decide +kernel
theorem dX0_leftOfAll_12 : decode cX0_leftOfAll 12 = .ok (.iload_n 3, 1) := by decide +kernel
theorem dX0_leftOfAll_13 : decode cX0_leftOfAll 13 = .ok (.aload_n 0, 1) := by decide +kernel
theorem dX0_leftOfAll_14 : decode cX0_leftOfAll 14 = .ok (.aload_n 1, 1) := by decide +kernel
theorem dX0_leftOfAll_15 : decode cX0_leftOfAll 15 = .ok (.iload 4, 2) := by decide +kernel
theorem dX0_leftOfAll_17 : decode cX0_leftOfAll 17 = .ok (.iload_n 2, 1) := by decide +kernel
theorem dX0_leftOfAll_18 : decode cX0_leftOfAll 18 = .ok (.invokevirtual 72, 3) := by decide +kernel
theorem dX0_leftOfAll_21 : decode cX0_leftOfAll 21 = .ok (.iadd, 1) := by decide +kernel
theorem dX0_leftOfAll_22 : decode cX0_leftOfAll 22 = .ok (.istore_n 3, 1) := by decide +kernel
theorem dX0_leftOfAll_23 : decode cX0_leftOfAll 23 = .ok (.iinc 4 1, 3) := by decide +kernel
theorem dX0_leftOfAll_26 : decode cX0_leftOfAll 26 = .ok (.goto (-21), 3) := by decide +kernel
theorem dX0_leftOfAll_29 : decode cX0_leftOfAll 29 = .ok (.iload_n 3, 1) := by decide +kernel
theorem dX0_leftOfAll_30 : decode cX0_leftOfAll 30 = .ok (.ireturn, 1) := by decide +kernel
theorem dX0_whoLeavesSweet_0 : decode cX0_whoLeavesSweet 0 = .ok (.iconst 0, 1) := by decide +kernel
theorem dX0_whoLeavesSweet_1 : decode cX0_whoLeavesSweet 1 = .ok (.istore_n 2, 1) := by decide +kernel
theorem dX0_whoLeavesSweet_2 : decode cX0_whoLeavesSweet 2 = .ok (.iload_n 2, 1) := by decide +kernel
theorem dX0_whoLeavesSweet_3 : decode cX0_whoLeavesSweet 3 = .ok (.aload_n 0, 1) := by decide +kernel
theorem dX0_whoLeavesSweet_4 : decode cX0_whoLeavesSweet 4 = .ok (.getfield 47, 3) := by decide +kernel
theorem dX0_whoLeavesSweet_7 : decode cX0_whoLeavesSweet 7 = .ok (.if_icmp .ge 22, 3) := by decide +kernel
theorem dX0_whoLeavesSweet_10 : decode cX0_whoLeavesSweet 10 = .ok (.aload_n 0, 1) := by decide +kernel
theorem dX0_whoLeavesSweet_11 : decode cX0_whoLeavesSweet 11 = .ok (.aload_n 1, 1) := by decide +kernel
theorem dX0_whoLeavesSweet_12 : decode cX0_whoLeavesSweet 12 = .ok (.iconst 5, 1) := by decide +kernel
theorem dX0_whoLeavesSweet_13 : decode cX0_whoLeavesSweet 13 = .ok (.iload_n 2, 1) := by decide +kernel
theorem dX0_whoLeavesSweet_14 : decode cX0_whoLeavesSweet 14 = .ok (.invokevirtual 72, 3) := by decide +kernel
theorem dX0_whoLeavesSweet_17 : decode cX0_whoLeavesSweet 17 = .ok (.iconst 4, 1) := by decide +kernel
theorem dX0_whoLeavesSweet_18 : decode cX0_whoLeavesSweet 18 = .ok (.if_icmp .ne 5, 3) := by decide +kernel
theorem dX0_whoLeavesSweet_21 : decode cX0_whoLeavesSweet 21 = .ok (.iload_n 2, 1) := by decide +kernel
theorem dX0_whoLeavesSweet_22 : decode cX0_whoLeavesSweet 22 = .ok (.ireturn, 1) := by decide +kernel
theorem dX0_whoLeavesSweet_23 : decode cX0_whoLeavesSweet 23 = .ok (.iinc 2 1, 3) := by decide +kernel
theorem dX0_whoLeavesSweet_26 : decode cX0_whoLeavesSweet 26 = .ok (.goto (-24), 3) := by decide +kernel
theorem dX0_whoLeavesSweet_29 : decode cX0_whoLeavesSweet 29 = .ok (.iconst (-1), 1) := by decide +kernel
theorem dX0_whoLeavesSweet_30 : decode cX0_whoLeavesSweet 30 = .ok (.ireturn, 1) := by decide +kernel
theorem dX0_spend_0 : decode cX0_spend 0 = .ok (.iconst 0, 1) := by decide +kernel
theorem dX0_spend_1 : decode cX0_spend 1 = .ok (.istore_n 3, 1) := by decide +kernel
theorem dX0_spend_2 : decode cX0_spend 2 = .ok (.iload_n 3, 1) := by decide +kernel
theorem dX0_spend_3 : decode cX0_spend 3 = .ok (.iload_n 2, 1) := by decide +kernel
theorem dX0_spend_4 : decode cX0_spend 4 = .ok (.if_icmp .ge 28, 3) := by decide +kernel
theorem dX0_spend_7 : decode cX0_spend 7 = .ok (.aload_n 0, 1) := by decide +kernel
theorem dX0_spend_8 : decode cX0_spend 8 = .ok (.aload_n 1, 1) := by decide +kernel
theorem dX0_spend_9 : decode cX0_spend 9 = .ok (.invokevirtual 76, 3) := by decide +kernel
theorem dX0_spend_12 : decode cX0_spend 12 = .ok (.aload_n 0, 1) := by decide +kernel
theorem dX0_spend_13 : decode cX0_spend 13 = .ok (.invokevirtual 80, 3) := by decide +kernel
theorem dX0_spend_16 : decode cX0_spend 16 = .ok (.aload_n 0, 1) := by decide +kernel
theorem dX0_spend_17 : decode cX0_spend 17 = .ok (.dup, 1) := by decide +kernel
theorem dX0_spend_18 : decode cX0_spend 18 = .ok (.getfield 44, 3) := by decide +kernel
theorem dX0_spend_21 : decode cX0_spend 21 = .ok (.iconst 1, 1) := by decide +kernel
theorem dX0_spend_22 : decode cX0_spend 22 = .ok (.iadd, 1) := by decide +kernel
theorem dX0_spend_23 : decode cX0_spend 23 = .ok (.putfield 44, 3) := by decide +kernel
theorem dX0_spend_26 : decode cX0_spend 26 = .ok (.iinc 3 1, 3) := by decide +kernel
theorem dX0_spend_29 : decode cX0_spend 29 = .ok (.goto (-27), 3) := by decide +kernel
theorem dX0_spend_32 : decode cX0_spend 32 = .ok (.return_, 1) := by decide +kernel
theorem dX0_dine_0 : decode cX0_dine 0 = .ok (.aload_n 0, 1) := by decide +kernel
theorem dX0_dine_1 : decode cX0_dine 1 = .ok (.getfield 37, 3) := by decide +kernel
theorem dX0_dine_4 : decode cX0_dine 4 = .ok (.istore_n 2, 1) := by decide +kernel
theorem dX0_dine_5 : decode cX0_dine 5 = .ok (.iconst 0, 1) := by decide +kernel
theorem dX0_dine_6 : decode cX0_dine 6 = .ok (.istore_n 3, 1) := by decide +kernel
theorem dX0_dine_7 : decode cX0_dine 7 = .ok (.iload_n 3, 1) := by decide +kernel
theorem dX0_dine_8 : decode cX0_dine 8 = .ok (.bipush 6, 2) := by decide +kernel
theorem dX0_dine_10 : decode cX0_dine 10 = .ok (.if_icmp .ge 117, 3) := by decide +kernel
theorem dX0_dine_13 : decode cX0_dine 13 = .ok (.iconst 0, 1) := by decide +kernel
theorem dX0_dine_14 : decode cX0_dine 14 = .ok (.istore 4, 2) := by decide +kernel
theorem dX0_dine_16 : decode cX0_dine 16 = .ok (.iload 4, 2) := by decide +kernel
theorem dX0_dine_18 : decode cX0_dine 18 = .ok (.aload_n 0, 1) := by decide +kernel
theorem dX0_dine_19 : decode cX0_dine 19 = .ok (.getfield 47, 3) := by decide +kernel
theorem dX0_dine_22 : decode cX0_dine 22 = .ok (.if_icmp .ge 99, 3) := by decide +kernel
theorem dX0_dine_25 : decode cX0_dine 25 = .ok (.aload_n 0, 1) := by decide +kernel
theorem dX0_dine_26 : decode cX0_dine 26 = .ok (.aload_n 1, 1) := by decide +kernel
theorem dX0_dine_27 : decode cX0_dine 27 = .ok (.iload_n 3, 1) := by decide +kernel
theorem dX0_dine_28 : decode cX0_dine 28 = .ok (.iload 4, 2) := by decide +kernel
theorem dX0_dine_30 : decode cX0_dine 30 = .ok (.invokevirtual 72, 3) := by decide +kernel
theorem dX0_dine_33 : decode cX0_dine 33 = .ok (.istore 5, 2) := by decide +kernel
theorem dX0_dine_35 : decode cX0_dine 35 = .ok (.iload 5, 2) := by decide +kernel
theorem dX0_dine_37 : decode cX0_dine 37 = .ok (.iload_n 2, 1) := by decide +kernel
theorem dX0_dine_38 : decode cX0_dine 38 = .ok (.invokestatic 83, 3) := by decide +kernel
theorem dX0_dine_41 : decode cX0_dine 41 = .ok (.istore 6, 2) := by decide +kernel
theorem dX0_dine_43 : decode cX0_dine 43 = .ok (.iload_n 2, 1) := by decide +kernel
theorem dX0_dine_44 : decode cX0_dine 44 = .ok (.iload 6, 2) := by decide +kernel
theorem dX0_dine_46 : decode cX0_dine 46 = .ok (.isub, 1) := by decide +kernel
theorem dX0_dine_47 : decode cX0_dine 47 = .ok (.istore_n 2, 1) := by decide +kernel
theorem dX0_dine_48 : decode cX0_dine 48 = .ok (.iload 6, 2) := by decide +kernel
theorem dX0_dine_50 : decode cX0_dine 50 = .ok (.ifCond .le 37, 3) := by decide +kernel
theorem dX0_dine_53 : decode cX0_dine 53 = .ok (.aload_n 0, 1) := by decide +kernel
theorem dX0_dine_54 : decode cX0_dine 54 = .ok (.getfield 31, 3) := by decide +kernel
theorem dX0_dine_57 : decode cX0_dine 57 = .ok (.iload 4, 2) := by decide +kernel
theorem dX0_dine_59 : decode cX0_dine 59 = .ok (.iaload, 1) := by decide +kernel
theorem dX0_dine_60 : decode cX0_dine 60 = .ok (.aload_n 0, 1) := by decide +kernel
theorem dX0_dine_61 : decode cX0_dine 61 = .ok (.aload_n 1, 1) := by decide +kernel
theorem dX0_dine_62 : decode cX0_dine 62 = .ok (.iload_n 3, 1) := by decide +kernel
theorem dX0_dine_63 : decode cX0_dine 63 = .ok (.iload 4, 2) := by decide +kernel
theorem dX0_dine_65 : decode cX0_dine 65 = .ok (.iload 6, 2) := by decide +kernel
theorem dX0_dine_67 : decode cX0_dine 67 = .ok (.invokevirtual 89, 3) := by decide +kernel
theorem dX0_dine_70 : decode cX0_dine 70 = .ok (.iadd, 1) := by decide +kernel
theorem dX0_dine_71 : decode cX0_dine 71 = .ok (.istore 7, 2) := by decide +kernel
theorem dX0_dine_73 : decode cX0_dine 73 = .ok (.aload_n 0, 1) := by decide +kernel
theorem dX0_dine_74 : decode cX0_dine 74 = .ok (.getfield 31, 3) := by decide +kernel
theorem dX0_dine_77 : decode cX0_dine 77 = .ok (.iload 4, 2) := by decide +kernel
theorem dX0_dine_79 : decode cX0_dine 79 = .ok (.bipush 99, 2) := by decide +kernel
theorem dX0_dine_81 : decode cX0_dine 81 = .ok (.iload 7, 2) := by decide +kernel
theorem dX0_dine_83 : decode cX0_dine 83 = .ok (.invokestatic 83, 3) := by decide +kernel
theorem dX0_dine_86 : decode cX0_dine 86 = .ok (.iastore, 1) := by decide +kernel
theorem dX0_dine_87 : decode cX0_dine 87 = .ok (.aload_n 0, 1) := by decide +kernel
theorem dX0_dine_88 : decode cX0_dine 88 = .ok (.ldc 93, 2) := by decide +kernel
theorem dX0_dine_90 : decode cX0_dine 90 = .ok (.aload_n 0, 1) := by decide +kernel
theorem dX0_dine_91 : decode cX0_dine 91 = .ok (.getfield 41, 3) := by decide +kernel
theorem dX0_dine_94 : decode cX0_dine 94 = .ok (.iload 5, 2) := by decide +kernel
theorem dX0_dine_96 : decode cX0_dine 96 = .ok (.iadd, 1) := by decide +kernel
theorem dX0_dine_97 : decode cX0_dine 97 = .ok (.iload 6, 2) := by decide +kernel
theorem dX0_dine_99 : decode cX0_dine 99 = .ok (.isub, 1) := by decide +kernel
theorem dX0_dine_100 : decode cX0_dine 100 = .ok (.invokestatic 83, 3) := by decide +kernel
theorem dX0_dine_103 : decode cX0_dine 103 = .ok (.putfield 41, 3) := by decide +kernel
theorem dX0_dine_106 : decode cX0_dine 106 = .ok (.aload_n 0, 1) := by decide +kernel
theorem dX0_dine_107 : decode cX0_dine 107 = .ok (.getfield 34, 3) := by decide +kernel
theorem dX0_dine_110 : decode cX0_dine 110 = .ok (.iload 4, 2) := by decide +kernel
theorem dX0_dine_112 : decode cX0_dine 112 = .ok (.iload 5, 2) := by decide +kernel
theorem dX0_dine_114 : decode cX0_dine 114 = .ok (.iastore, 1) := by decide +kernel
theorem dX0_dine_115 : decode cX0_dine 115 = .ok (.iinc 4 1, 3) := by decide +kernel
theorem dX0_dine_118 : decode cX0_dine 118 = .ok (.goto (-102), 3) := by decide +kernel
theorem dX0_dine_121 : decode cX0_dine 121 = .ok (.iinc 3 1, 3) := by decide +kernel
theorem dX0_dine_124 : decode cX0_dine 124 = .ok (.goto (-117), 3) := by decide +kernel
theorem dX0_dine_127 : decode cX0_dine 127 = .ok (.return_, 1) := by decide +kernel
theorem dX0_grieve_0 : decode cX0_grieve 0 = .ok (.iconst 0, 1) := by decide +kernel
theorem dX0_grieve_1 : decode cX0_grieve 1 = .ok (.istore_n 1, 1) := by decide +kernel
theorem dX0_grieve_2 : decode cX0_grieve 2 = .ok (.iload_n 1, 1) := by decide +kernel
theorem dX0_grieve_3 : decode cX0_grieve 3 = .ok (.aload_n 0, 1) := by decide +kernel
theorem dX0_grieve_4 : decode cX0_grieve 4 = .ok (.getfield 47, 3) := by decide +kernel
theorem dX0_grieve_7 : decode cX0_grieve 7 = .ok (.if_icmp .ge 83, 3) := by decide +kernel
theorem dX0_grieve_10 : decode cX0_grieve 10 = .ok (.aload_n 0, 1) := by decide +kernel
theorem dX0_grieve_11 : decode cX0_grieve 11 = .ok (.getfield 28, 3) := by decide +kernel
theorem dX0_grieve_14 : decode cX0_grieve 14 = .ok (.iload_n 1, 1) := by decide +kernel
theorem dX0_grieve_15 : decode cX0_grieve 15 = .ok (.iaload, 1) := by decide +kernel
theorem dX0_grieve_16 : decode cX0_grieve 16 = .ok (.istore_n 2, 1) := by decide +kernel
theorem dX0_grieve_17 : decode cX0_grieve 17 = .ok (.iload_n 2, 1) := by decide +kernel
theorem dX0_grieve_18 : decode cX0_grieve 18 = .ok (.iload_n 1, 1) := by decide +kernel
theorem dX0_grieve_19 : decode cX0_grieve 19 = .ok (.if_icmp .eq 43, 3) := by decide +kernel
theorem dX0_grieve_22 : decode cX0_grieve 22 = .ok (.iload_n 2, 1) := by decide +kernel
theorem dX0_grieve_23 : decode cX0_grieve 23 = .ok (.aload_n 0, 1) := by decide +kernel
theorem dX0_grieve_24 : decode cX0_grieve 24 = .ok (.getfield 47, 3) := by decide +kernel
theorem dX0_grieve_27 : decode cX0_grieve 27 = .ok (.if_icmp .ge 35, 3) := by decide +kernel
theorem dX0_grieve_30 : decode cX0_grieve 30 = .ok (.aload_n 0, 1) := by decide +kernel
theorem dX0_grieve_31 : decode cX0_grieve 31 = .ok (.getfield 34, 3) := by decide +kernel
theorem dX0_grieve_34 : decode cX0_grieve 34 = .ok (.iload_n 2, 1) := by decide +kernel
theorem dX0_grieve_35 : decode cX0_grieve 35 = .ok (.iaload, 1) := by decide +kernel
theorem dX0_grieve_36 : decode cX0_grieve 36 = .ok (.iconst 4, 1) := by decide +kernel
theorem dX0_grieve_37 : decode cX0_grieve 37 = .ok (.if_icmp .ne 25, 3) := by decide +kernel
theorem dX0_grieve_40 : decode cX0_grieve 40 = .ok (.aload_n 0, 1) := by decide +kernel
theorem dX0_grieve_41 : decode cX0_grieve 41 = .ok (.getfield 25, 3) := by decide +kernel
theorem dX0_grieve_44 : decode cX0_grieve 44 = .ok (.iload_n 1, 1) := by decide +kernel
theorem dX0_grieve_45 : decode cX0_grieve 45 = .ok (.bipush 9, 2) := by decide +kernel
theorem dX0_grieve_47 : decode cX0_grieve 47 = .ok (.aload_n 0, 1) := by decide +kernel
theorem dX0_grieve_48 : decode cX0_grieve 48 = .ok (.getfield 25, 3) := by decide +kernel
theorem dX0_grieve_51 : decode cX0_grieve 51 = .ok (.iload_n 1, 1) := by decide +kernel
theorem dX0_grieve_52 : decode cX0_grieve 52 = .ok (.iaload, 1) := by decide +kernel
theorem dX0_grieve_53 : decode cX0_grieve 53 = .ok (.iconst 1, 1) := by decide +kernel
theorem dX0_grieve_54 : decode cX0_grieve 54 = .ok (.iadd, 1) := by decide +kernel
theorem dX0_grieve_55 : decode cX0_grieve 55 = .ok (.invokestatic 83, 3) := by decide +kernel
theorem dX0_grieve_58 : decode cX0_grieve 58 = .ok (.iastore, 1) := by decide +kernel
theorem dX0_grieve_59 : decode cX0_grieve 59 = .ok (.goto 25, 3) := by decide +kernel
theorem dX0_grieve_62 : decode cX0_grieve 62 = .ok (.aload_n 0, 1) := by decide +kernel
theorem dX0_grieve_63 : decode cX0_grieve 63 = .ok (.getfield 25, 3) := by decide +kernel
theorem dX0_grieve_66 : decode cX0_grieve 66 = .ok (.iload_n 1, 1) := by decide +kernel
theorem dX0_grieve_67 : decode cX0_grieve 67 = .ok (.iconst 0, 1) := by decide +kernel
theorem dX0_grieve_68 : decode cX0_grieve 68 = .ok (.aload_n 0, 1) := by decide +kernel
theorem dX0_grieve_69 : decode cX0_grieve 69 = .ok (.getfield 25, 3) := by decide +kernel
theorem dX0_grieve_72 : decode cX0_grieve 72 = .ok (.iload_n 1, 1) := by decide +kernel
theorem dX0_grieve_73 : decode cX0_grieve 73 = .ok (.iaload, 1) := by decide +kernel
theorem dX0_grieve_74 : decode cX0_grieve 74 = .ok (.aload_n 0, 1) := by decide +kernel
theorem dX0_grieve_75 : decode cX0_grieve 75 = .ok (.iload_n 1, 1) := by decide +kernel
theorem dX0_grieve_76 : decode cX0_grieve 76 = .ok (.invokevirtual 94, 3) := by decide +kernel
theorem dX0_grieve_79 : decode cX0_grieve 79 = .ok (.isub, 1) := by decide +kernel
theorem dX0_grieve_80 : decode cX0_grieve 80 = .ok (.invokestatic 98, 3) := by decide +kernel
theorem dX0_grieve_83 : decode cX0_grieve 83 = .ok (.iastore, 1) := by decide +kernel
theorem dX0_grieve_84 : decode cX0_grieve 84 = .ok (.iinc 1 1, 3) := by decide +kernel
theorem dX0_grieve_87 : decode cX0_grieve 87 = .ok (.goto (-85), 3) := by decide +kernel
theorem dX0_grieve_90 : decode cX0_grieve 90 = .ok (.return_, 1) := by decide +kernel
theorem dX0_griefOfAll_0 : decode cX0_griefOfAll 0 = .ok (.iconst 0, 1) := by decide +kernel
theorem dX0_griefOfAll_1 : decode cX0_griefOfAll 1 = .ok (.istore_n 1, 1) := by decide +kernel
theorem dX0_griefOfAll_2 : decode cX0_griefOfAll 2 = .ok (.iconst 0, 1) := by decide +kernel
theorem dX0_griefOfAll_3 : decode cX0_griefOfAll 3 = .ok (.istore_n 2, 1) := by decide +kernel
theorem dX0_griefOfAll_4 : decode cX0_griefOfAll 4 = .ok (.iload_n 2, 1) := by decide +kernel
theorem dX0_griefOfAll_5 : decode cX0_griefOfAll 5 = .ok (.aload_n 0, 1) := by decide +kernel
theorem dX0_griefOfAll_6 : decode cX0_griefOfAll 6 = .ok (.getfield 47, 3) := by decide +kernel
theorem dX0_griefOfAll_9 : decode cX0_griefOfAll 9 = .ok (.if_icmp .ge 18, 3) := by decide +kernel
theorem dX0_griefOfAll_12 : decode cX0_griefOfAll 12 = .ok (.iload_n 1, 1) := by decide +kernel
theorem dX0_griefOfAll_13 : decode cX0_griefOfAll 13 = .ok (.aload_n 0, 1) := by decide +kernel
theorem dX0_griefOfAll_14 : decode cX0_griefOfAll 14 = .ok (.getfield 25, 3) := by decide +kernel
theorem dX0_griefOfAll_17 : decode cX0_griefOfAll 17 = .ok (.iload_n 2, 1) := by decide +kernel
theorem dX0_griefOfAll_18 : decode cX0_griefOfAll 18 = .ok (.iaload, 1) := by decide +kernel
theorem dX0_griefOfAll_19 : decode cX0_griefOfAll 19 = .ok (.iadd, 1) := by decide +kernel
theorem dX0_griefOfAll_20 : decode cX0_griefOfAll 20 = .ok (.istore_n 1, 1) := by decide +kernel
theorem dX0_griefOfAll_21 : decode cX0_griefOfAll 21 = .ok (.iinc 2 1, 3) := by decide +kernel
theorem dX0_griefOfAll_24 : decode cX0_griefOfAll 24 = .ok (.goto (-20), 3) := by decide +kernel
theorem dX0_griefOfAll_27 : decode cX0_griefOfAll 27 = .ok (.iload_n 1, 1) := by decide +kernel
theorem dX0_griefOfAll_28 : decode cX0_griefOfAll 28 = .ok (.ireturn, 1) := by decide +kernel
theorem dX0_knownOfAll_0 : decode cX0_knownOfAll 0 = .ok (.iconst 0, 1) := by decide +kernel
theorem dX0_knownOfAll_1 : decode cX0_knownOfAll 1 = .ok (.istore_n 1, 1) := by decide +kernel
theorem dX0_knownOfAll_2 : decode cX0_knownOfAll 2 = .ok (.iconst 0, 1) := by decide +kernel
theorem dX0_knownOfAll_3 : decode cX0_knownOfAll 3 = .ok (.istore_n 2, 1) := by decide +kernel
theorem dX0_knownOfAll_4 : decode cX0_knownOfAll 4 = .ok (.iload_n 2, 1) := by decide +kernel
theorem dX0_knownOfAll_5 : decode cX0_knownOfAll 5 = .ok (.aload_n 0, 1) := by decide +kernel
theorem dX0_knownOfAll_6 : decode cX0_knownOfAll 6 = .ok (.getfield 47, 3) := by decide +kernel
theorem dX0_knownOfAll_9 : decode cX0_knownOfAll 9 = .ok (.if_icmp .ge 18, 3) := by decide +kernel
theorem dX0_knownOfAll_12 : decode cX0_knownOfAll 12 = .ok (.iload_n 1, 1) := by decide +kernel
theorem dX0_knownOfAll_13 : decode cX0_knownOfAll 13 = .ok (.aload_n 0, 1) := by decide +kernel
theorem dX0_knownOfAll_14 : decode cX0_knownOfAll 14 = .ok (.getfield 31, 3) := by decide +kernel
theorem dX0_knownOfAll_17 : decode cX0_knownOfAll 17 = .ok (.iload_n 2, 1) := by decide +kernel
theorem dX0_knownOfAll_18 : decode cX0_knownOfAll 18 = .ok (.iaload, 1) := by decide +kernel
theorem dX0_knownOfAll_19 : decode cX0_knownOfAll 19 = .ok (.iadd, 1) := by decide +kernel
theorem dX0_knownOfAll_20 : decode cX0_knownOfAll 20 = .ok (.istore_n 1, 1) := by decide +kernel
theorem dX0_knownOfAll_21 : decode cX0_knownOfAll 21 = .ok (.iinc 2 1, 3) := by decide +kernel
theorem dX0_knownOfAll_24 : decode cX0_knownOfAll 24 = .ok (.goto (-20), 3) := by decide +kernel
theorem dX0_knownOfAll_27 : decode cX0_knownOfAll 27 = .ok (.iload_n 1, 1) := by decide +kernel
theorem dX0_knownOfAll_28 : decode cX0_knownOfAll 28 = .ok (.ireturn, 1) := by decide +kernel
theorem dX0_sweetOfAll_0 : decode cX0_sweetOfAll 0 = .ok (.iconst 0, 1) := by decide +kernel
theorem dX0_sweetOfAll_1 : decode cX0_sweetOfAll 1 = .ok (.istore_n 1, 1) := by decide +kernel
theorem dX0_sweetOfAll_2 : decode cX0_sweetOfAll 2 = .ok (.iconst 0, 1) := by decide +kernel
theorem dX0_sweetOfAll_3 : decode cX0_sweetOfAll 3 = .ok (.istore_n 2, 1) := by decide +kernel
theorem dX0_sweetOfAll_4 : decode cX0_sweetOfAll 4 = .ok (.iload_n 2, 1) := by decide +kernel
theorem dX0_sweetOfAll_5 : decode cX0_sweetOfAll 5 = .ok (.bipush 16, 2) := by decide +kernel
theorem dX0_sweetOfAll_7 : decode cX0_sweetOfAll 7 = .ok (.if_icmp .ge 18, 3) := by decide +kernel
theorem dX0_sweetOfAll_10 : decode cX0_sweetOfAll 10 = .ok (.iload_n 1, 1) := by decide +kernel
theorem dX0_sweetOfAll_11 : decode cX0_sweetOfAll 11 = .ok (.aload_n 0, 1) := by decide +kernel
theorem dX0_sweetOfAll_12 : decode cX0_sweetOfAll 12 = .ok (.getfield 9, 3) := by decide +kernel
theorem dX0_sweetOfAll_15 : decode cX0_sweetOfAll 15 = .ok (.iload_n 2, 1) := by decide +kernel
theorem dX0_sweetOfAll_16 : decode cX0_sweetOfAll 16 = .ok (.iaload, 1) := by decide +kernel
theorem dX0_sweetOfAll_17 : decode cX0_sweetOfAll 17 = .ok (.iadd, 1) := by decide +kernel
theorem dX0_sweetOfAll_18 : decode cX0_sweetOfAll 18 = .ok (.istore_n 1, 1) := by decide +kernel
theorem dX0_sweetOfAll_19 : decode cX0_sweetOfAll 19 = .ok (.iinc 2 1, 3) := by decide +kernel
theorem dX0_sweetOfAll_22 : decode cX0_sweetOfAll 22 = .ok (.goto (-18), 3) := by decide +kernel
theorem dX0_sweetOfAll_25 : decode cX0_sweetOfAll 25 = .ok (.iload_n 1, 1) := by decide +kernel
theorem dX0_sweetOfAll_26 : decode cX0_sweetOfAll 26 = .ok (.ireturn, 1) := by decide +kernel
theorem dX1_above_0 : decode cX1_above 0 = .ok (.iload_n 0, 1) := by decide +kernel
theorem dX1_above_1 : decode cX1_above 1 = .ok (.ifCond .lt 17, 3) := by decide +kernel
theorem dX1_above_4 : decode cX1_above 4 = .ok (.iload_n 0, 1) := by decide +kernel
theorem dX1_above_5 : decode cX1_above 5 = .ok (.bipush 6, 2) := by decide +kernel
theorem dX1_above_7 : decode cX1_above 7 = .ok (.if_icmp .gt 11, 3) := by decide +kernel
theorem dX1_above_10 : decode cX1_above 10 = .ok (.getstatic 9, 3) := by decide +kernel
theorem dX1_above_13 : decode cX1_above 13 = .ok (.iload_n 0, 1) := by decide +kernel
theorem dX1_above_14 : decode cX1_above 14 = .ok (.iaload, 1) := by decide +kernel
theorem dX1_above_15 : decode cX1_above 15 = .ok (.goto 4, 3) := by decide +kernel
theorem dX1_above_18 : decode cX1_above 18 = .ok (.iconst (-1), 1) := by decide +kernel
theorem dX1_above_19 : decode cX1_above 19 = .ok (.ireturn, 1) := by decide +kernel
theorem dX1_isUnder_0 : decode cX1_isUnder 0 = .ok (.iload_n 0, 1) := by decide +kernel
theorem dX1_isUnder_1 : decode cX1_isUnder 1 = .ok (.istore_n 2, 1) := by decide +kernel
theorem dX1_isUnder_2 : decode cX1_isUnder 2 = .ok (.iconst 0, 1) := by decide +kernel
theorem dX1_isUnder_3 : decode cX1_isUnder 3 = .ok (.istore_n 3, 1) := by decide +kernel
theorem dX1_isUnder_4 : decode cX1_isUnder 4 = .ok (.iload_n 3, 1) := by decide +kernel
theorem dX1_isUnder_5 : decode cX1_isUnder 5 = .ok (.bipush 6, 2) := by decide +kernel
theorem dX1_isUnder_7 : decode cX1_isUnder 7 = .ok (.if_icmp .gt 25, 3) := by decide +kernel
theorem dX1_isUnder_10 : decode cX1_isUnder 10 = .ok (.iload_n 2, 1) := by decide +kernel
theorem dX1_isUnder_11 : decode cX1_isUnder 11 = .ok (.ifCond .lt 21, 3) := by decide +kernel
theorem dX1_isUnder_14 : decode cX1_isUnder 14 = .ok (.iload_n 2, 1) := by decide +kernel
theorem dX1_isUnder_15 : decode cX1_isUnder 15 = .ok (.iload_n 1, 1) := by decide +kernel
theorem dX1_isUnder_16 : decode cX1_isUnder 16 = .ok (.if_icmp .ne 5, 3) := by decide +kernel
theorem dX1_isUnder_19 : decode cX1_isUnder 19 = .ok (.iconst 1, 1) := by decide +kernel
theorem dX1_isUnder_20 : decode cX1_isUnder 20 = .ok (.ireturn, 1) := by decide +kernel
theorem dX1_isUnder_21 : decode cX1_isUnder 21 = .ok (.iload_n 2, 1) := by decide +kernel
theorem dX1_isUnder_22 : decode cX1_isUnder 22 = .ok (.invokestatic 13, 3) := by decide +kernel
theorem dX1_isUnder_25 : decode cX1_isUnder 25 = .ok (.istore_n 2, 1) := by decide +kernel
theorem dX1_isUnder_26 : decode cX1_isUnder 26 = .ok (.iinc 3 1, 3) := by decide +kernel
theorem dX1_isUnder_29 : decode cX1_isUnder 29 = .ok (.goto (-25), 3) := by decide +kernel
theorem dX1_isUnder_32 : decode cX1_isUnder 32 = .ok (.iconst 0, 1) := by decide +kernel
theorem dX1_isUnder_33 : decode cX1_isUnder 33 = .ok (.ireturn, 1) := by decide +kernel
theorem dX1_leaves_0 : decode cX1_leaves 0 = .ok (.iload 4, 2) := by decide +kernel
theorem dX1_leaves_2 : decode cX1_leaves 2 = .ok (.iconst 3, 1) := by decide +kernel
theorem dX1_leaves_3 : decode cX1_leaves 3 = .ok (.idiv, 1) := by decide +kernel
theorem dX1_leaves_4 : decode cX1_leaves 4 = .ok (.iload_n 3, 1) := by decide +kernel
theorem dX1_leaves_5 : decode cX1_leaves 5 = .ok (.iconst 5, 1) := by decide +kernel
theorem dX1_leaves_6 : decode cX1_leaves 6 = .ok (.if_icmp .le 7, 3) := by decide +kernel
theorem dX1_leaves_9 : decode cX1_leaves 9 = .ok (.iconst 1, 1) := by decide +kernel
theorem dX1_leaves_10 : decode cX1_leaves 10 = .ok (.goto 4, 3) := by decide +kernel
theorem dX1_leaves_13 : decode cX1_leaves 13 = .ok (.iconst 0, 1) := by decide +kernel
theorem dX1_leaves_14 : decode cX1_leaves 14 = .ok (.iadd, 1) := by decide +kernel
theorem dX1_leaves_15 : decode cX1_leaves 15 = .ok (.istore 6, 2) := by decide +kernel
theorem dX1_leaves_17 : decode cX1_leaves 17 = .ok (.iload_n 0, 1) := by decide +kernel
theorem dX1_leaves_18 : decode cX1_leaves 18 = .ok (.tableswitch 103 1 6 #[38, 50, 81, 43, 57, 90], 38) := by decide +kernel
theorem dX1_leaves_56 : decode cX1_leaves 56 = .ok (.iload 4, 2) := by decide +kernel
theorem dX1_leaves_58 : decode cX1_leaves 58 = .ok (.iconst 2, 1) := by decide +kernel
theorem dX1_leaves_59 : decode cX1_leaves 59 = .ok (.idiv, 1) := by decide +kernel
theorem dX1_leaves_60 : decode cX1_leaves 60 = .ok (.ireturn, 1) := by decide +kernel
theorem dX1_leaves_61 : decode cX1_leaves 61 = .ok (.iload 4, 2) := by decide +kernel
theorem dX1_leaves_63 : decode cX1_leaves 63 = .ok (.iconst 2, 1) := by decide +kernel
theorem dX1_leaves_64 : decode cX1_leaves 64 = .ok (.idiv, 1) := by decide +kernel
theorem dX1_leaves_65 : decode cX1_leaves 65 = .ok (.iconst 1, 1) := by decide +kernel
theorem dX1_leaves_66 : decode cX1_leaves 66 = .ok (.isub, 1) := by decide +kernel
theorem dX1_leaves_67 : decode cX1_leaves 67 = .ok (.ireturn, 1) := by decide +kernel
theorem dX1_leaves_68 : decode cX1_leaves 68 = .ok (.iload 6, 2) := by decide +kernel
theorem dX1_leaves_70 : decode cX1_leaves 70 = .ok (.iload_n 2, 1) := by decide +kernel
theorem dX1_leaves_71 : decode cX1_leaves 71 = .ok (.invokestatic 17, 3) := by decide +kernel
theorem dX1_leaves_74 : decode cX1_leaves 74 = .ok (.ireturn, 1) := by decide +kernel
theorem dX1_leaves_75 : decode cX1_leaves 75 = .ok (.iload 5, 2) := by decide +kernel
theorem dX1_leaves_77 : decode cX1_leaves 77 = .ok (.iconst 2, 1) := by decide +kernel
theorem dX1_leaves_78 : decode cX1_leaves 78 = .ok (.irem, 1) := by decide +kernel
theorem dX1_leaves_79 : decode cX1_leaves 79 = .ok (.ifCond .eq 13, 3) := by decide +kernel
theorem dX1_leaves_82 : decode cX1_leaves 82 = .ok (.iload_n 1, 1) := by decide +kernel
theorem dX1_leaves_83 : decode cX1_leaves 83 = .ok (.iload 4, 2) := by decide +kernel
theorem dX1_leaves_85 : decode cX1_leaves 85 = .ok (.if_icmp .le 7, 3) := by decide +kernel
theorem dX1_leaves_88 : decode cX1_leaves 88 = .ok (.iconst 4, 1) := by decide +kernel
theorem dX1_leaves_89 : decode cX1_leaves 89 = .ok (.goto 9, 3) := by decide +kernel
theorem dX1_leaves_92 : decode cX1_leaves 92 = .ok (.iload 6, 2) := by decide +kernel
theorem dX1_leaves_94 : decode cX1_leaves 94 = .ok (.iload_n 2, 1) := by decide +kernel
theorem dX1_leaves_95 : decode cX1_leaves 95 = .ok (.invokestatic 17, 3) := by decide +kernel
theorem dX1_leaves_98 : decode cX1_leaves 98 = .ok (.ireturn, 1) := by decide +kernel
theorem dX1_leaves_99 : decode cX1_leaves 99 = .ok (.iload 6, 2) := by decide +kernel
theorem dX1_leaves_101 : decode cX1_leaves 101 = .ok (.iload_n 2, 1) := by decide +kernel
theorem dX1_leaves_102 : decode cX1_leaves 102 = .ok (.iload 4, 2) := by decide +kernel
theorem dX1_leaves_104 : decode cX1_leaves 104 = .ok (.invokestatic 21, 3) := by decide +kernel
theorem dX1_leaves_107 : decode cX1_leaves 107 = .ok (.ireturn, 1) := by decide +kernel
theorem dX1_leaves_108 : decode cX1_leaves 108 = .ok (.iload 6, 2) := by decide +kernel
theorem dX1_leaves_110 : decode cX1_leaves 110 = .ok (.iload_n 2, 1) := by decide +kernel
theorem dX1_leaves_111 : decode cX1_leaves 111 = .ok (.iload 4, 2) := by decide +kernel
theorem dX1_leaves_113 : decode cX1_leaves 113 = .ok (.invokestatic 21, 3) := by decide +kernel
theorem dX1_leaves_116 : decode cX1_leaves 116 = .ok (.iload_n 1, 1) := by decide +kernel
theorem dX1_leaves_117 : decode cX1_leaves 117 = .ok (.iconst 3, 1) := by decide +kernel
theorem dX1_leaves_118 : decode cX1_leaves 118 = .ok (.idiv, 1) := by decide +kernel
theorem dX1_leaves_119 : decode cX1_leaves 119 = .ok (.iadd, 1) := by decide +kernel
theorem dX1_leaves_120 : decode cX1_leaves 120 = .ok (.ireturn, 1) := by decide +kernel
theorem dX1_leaves_121 : decode cX1_leaves 121 = .ok (.iload 6, 2) := by decide +kernel
theorem dX1_leaves_123 : decode cX1_leaves 123 = .ok (.ireturn, 1) := by decide +kernel
theorem dX1_asLady_0 : decode cX1_asLady 0 = .ok (.iload_n 0, 1) := by decide +kernel
theorem dX1_asLady_1 : decode cX1_asLady 1 = .ok (.iload_n 1, 1) := by decide +kernel
theorem dX1_asLady_2 : decode cX1_asLady 2 = .ok (.iconst 5, 1) := by decide +kernel
theorem dX1_asLady_3 : decode cX1_asLady 3 = .ok (.if_icmp .le 7, 3) := by decide +kernel
theorem dX1_asLady_6 : decode cX1_asLady 6 = .ok (.iconst 1, 1) := by decide +kernel
theorem dX1_asLady_7 : decode cX1_asLady 7 = .ok (.goto 4, 3) := by decide +kernel
theorem dX1_asLady_10 : decode cX1_asLady 10 = .ok (.iconst 0, 1) := by decide +kernel
theorem dX1_asLady_11 : decode cX1_asLady 11 = .ok (.iadd, 1) := by decide +kernel
theorem dX1_asLady_12 : decode cX1_asLady 12 = .ok (.ireturn, 1) := by decide +kernel
theorem dX1_asSubaltern_0 : decode cX1_asSubaltern 0 = .ok (.iload_n 1, 1) := by decide +kernel
theorem dX1_asSubaltern_1 : decode cX1_asSubaltern 1 = .ok (.iload_n 2, 1) := by decide +kernel
theorem dX1_asSubaltern_2 : decode cX1_asSubaltern 2 = .ok (.iadd, 1) := by decide +kernel
theorem dX1_asSubaltern_3 : decode cX1_asSubaltern 3 = .ok (.bipush 9, 2) := by decide +kernel
theorem dX1_asSubaltern_5 : decode cX1_asSubaltern 5 = .ok (.if_icmp .le 7, 3) := by decide +kernel
theorem dX1_asSubaltern_8 : decode cX1_asSubaltern 8 = .ok (.iconst 4, 1) := by decide +kernel
theorem dX1_asSubaltern_9 : decode cX1_asSubaltern 9 = .ok (.goto 4, 3) := by decide +kernel
theorem dX1_asSubaltern_12 : decode cX1_asSubaltern 12 = .ok (.iload_n 0, 1) := by decide +kernel
theorem dX1_asSubaltern_13 : decode cX1_asSubaltern 13 = .ok (.ireturn, 1) := by decide +kernel
theorem dX1_mends_0 : decode cX1_mends 0 = .ok (.iload_n 0, 1) := by decide +kernel
theorem dX1_mends_1 : decode cX1_mends 1 = .ok (.tableswitch 67 1 6 #[39, 67, 51, 39, 53, 55], 39) := by decide +kernel
theorem dX1_mends_40 : decode cX1_mends 40 = .ok (.iload_n 2, 1) := by decide +kernel
theorem dX1_mends_41 : decode cX1_mends 41 = .ok (.iconst 2, 1) := by decide +kernel
theorem dX1_mends_42 : decode cX1_mends 42 = .ok (.irem, 1) := by decide +kernel
theorem dX1_mends_43 : decode cX1_mends 43 = .ok (.ifCond .ne 7, 3) := by decide +kernel
theorem dX1_mends_46 : decode cX1_mends 46 = .ok (.iconst 0, 1) := by decide +kernel
theorem dX1_mends_47 : decode cX1_mends 47 = .ok (.goto 4, 3) := by decide +kernel
theorem dX1_mends_50 : decode cX1_mends 50 = .ok (.iconst 1, 1) := by decide +kernel
theorem dX1_mends_51 : decode cX1_mends 51 = .ok (.ireturn, 1) := by decide +kernel
theorem dX1_mends_52 : decode cX1_mends 52 = .ok (.iconst 0, 1) := by decide +kernel
theorem dX1_mends_53 : decode cX1_mends 53 = .ok (.ireturn, 1) := by decide +kernel
theorem dX1_mends_54 : decode cX1_mends 54 = .ok (.iconst 2, 1) := by decide +kernel
theorem dX1_mends_55 : decode cX1_mends 55 = .ok (.ireturn, 1) := by decide +kernel
theorem dX1_mends_56 : decode cX1_mends 56 = .ok (.iload_n 1, 1) := by decide +kernel
theorem dX1_mends_57 : decode cX1_mends 57 = .ok (.iconst 2, 1) := by decide +kernel
theorem dX1_mends_58 : decode cX1_mends 58 = .ok (.irem, 1) := by decide +kernel
theorem dX1_mends_59 : decode cX1_mends 59 = .ok (.ifCond .ne 7, 3) := by decide +kernel
theorem dX1_mends_62 : decode cX1_mends 62 = .ok (.iconst 1, 1) := by decide +kernel
theorem dX1_mends_63 : decode cX1_mends 63 = .ok (.goto 4, 3) := by decide +kernel
theorem dX1_mends_66 : decode cX1_mends 66 = .ok (.iconst 0, 1) := by decide +kernel
theorem dX1_mends_67 : decode cX1_mends 67 = .ok (.ireturn, 1) := by decide +kernel
theorem dX1_mends_68 : decode cX1_mends 68 = .ok (.iconst 1, 1) := by decide +kernel
theorem dX1_mends_69 : decode cX1_mends 69 = .ok (.ireturn, 1) := by decide +kernel
theorem dX2_init_0 : decode cX2_init 0 = .ok (.aload_n 0, 1) := by decide +kernel
theorem dX2_init_1 : decode cX2_init 1 = .ok (.invokespecial 3, 3) := by decide +kernel
theorem dX2_init_4 : decode cX2_init 4 = .ok (.aload_n 0, 1) := by decide +kernel
theorem dX2_init_5 : decode cX2_init 5 = .ok (.bipush 50, 2) := by decide +kernel
theorem dX2_init_7 : decode cX2_init 7 = .ok (.newarray .int, 2) := by decide +kernel
theorem dX2_init_9 : decode cX2_init 9 = .ok (.putfield 11, 3) := by decide +kernel
theorem dX2_init_12 : decode cX2_init 12 = .ok (.aload_n 0, 1) := by decide +kernel
theorem dX2_init_13 : decode cX2_init 13 = .ok (.sipush 1800, 3) := by decide +kernel
theorem dX2_init_16 : decode cX2_init 16 = .ok (.newarray .byte, 2) := by decide +kernel
theorem dX2_init_18 : decode cX2_init 18 = .ok (.putfield 15, 3) := by decide +kernel
theorem dX2_init_21 : decode cX2_init 21 = .ok (.aload_n 0, 1) := by decide +kernel
theorem dX2_init_22 : decode cX2_init 22 = .ok (.aload_n 1, 1) := by decide +kernel
theorem dX2_init_23 : decode cX2_init 23 = .ok (.putfield 19, 3) := by decide +kernel
theorem dX2_init_26 : decode cX2_init 26 = .ok (.aload_n 0, 1) := by decide +kernel
theorem dX2_init_27 : decode cX2_init 27 = .ok (.aload_n 2, 1) := by decide +kernel
theorem dX2_init_28 : decode cX2_init 28 = .ok (.putfield 23, 3) := by decide +kernel
theorem dX2_init_31 : decode cX2_init 31 = .ok (.aload_n 0, 1) := by decide +kernel
theorem dX2_init_32 : decode cX2_init 32 = .ok (.getfield 15, 3) := by decide +kernel
theorem dX2_init_35 : decode cX2_init 35 = .ok (.iconst (-1), 1) := by decide +kernel
theorem dX2_init_36 : decode cX2_init 36 = .ok (.invokestatic 26, 3) := by decide +kernel
theorem dX2_init_39 : decode cX2_init 39 = .ok (.return_, 1) := by decide +kernel
theorem dX2_forget_0 : decode cX2_forget 0 = .ok (.aload_n 0, 1) := by decide +kernel
theorem dX2_forget_1 : decode cX2_forget 1 = .ok (.getfield 15, 3) := by decide +kernel
theorem dX2_forget_4 : decode cX2_forget 4 = .ok (.iconst (-1), 1) := by decide +kernel
theorem dX2_forget_5 : decode cX2_forget 5 = .ok (.invokestatic 26, 3) := by decide +kernel
theorem dX2_forget_8 : decode cX2_forget 8 = .ok (.return_, 1) := by decide +kernel
theorem dX2_given_0 : decode cX2_given 0 = .ok (.iload_n 1, 1) := by decide +kernel
theorem dX2_given_1 : decode cX2_given 1 = .ok (.bipush 9, 2) := by decide +kernel
theorem dX2_given_3 : decode cX2_given 3 = .ok (.imul, 1) := by decide +kernel
theorem dX2_given_4 : decode cX2_given 4 = .ok (.iload_n 2, 1) := by decide +kernel
theorem dX2_given_5 : decode cX2_given 5 = .ok (.iadd, 1) := by decide +kernel
theorem dX2_given_6 : decode cX2_given 6 = .ok (.iconst (-1), 1) := by decide +kernel
theorem dX2_given_7 : decode cX2_given 7 = .ok (.isub, 1) := by decide +kernel
theorem dX2_given_8 : decode cX2_given 8 = .ok (.bipush 10, 2) := by decide +kernel
theorem dX2_given_10 : decode cX2_given 10 = .ok (.imul, 1) := by decide +kernel
theorem dX2_given_11 : decode cX2_given 11 = .ok (.iload_n 3, 1) := by decide +kernel
theorem dX2_given_12 : decode cX2_given 12 = .ok (.iadd, 1) := by decide +kernel
theorem dX2_given_13 : decode cX2_given 13 = .ok (.bipush 10, 2) := by decide +kernel
theorem dX2_given_15 : decode cX2_given 15 = .ok (.imul, 1) := by decide +kernel
theorem dX2_given_16 : decode cX2_given 16 = .ok (.iload 4, 2) := by decide +kernel
theorem dX2_given_18 : decode cX2_given 18 = .ok (.iadd, 1) := by decide +kernel
theorem dX2_given_19 : decode cX2_given 19 = .ok (.istore 5, 2) := by decide +kernel
theorem dX2_given_21 : decode cX2_given 21 = .ok (.iload_n 2, 1) := by decide +kernel
theorem dX2_given_22 : decode cX2_given 22 = .ok (.iconst (-1), 1) := by decide +kernel
theorem dX2_given_23 : decode cX2_given 23 = .ok (.if_icmp .lt 24, 3) := by decide +kernel
theorem dX2_given_26 : decode cX2_given 26 = .ok (.iload_n 2, 1) := by decide +kernel
theorem dX2_given_27 : decode cX2_given 27 = .ok (.bipush 7, 2) := by decide +kernel
theorem dX2_given_29 : decode cX2_given 29 = .ok (.if_icmp .gt 18, 3) := by decide +kernel
theorem dX2_given_32 : decode cX2_given 32 = .ok (.iload 5, 2) := by decide +kernel
theorem dX2_given_34 : decode cX2_given 34 = .ok (.ifCond .lt 13, 3) := by decide +kernel
theorem dX2_given_37 : decode cX2_given 37 = .ok (.iload 5, 2) := by decide +kernel
theorem dX2_given_39 : decode cX2_given 39 = .ok (.aload_n 0, 1) := by decide +kernel
theorem dX2_given_40 : decode cX2_given 40 = .ok (.getfield 15, 3) := by decide +kernel
theorem dX2_given_43 : decode cX2_given 43 = .ok (.arraylength, 1) := by decide +kernel
theorem dX2_given_44 : decode cX2_given 44 = .ok (.if_icmp .lt 13, 3) := by decide +kernel
theorem dX2_given_47 : decode cX2_given 47 = .ok (.aload_n 0, 1) := by decide +kernel
theorem dX2_given_48 : decode cX2_given 48 = .ok (.iload_n 1, 1) := by decide +kernel
theorem dX2_given_49 : decode cX2_given 49 = .ok (.iload_n 2, 1) := by decide +kernel
theorem dX2_given_50 : decode cX2_given 50 = .ok (.iload_n 3, 1) := by decide +kernel
theorem dX2_given_51 : decode cX2_given 51 = .ok (.iload 4, 2) := by decide +kernel
theorem dX2_given_53 : decode cX2_given 53 = .ok (.invokevirtual 32, 3) := by decide +kernel
theorem dX2_given_56 : decode cX2_given 56 = .ok (.ireturn, 1) := by decide +kernel
theorem dX2_given_57 : decode cX2_given 57 = .ok (.aload_n 0, 1) := by decide +kernel
theorem dX2_given_58 : decode cX2_given 58 = .ok (.getfield 15, 3) := by decide +kernel
theorem dX2_given_61 : decode cX2_given 61 = .ok (.iload 5, 2) := by decide +kernel
theorem dX2_given_63 : decode cX2_given 63 = .ok (.baload, 1) := by decide +kernel
theorem dX2_given_64 : decode cX2_given 64 = .ok (.ifCond .ge 20, 3) := by decide +kernel
theorem dX2_given_67 : decode cX2_given 67 = .ok (.aload_n 0, 1) := by decide +kernel
theorem dX2_given_68 : decode cX2_given 68 = .ok (.getfield 15, 3) := by decide +kernel
theorem dX2_given_71 : decode cX2_given 71 = .ok (.iload 5, 2) := by decide +kernel
theorem dX2_given_73 : decode cX2_given 73 = .ok (.aload_n 0, 1) := by decide +kernel
theorem dX2_given_74 : decode cX2_given 74 = .ok (.iload_n 1, 1) := by decide +kernel
theorem dX2_given_75 : decode cX2_given 75 = .ok (.iload_n 2, 1) := by decide +kernel
theorem dX2_given_76 : decode cX2_given 76 = .ok (.iload_n 3, 1) := by decide +kernel
theorem dX2_given_77 : decode cX2_given 77 = .ok (.iload 4, 2) := by decide +kernel
theorem dX2_given_79 : decode cX2_given 79 = .ok (.invokevirtual 32, 3) := by decide +kernel
theorem dX2_given_82 : decode cX2_given 82 = .ok (.i2b, 1) := by decide +kernel
theorem dX2_given_83 : decode cX2_given 83 = .ok (.bastore, 1) := by decide +kernel
theorem dX2_given_84 : decode cX2_given 84 = .ok (.aload_n 0, 1) := by decide +kernel
theorem dX2_given_85 : decode cX2_given 85 = .ok (.getfield 15, 3) := by decide +kernel
theorem dX2_given_88 : decode cX2_given 88 = .ok (.iload 5, 2) := by decide +kernel
theorem dX2_given_90 : decode cX2_given 90 = .ok (.baload, 1) := by decide +kernel
theorem dX2_given_91 : decode cX2_given 91 = .ok (.ireturn, 1) := by decide +kernel
theorem dX2_workedOut_0 : decode cX2_workedOut 0 = .ok (.iload_n 1, 1) := by decide +kernel
theorem dX2_workedOut_1 : decode cX2_workedOut 1 = .ok (.ifCond .ne 10, 3) := by decide +kernel
theorem dX2_workedOut_4 : decode cX2_workedOut 4 = .ok (.aload_n 0, 1) := by decide +kernel
theorem dX2_workedOut_5 : decode cX2_workedOut 5 = .ok (.getfield 19, 3) := by decide +kernel
theorem dX2_workedOut_8 : decode cX2_workedOut 8 = .ok (.goto 7, 3) := by decide +kernel
theorem dX2_workedOut_11 : decode cX2_workedOut 11 = .ok (.aload_n 0, 1) := by decide +kernel
theorem dX2_workedOut_12 : decode cX2_workedOut 12 = .ok (.getfield 23, 3) := by decide +kernel
theorem dX2_workedOut_15 : decode cX2_workedOut 15 = .ok (.astore 5, 2) := by decide +kernel
theorem dX2_workedOut_17 : decode cX2_workedOut 17 = .ok (.iconst 0, 1) := by decide +kernel
theorem dX2_workedOut_18 : decode cX2_workedOut 18 = .ok (.istore 6, 2) := by decide +kernel
theorem dX2_workedOut_20 : decode cX2_workedOut 20 = .ok (.iconst 0, 1) := by decide +kernel
theorem dX2_workedOut_21 : decode cX2_workedOut 21 = .ok (.istore 7, 2) := by decide +kernel
theorem dX2_workedOut_23 : decode cX2_workedOut 23 = .ok (.iload 7, 2) := by decide +kernel
theorem dX2_workedOut_25 : decode cX2_workedOut 25 = .ok (.aload 5, 2) := by decide +kernel
theorem dX2_workedOut_27 : decode cX2_workedOut 27 = .ok (.getfield 36, 3) := by decide +kernel
theorem dX2_workedOut_30 : decode cX2_workedOut 30 = .ok (.if_icmp .ge 140, 3) := by decide +kernel
theorem dX2_workedOut_33 : decode cX2_workedOut 33 = .ok (.aload 5, 2) := by decide +kernel
theorem dX2_workedOut_35 : decode cX2_workedOut 35 = .ok (.getfield 42, 3) := by decide +kernel
theorem dX2_workedOut_38 : decode cX2_workedOut 38 = .ok (.iload 7, 2) := by decide +kernel
theorem dX2_workedOut_40 : decode cX2_workedOut 40 = .ok (.iaload, 1) := by decide +kernel
theorem dX2_workedOut_41 : decode cX2_workedOut 41 = .ok (.istore 8, 2) := by decide +kernel
theorem dX2_workedOut_43 : decode cX2_workedOut 43 = .ok (.iload 8, 2) := by decide +kernel
theorem dX2_workedOut_45 : decode cX2_workedOut 45 = .ok (.bipush (-3), 2) := by decide +kernel
theorem dX2_workedOut_47 : decode cX2_workedOut 47 = .ok (.if_icmp .lt 35, 3) := by decide +kernel
theorem dX2_workedOut_50 : decode cX2_workedOut 50 = .ok (.iload 6, 2) := by decide +kernel
theorem dX2_workedOut_52 : decode cX2_workedOut 52 = .ok (.aload_n 0, 1) := by decide +kernel
theorem dX2_workedOut_53 : decode cX2_workedOut 53 = .ok (.getfield 11, 3) := by decide +kernel
theorem dX2_workedOut_56 : decode cX2_workedOut 56 = .ok (.arraylength, 1) := by decide +kernel
theorem dX2_workedOut_57 : decode cX2_workedOut 57 = .ok (.if_icmp .ge 25, 3) := by decide +kernel
theorem dX2_workedOut_60 : decode cX2_workedOut 60 = .ok (.aload_n 0, 1) := by decide +kernel
theorem dX2_workedOut_61 : decode cX2_workedOut 61 = .ok (.getfield 11, 3) := by decide +kernel
theorem dX2_workedOut_64 : decode cX2_workedOut 64 = .ok (.iload 6, 2) := by decide +kernel
theorem dX2_workedOut_66 : decode cX2_workedOut 66 = .ok (.iload 8, 2) := by decide +kernel
theorem dX2_workedOut_68 : decode cX2_workedOut 68 = .ok (.iload_n 2, 1) := by decide +kernel
theorem dX2_workedOut_69 : decode cX2_workedOut 69 = .ok (.iload_n 3, 1) := by decide +kernel
theorem dX2_workedOut_70 : decode cX2_workedOut 70 = .ok (.iload 4, 2) := by decide +kernel
theorem dX2_workedOut_72 : decode cX2_workedOut 72 = .ok (.invokestatic 45, 3) := by decide +kernel
theorem dX2_workedOut_75 : decode cX2_workedOut 75 = .ok (.iastore, 1) := by decide +kernel
theorem dX2_workedOut_76 : decode cX2_workedOut 76 = .ok (.iinc 6 1, 3) := by decide +kernel
theorem dX2_workedOut_79 : decode cX2_workedOut 79 = .ok (.goto 85, 3) := by decide +kernel
theorem dX2_workedOut_82 : decode cX2_workedOut 82 = .ok (.iload 8, 2) := by decide +kernel
theorem dX2_workedOut_84 : decode cX2_workedOut 84 = .ok (.bipush (-33), 2) := by decide +kernel
theorem dX2_workedOut_86 : decode cX2_workedOut 86 = .ok (.if_icmp .ne 38, 3) := by decide +kernel
theorem dX2_workedOut_89 : decode cX2_workedOut 89 = .ok (.iload 6, 2) := by decide +kernel
theorem dX2_workedOut_91 : decode cX2_workedOut 91 = .ok (.iconst 1, 1) := by decide +kernel
theorem dX2_workedOut_92 : decode cX2_workedOut 92 = .ok (.if_icmp .lt 32, 3) := by decide +kernel
theorem dX2_workedOut_95 : decode cX2_workedOut 95 = .ok (.aload_n 0, 1) := by decide +kernel
theorem dX2_workedOut_96 : decode cX2_workedOut 96 = .ok (.getfield 11, 3) := by decide +kernel
theorem dX2_workedOut_99 : decode cX2_workedOut 99 = .ok (.iload 6, 2) := by decide +kernel
theorem dX2_workedOut_101 : decode cX2_workedOut 101 = .ok (.iconst 1, 1) := by decide +kernel
theorem dX2_workedOut_102 : decode cX2_workedOut 102 = .ok (.isub, 1) := by decide +kernel
theorem dX2_workedOut_103 : decode cX2_workedOut 103 = .ok (.aload_n 0, 1) := by decide +kernel
theorem dX2_workedOut_104 : decode cX2_workedOut 104 = .ok (.getfield 11, 3) := by decide +kernel
theorem dX2_workedOut_107 : decode cX2_workedOut 107 = .ok (.iload 6, 2) := by decide +kernel
theorem dX2_workedOut_109 : decode cX2_workedOut 109 = .ok (.iconst 1, 1) := by decide +kernel
theorem dX2_workedOut_110 : decode cX2_workedOut 110 = .ok (.isub, 1) := by decide +kernel
theorem dX2_workedOut_111 : decode cX2_workedOut 111 = .ok (.iaload, 1) := by decide +kernel
theorem dX2_workedOut_112 : decode cX2_workedOut 112 = .ok (.ifCond .ne 7, 3) := by decide +kernel
theorem dX2_workedOut_115 : decode cX2_workedOut 115 = .ok (.iconst 1, 1) := by decide +kernel
theorem dX2_workedOut_116 : decode cX2_workedOut 116 = .ok (.goto 4, 3) := by decide +kernel
theorem dX2_workedOut_119 : decode cX2_workedOut 119 = .ok (.iconst 0, 1) := by decide +kernel
theorem dX2_workedOut_120 : decode cX2_workedOut 120 = .ok (.iastore, 1) := by decide +kernel
theorem dX2_workedOut_121 : decode cX2_workedOut 121 = .ok (.goto 43, 3) := by decide +kernel
theorem dX2_workedOut_124 : decode cX2_workedOut 124 = .ok (.iload 6, 2) := by decide +kernel
theorem dX2_workedOut_126 : decode cX2_workedOut 126 = .ok (.iconst 2, 1) := by decide +kernel
theorem dX2_workedOut_127 : decode cX2_workedOut 127 = .ok (.if_icmp .lt 37, 3) := by decide +kernel
theorem dX2_workedOut_130 : decode cX2_workedOut 130 = .ok (.iinc 6 (-1), 3) := by decide +kernel
theorem dX2_workedOut_133 : decode cX2_workedOut 133 = .ok (.aload_n 0, 1) := by decide +kernel
theorem dX2_workedOut_134 : decode cX2_workedOut 134 = .ok (.getfield 11, 3) := by decide +kernel
theorem dX2_workedOut_137 : decode cX2_workedOut 137 = .ok (.iload 6, 2) := by decide +kernel
theorem dX2_workedOut_139 : decode cX2_workedOut 139 = .ok (.iconst 1, 1) := by decide +kernel
theorem dX2_workedOut_140 : decode cX2_workedOut 140 = .ok (.isub, 1) := by decide +kernel
theorem dX2_workedOut_141 : decode cX2_workedOut 141 = .ok (.iload 8, 2) := by decide +kernel
theorem dX2_workedOut_143 : decode cX2_workedOut 143 = .ok (.ineg, 1) := by decide +kernel
theorem dX2_workedOut_144 : decode cX2_workedOut 144 = .ok (.aload_n 0, 1) := by decide +kernel
theorem dX2_workedOut_145 : decode cX2_workedOut 145 = .ok (.getfield 11, 3) := by decide +kernel
theorem dX2_workedOut_148 : decode cX2_workedOut 148 = .ok (.iload 6, 2) := by decide +kernel
theorem dX2_workedOut_150 : decode cX2_workedOut 150 = .ok (.iconst 1, 1) := by decide +kernel
theorem dX2_workedOut_151 : decode cX2_workedOut 151 = .ok (.isub, 1) := by decide +kernel
theorem dX2_workedOut_152 : decode cX2_workedOut 152 = .ok (.iaload, 1) := by decide +kernel
theorem dX2_workedOut_153 : decode cX2_workedOut 153 = .ok (.aload_n 0, 1) := by decide +kernel
theorem dX2_workedOut_154 : decode cX2_workedOut 154 = .ok (.getfield 11, 3) := by decide +kernel
theorem dX2_workedOut_157 : decode cX2_workedOut 157 = .ok (.iload 6, 2) := by decide +kernel
theorem dX2_workedOut_159 : decode cX2_workedOut 159 = .ok (.iaload, 1) := by decide +kernel
theorem dX2_workedOut_160 : decode cX2_workedOut 160 = .ok (.invokestatic 48, 3) := by decide +kernel
theorem dX2_workedOut_163 : decode cX2_workedOut 163 = .ok (.iastore, 1) := by decide +kernel
theorem dX2_workedOut_164 : decode cX2_workedOut 164 = .ok (.iinc 7 1, 3) := by decide +kernel
theorem dX2_workedOut_167 : decode cX2_workedOut 167 = .ok (.goto (-144), 3) := by decide +kernel
theorem dX2_workedOut_170 : decode cX2_workedOut 170 = .ok (.iload 6, 2) := by decide +kernel
theorem dX2_workedOut_172 : decode cX2_workedOut 172 = .ok (.ifCond .le 15, 3) := by decide +kernel
theorem dX2_workedOut_175 : decode cX2_workedOut 175 = .ok (.aload_n 0, 1) := by decide +kernel
theorem dX2_workedOut_176 : decode cX2_workedOut 176 = .ok (.getfield 11, 3) := by decide +kernel
theorem dX2_workedOut_179 : decode cX2_workedOut 179 = .ok (.iload 6, 2) := by decide +kernel
theorem dX2_workedOut_181 : decode cX2_workedOut 181 = .ok (.iconst 1, 1) := by decide +kernel
theorem dX2_workedOut_182 : decode cX2_workedOut 182 = .ok (.isub, 1) := by decide +kernel
theorem dX2_workedOut_183 : decode cX2_workedOut 183 = .ok (.iaload, 1) := by decide +kernel
theorem dX2_workedOut_184 : decode cX2_workedOut 184 = .ok (.goto 4, 3) := by decide +kernel
theorem dX2_workedOut_187 : decode cX2_workedOut 187 = .ok (.iload_n 2, 1) := by decide +kernel
theorem dX2_workedOut_188 : decode cX2_workedOut 188 = .ok (.istore 7, 2) := by decide +kernel
theorem dX2_workedOut_190 : decode cX2_workedOut 190 = .ok (.iconst 0, 1) := by decide +kernel
theorem dX2_workedOut_191 : decode cX2_workedOut 191 = .ok (.iload_n 1, 1) := by decide +kernel
theorem dX2_workedOut_192 : decode cX2_workedOut 192 = .ok (.ifCond .ne 7, 3) := by decide +kernel
theorem dX2_workedOut_195 : decode cX2_workedOut 195 = .ok (.iconst 4, 1) := by decide +kernel
theorem dX2_workedOut_196 : decode cX2_workedOut 196 = .ok (.goto 5, 3) := by decide +kernel
theorem dX2_workedOut_199 : decode cX2_workedOut 199 = .ok (.bipush 9, 2) := by decide +kernel
theorem dX2_workedOut_201 : decode cX2_workedOut 201 = .ok (.iload 7, 2) := by decide +kernel
theorem dX2_workedOut_203 : decode cX2_workedOut 203 = .ok (.invokestatic 52, 3) := by decide +kernel
theorem dX2_workedOut_206 : decode cX2_workedOut 206 = .ok (.invokestatic 58, 3) := by decide +kernel
theorem dX2_workedOut_209 : decode cX2_workedOut 209 = .ok (.ireturn, 1) := by decide +kernel
theorem dX2_operand_0 : decode cX2_operand 0 = .ok (.iload_n 0, 1) := by decide +kernel
theorem dX2_operand_1 : decode cX2_operand 1 = .ok (.tableswitch 33 (-3) (-1) #[31, 29, 27], 27) := by decide +kernel
theorem dX2_operand_28 : decode cX2_operand 28 = .ok (.iload_n 1, 1) := by decide +kernel
theorem dX2_operand_29 : decode cX2_operand 29 = .ok (.ireturn, 1) := by decide +kernel
theorem dX2_operand_30 : decode cX2_operand 30 = .ok (.iload_n 2, 1) := by decide +kernel
theorem dX2_operand_31 : decode cX2_operand 31 = .ok (.ireturn, 1) := by decide +kernel
theorem dX2_operand_32 : decode cX2_operand 32 = .ok (.iload_n 3, 1) := by decide +kernel
theorem dX2_operand_33 : decode cX2_operand 33 = .ok (.ireturn, 1) := by decide +kernel
theorem dX2_operand_34 : decode cX2_operand 34 = .ok (.iload_n 0, 1) := by decide +kernel
theorem dX2_operand_35 : decode cX2_operand 35 = .ok (.ireturn, 1) := by decide +kernel
theorem dX2_joined_0 : decode cX2_joined 0 = .ok (.iload_n 0, 1) := by decide +kernel
theorem dX2_joined_1 : decode cX2_joined 1 = .ok (.lookupswitch 168 #[(38, 97), (42, 152), (43, 144), (45, 148), (47, 156), (60, 111), (61, 122), (62, 133), (124, 83)], 83) := by decide +kernel
theorem dX2_joined_84 : decode cX2_joined 84 = .ok (.iload_n 1, 1) := by decide +kernel
theorem dX2_joined_85 : decode cX2_joined 85 = .ok (.ifCond .ne 7, 3) := by decide +kernel
theorem dX2_joined_88 : decode cX2_joined 88 = .ok (.iload_n 2, 1) := by decide +kernel
theorem dX2_joined_89 : decode cX2_joined 89 = .ok (.ifCond .eq 7, 3) := by decide +kernel
theorem dX2_joined_92 : decode cX2_joined 92 = .ok (.iconst 1, 1) := by decide +kernel
theorem dX2_joined_93 : decode cX2_joined 93 = .ok (.goto 4, 3) := by decide +kernel
theorem dX2_joined_96 : decode cX2_joined 96 = .ok (.iconst 0, 1) := by decide +kernel
theorem dX2_joined_97 : decode cX2_joined 97 = .ok (.ireturn, 1) := by decide +kernel
theorem dX2_joined_98 : decode cX2_joined 98 = .ok (.iload_n 1, 1) := by decide +kernel
theorem dX2_joined_99 : decode cX2_joined 99 = .ok (.ifCond .eq 11, 3) := by decide +kernel
theorem dX2_joined_102 : decode cX2_joined 102 = .ok (.iload_n 2, 1) := by decide +kernel
theorem dX2_joined_103 : decode cX2_joined 103 = .ok (.ifCond .eq 7, 3) := by decide +kernel
theorem dX2_joined_106 : decode cX2_joined 106 = .ok (.iconst 1, 1) := by decide +kernel
theorem dX2_joined_107 : decode cX2_joined 107 = .ok (.goto 4, 3) := by decide +kernel
theorem dX2_joined_110 : decode cX2_joined 110 = .ok (.iconst 0, 1) := by decide +kernel
theorem dX2_joined_111 : decode cX2_joined 111 = .ok (.ireturn, 1) := by decide +kernel
theorem dX2_joined_112 : decode cX2_joined 112 = .ok (.iload_n 1, 1) := by decide +kernel
theorem dX2_joined_113 : decode cX2_joined 113 = .ok (.iload_n 2, 1) := by decide +kernel
theorem dX2_joined_114 : decode cX2_joined 114 = .ok (.if_icmp .ge 7, 3) := by decide +kernel
theorem dX2_joined_117 : decode cX2_joined 117 = .ok (.iconst 1, 1) := by decide +kernel
theorem dX2_joined_118 : decode cX2_joined 118 = .ok (.goto 4, 3) := by decide +kernel
theorem dX2_joined_121 : decode cX2_joined 121 = .ok (.iconst 0, 1) := by decide +kernel
theorem dX2_joined_122 : decode cX2_joined 122 = .ok (.ireturn, 1) := by decide +kernel
theorem dX2_joined_123 : decode cX2_joined 123 = .ok (.iload_n 1, 1) := by decide +kernel
theorem dX2_joined_124 : decode cX2_joined 124 = .ok (.iload_n 2, 1) := by decide +kernel
theorem dX2_joined_125 : decode cX2_joined 125 = .ok (.if_icmp .ne 7, 3) := by decide +kernel
theorem dX2_joined_128 : decode cX2_joined 128 = .ok (.iconst 1, 1) := by decide +kernel
theorem dX2_joined_129 : decode cX2_joined 129 = .ok (.goto 4, 3) := by decide +kernel
theorem dX2_joined_132 : decode cX2_joined 132 = .ok (.iconst 0, 1) := by decide +kernel
theorem dX2_joined_133 : decode cX2_joined 133 = .ok (.ireturn, 1) := by decide +kernel
theorem dX2_joined_134 : decode cX2_joined 134 = .ok (.iload_n 1, 1) := by decide +kernel
theorem dX2_joined_135 : decode cX2_joined 135 = .ok (.iload_n 2, 1) := by decide +kernel
theorem dX2_joined_136 : decode cX2_joined 136 = .ok (.if_icmp .le 7, 3) := by decide +kernel
theorem dX2_joined_139 : decode cX2_joined 139 = .ok (.iconst 1, 1) := by decide +kernel
theorem dX2_joined_140 : decode cX2_joined 140 = .ok (.goto 4, 3) := by decide +kernel
theorem dX2_joined_143 : decode cX2_joined 143 = .ok (.iconst 0, 1) := by decide +kernel
theorem dX2_joined_144 : decode cX2_joined 144 = .ok (.ireturn, 1) := by decide +kernel
theorem dX2_joined_145 : decode cX2_joined 145 = .ok (.iload_n 1, 1) := by decide +kernel
theorem dX2_joined_146 : decode cX2_joined 146 = .ok (.iload_n 2, 1) := by decide +kernel
theorem dX2_joined_147 : decode cX2_joined 147 = .ok (.iadd, 1) := by decide +kernel
theorem dX2_joined_148 : decode cX2_joined 148 = .ok (.ireturn, 1) := by decide +kernel
theorem dX2_joined_149 : decode cX2_joined 149 = .ok (.iload_n 1, 1) := by decide +kernel
theorem dX2_joined_150 : decode cX2_joined 150 = .ok (.iload_n 2, 1) := by decide +kernel
theorem dX2_joined_151 : decode cX2_joined 151 = .ok (.isub, 1) := by decide +kernel
theorem dX2_joined_152 : decode cX2_joined 152 = .ok (.ireturn, 1) := by decide +kernel
theorem dX2_joined_153 : decode cX2_joined 153 = .ok (.iload_n 1, 1) := by decide +kernel
theorem dX2_joined_154 : decode cX2_joined 154 = .ok (.iload_n 2, 1) := by decide +kernel
theorem dX2_joined_155 : decode cX2_joined 155 = .ok (.imul, 1) := by decide +kernel
theorem dX2_joined_156 : decode cX2_joined 156 = .ok (.ireturn, 1) := by decide +kernel
theorem dX2_joined_157 : decode cX2_joined 157 = .ok (.iload_n 2, 1) := by decide +kernel
theorem dX2_joined_158 : decode cX2_joined 158 = .ok (.ifCond .ne 7, 3) := by decide +kernel
theorem dX2_joined_161 : decode cX2_joined 161 = .ok (.iconst 0, 1) := by decide +kernel
theorem dX2_joined_162 : decode cX2_joined 162 = .ok (.goto 6, 3) := by decide +kernel
theorem dX2_joined_165 : decode cX2_joined 165 = .ok (.iload_n 1, 1) := by decide +kernel
theorem dX2_joined_166 : decode cX2_joined 166 = .ok (.iload_n 2, 1) := by decide +kernel
theorem dX2_joined_167 : decode cX2_joined 167 = .ok (.idiv, 1) := by decide +kernel
theorem dX2_joined_168 : decode cX2_joined 168 = .ok (.ireturn, 1) := by decide +kernel
theorem dX2_joined_169 : decode cX2_joined 169 = .ok (.iload_n 2, 1) := by decide +kernel
theorem dX2_joined_170 : decode cX2_joined 170 = .ok (.ifCond .ne 7, 3) := by decide +kernel
theorem dX2_joined_173 : decode cX2_joined 173 = .ok (.iconst 0, 1) := by decide +kernel
theorem dX2_joined_174 : decode cX2_joined 174 = .ok (.goto 6, 3) := by decide +kernel
theorem dX2_joined_177 : decode cX2_joined 177 = .ok (.iload_n 1, 1) := by decide +kernel
theorem dX2_joined_178 : decode cX2_joined 178 = .ok (.iload_n 2, 1) := by decide +kernel
theorem dX2_joined_179 : decode cX2_joined 179 = .ok (.irem, 1) := by decide +kernel
theorem dX2_joined_180 : decode cX2_joined 180 = .ok (.ireturn, 1) := by decide +kernel
theorem dX3_init_0 : decode cX3_init 0 = .ok (.aload_n 0, 1) := by decide +kernel
theorem dX3_init_1 : decode cX3_init 1 = .ok (.invokespecial 1, 3) := by decide +kernel
theorem dX3_init_4 : decode cX3_init 4 = .ok (.aload_n 0, 1) := by decide +kernel
theorem dX3_init_5 : decode cX3_init 5 = .ok (.new 7, 3) := by decide +kernel
theorem dX3_init_8 : decode cX3_init 8 = .ok (.dup, 1) := by decide +kernel
theorem dX3_init_9 : decode cX3_init 9 = .ok (.bipush 50, 2) := by decide +kernel
theorem dX3_init_11 : decode cX3_init 11 = .ok (.invokespecial 11, 3) := by decide +kernel
theorem dX3_init_14 : decode cX3_init 14 = .ok (.putfield 14, 3) := by decide +kernel
theorem dX3_init_17 : decode cX3_init 17 = .ok (.aload_n 0, 1) := by decide +kernel
theorem dX3_init_18 : decode cX3_init 18 = .ok (.iconst 0, 1) := by decide +kernel
theorem dX3_init_19 : decode cX3_init 19 = .ok (.putfield 20, 3) := by decide +kernel
theorem dX3_init_22 : decode cX3_init 22 = .ok (.aload_n 0, 1) := by decide +kernel
theorem dX3_init_23 : decode cX3_init 23 = .ok (.iconst 0, 1) := by decide +kernel
theorem dX3_init_24 : decode cX3_init 24 = .ok (.putfield 24, 3) := by decide +kernel
theorem dX3_init_27 : decode cX3_init 27 = .ok (.aload_n 0, 1) := by decide +kernel
theorem dX3_init_28 : decode cX3_init 28 = .ok (.iconst 0, 1) := by decide +kernel
theorem dX3_init_29 : decode cX3_init 29 = .ok (.putfield 27, 3) := by decide +kernel
theorem dX3_init_32 : decode cX3_init 32 = .ok (.aload_n 0, 1) := by decide +kernel
theorem dX3_init_33 : decode cX3_init 33 = .ok (.aload_n 1, 1) := by decide +kernel
theorem dX3_init_34 : decode cX3_init 34 = .ok (.putfield 31, 3) := by decide +kernel
theorem dX3_init_37 : decode cX3_init 37 = .ok (.return_, 1) := by decide +kernel
theorem dX3_faultFor_0 : decode cX3_faultFor 0 = .ok (.aload_n 0, 1) := by decide +kernel
theorem dX3_faultFor_1 : decode cX3_faultFor 1 = .ok (.iload_n 1, 1) := by decide +kernel
theorem dX3_faultFor_2 : decode cX3_faultFor 2 = .ok (.putfield 20, 3) := by decide +kernel
theorem dX3_faultFor_5 : decode cX3_faultFor 5 = .ok (.aload_n 0, 1) := by decide +kernel
theorem dX3_faultFor_6 : decode cX3_faultFor 6 = .ok (.iconst 0, 1) := by decide +kernel
theorem dX3_faultFor_7 : decode cX3_faultFor 7 = .ok (.putfield 24, 3) := by decide +kernel
theorem dX3_faultFor_10 : decode cX3_faultFor 10 = .ok (.aload_n 0, 1) := by decide +kernel
theorem dX3_faultFor_11 : decode cX3_faultFor 11 = .ok (.iconst 0, 1) := by decide +kernel
theorem dX3_faultFor_12 : decode cX3_faultFor 12 = .ok (.putfield 27, 3) := by decide +kernel
theorem dX3_faultFor_15 : decode cX3_faultFor 15 = .ok (.aload_n 0, 1) := by decide +kernel
theorem dX3_faultFor_16 : decode cX3_faultFor 16 = .ok (.getfield 14, 3) := by decide +kernel
theorem dX3_faultFor_19 : decode cX3_faultFor 19 = .ok (.iconst 0, 1) := by decide +kernel
theorem dX3_faultFor_20 : decode cX3_faultFor 20 = .ok (.putfield 34, 3) := by decide +kernel
theorem dX3_faultFor_23 : decode cX3_faultFor 23 = .ok (.aload_n 0, 1) := by decide +kernel
theorem dX3_faultFor_24 : decode cX3_faultFor 24 = .ok (.iconst 0, 1) := by decide +kernel
theorem dX3_faultFor_25 : decode cX3_faultFor 25 = .ok (.iconst 0, 1) := by decide +kernel
theorem dX3_faultFor_26 : decode cX3_faultFor 26 = .ok (.invokevirtual 37, 3) := by decide +kernel
theorem dX3_faultFor_29 : decode cX3_faultFor 29 = .ok (.aload_n 0, 1) := by decide +kernel
theorem dX3_faultFor_30 : decode cX3_faultFor 30 = .ok (.getfield 27, 3) := by decide +kernel
theorem dX3_faultFor_33 : decode cX3_faultFor 33 = .ok (.ifCond .ne 17, 3) := by decide +kernel
theorem dX3_faultFor_36 : decode cX3_faultFor 36 = .ok (.aload_n 0, 1) := by decide +kernel
theorem dX3_faultFor_37 : decode cX3_faultFor 37 = .ok (.getfield 24, 3) := by decide +kernel
theorem dX3_faultFor_40 : decode cX3_faultFor 40 = .ok (.aload_n 0, 1) := by decide +kernel
theorem dX3_faultFor_41 : decode cX3_faultFor 41 = .ok (.getfield 31, 3) := by decide +kernel
theorem dX3_faultFor_44 : decode cX3_faultFor 44 = .ok (.getfield 34, 3) := by decide +kernel
theorem dX3_faultFor_47 : decode cX3_faultFor 47 = .ok (.if_icmp .ge 10, 3) := by decide +kernel
theorem dX3_faultFor_50 : decode cX3_faultFor 50 = .ok (.aload_n 0, 1) := by decide +kernel
theorem dX3_faultFor_51 : decode cX3_faultFor 51 = .ok (.getfield 24, 3) := by decide +kernel
theorem dX3_faultFor_54 : decode cX3_faultFor 54 = .ok (.goto 4, 3) := by decide +kernel
theorem dX3_faultFor_57 : decode cX3_faultFor 57 = .ok (.iconst (-1), 1) := by decide +kernel
theorem dX3_faultFor_58 : decode cX3_faultFor 58 = .ok (.ireturn, 1) := by decide +kernel
theorem dX3_sign_0 : decode cX3_sign 0 = .ok (.aload_n 0, 1) := by decide +kernel
theorem dX3_sign_1 : decode cX3_sign 1 = .ok (.getfield 24, 3) := by decide +kernel
theorem dX3_sign_4 : decode cX3_sign 4 = .ok (.aload_n 0, 1) := by decide +kernel
theorem dX3_sign_5 : decode cX3_sign 5 = .ok (.getfield 31, 3) := by decide +kernel
theorem dX3_sign_8 : decode cX3_sign 8 = .ok (.getfield 34, 3) := by decide +kernel
theorem dX3_sign_11 : decode cX3_sign 11 = .ok (.if_icmp .ge 18, 3) := by decide +kernel
theorem dX3_sign_14 : decode cX3_sign 14 = .ok (.aload_n 0, 1) := by decide +kernel
theorem dX3_sign_15 : decode cX3_sign 15 = .ok (.getfield 31, 3) := by decide +kernel
theorem dX3_sign_18 : decode cX3_sign 18 = .ok (.getfield 41, 3) := by decide +kernel
theorem dX3_sign_21 : decode cX3_sign 21 = .ok (.aload_n 0, 1) := by decide +kernel
theorem dX3_sign_22 : decode cX3_sign 22 = .ok (.getfield 24, 3) := by decide +kernel
theorem dX3_sign_25 : decode cX3_sign 25 = .ok (.iaload, 1) := by decide +kernel
theorem dX3_sign_26 : decode cX3_sign 26 = .ok (.goto 4, 3) := by decide +kernel
theorem dX3_sign_29 : decode cX3_sign 29 = .ok (.iconst (-1), 1) := by decide +kernel
theorem dX3_sign_30 : decode cX3_sign 30 = .ok (.ireturn, 1) := by decide +kernel
theorem dX3_stands_0 : decode cX3_stands 0 = .ok (.aload_n 0, 1) := by decide +kernel
theorem dX3_stands_1 : decode cX3_stands 1 = .ok (.getfield 27, 3) := by decide +kernel
theorem dX3_stands_4 : decode cX3_stands 4 = .ok (.ifCond .ne 15, 3) := by decide +kernel
theorem dX3_stands_7 : decode cX3_stands 7 = .ok (.aload_n 0, 1) := by decide +kernel
theorem dX3_stands_8 : decode cX3_stands 8 = .ok (.invokevirtual 45, 3) := by decide +kernel
theorem dX3_stands_11 : decode cX3_stands 11 = .ok (.iload_n 1, 1) := by decide +kernel
theorem dX3_stands_12 : decode cX3_stands 12 = .ok (.if_icmp .ne 7, 3) := by decide +kernel
theorem dX3_stands_15 : decode cX3_stands 15 = .ok (.iconst 1, 1) := by decide +kernel
theorem dX3_stands_16 : decode cX3_stands 16 = .ok (.goto 4, 3) := by decide +kernel
theorem dX3_stands_19 : decode cX3_stands 19 = .ok (.iconst 0, 1) := by decide +kernel
theorem dX3_stands_20 : decode cX3_stands 20 = .ok (.ireturn, 1) := by decide +kernel
theorem dX3_readLevel_0 : decode cX3_readLevel 0 = .ok (.iload_n 1, 1) := by decide +kernel
theorem dX3_readLevel_1 : decode cX3_readLevel 1 = .ok (.iconst 4, 1) := by decide +kernel
theorem dX3_readLevel_2 : decode cX3_readLevel 2 = .ok (.if_icmp .le 9, 3) := by decide +kernel
theorem dX3_readLevel_5 : decode cX3_readLevel 5 = .ok (.aload_n 0, 1) := by decide +kernel
theorem dX3_readLevel_6 : decode cX3_readLevel 6 = .ok (.iload_n 2, 1) := by decide +kernel
theorem dX3_readLevel_7 : decode cX3_readLevel 7 = .ok (.invokevirtual 49, 3) := by decide +kernel
theorem dX3_readLevel_10 : decode cX3_readLevel 10 = .ok (.return_, 1) := by decide +kernel
theorem dX3_readLevel_11 : decode cX3_readLevel 11 = .ok (.aload_n 0, 1) := by decide +kernel
theorem dX3_readLevel_12 : decode cX3_readLevel 12 = .ok (.iload_n 1, 1) := by decide +kernel
theorem dX3_readLevel_13 : decode cX3_readLevel 13 = .ok (.iconst 1, 1) := by decide +kernel
theorem dX3_readLevel_14 : decode cX3_readLevel 14 = .ok (.iadd, 1) := by decide +kernel
theorem dX3_readLevel_15 : decode cX3_readLevel 15 = .ok (.iload_n 2, 1) := by decide +kernel
theorem dX3_readLevel_16 : decode cX3_readLevel 16 = .ok (.invokevirtual 37, 3) := by decide +kernel
theorem dX3_readLevel_19 : decode cX3_readLevel 19 = .ok (.iload_n 1, 1) := by decide +kernel
theorem dX3_readLevel_20 : decode cX3_readLevel 20 = .ok (.iconst 2, 1) := by decide +kernel
theorem dX3_readLevel_21 : decode cX3_readLevel 21 = .ok (.if_icmp .ne 7, 3) := by decide +kernel
theorem dX3_readLevel_24 : decode cX3_readLevel 24 = .ok (.iconst 1, 1) := by decide +kernel
theorem dX3_readLevel_25 : decode cX3_readLevel 25 = .ok (.goto 5, 3) := by decide +kernel
theorem dX3_readLevel_28 : decode cX3_readLevel 28 = .ok (.bipush 50, 2) := by decide +kernel
theorem dX3_readLevel_30 : decode cX3_readLevel 30 = .ok (.istore_n 3, 1) := by decide +kernel
theorem dX3_readLevel_31 : decode cX3_readLevel 31 = .ok (.iconst 0, 1) := by decide +kernel
theorem dX3_readLevel_32 : decode cX3_readLevel 32 = .ok (.istore 4, 2) := by decide +kernel
theorem dX3_readLevel_34 : decode cX3_readLevel 34 = .ok (.iload 4, 2) := by decide +kernel
theorem dX3_readLevel_36 : decode cX3_readLevel 36 = .ok (.iload_n 3, 1) := by decide +kernel
theorem dX3_readLevel_37 : decode cX3_readLevel 37 = .ok (.if_icmp .ge 61, 3) := by decide +kernel
theorem dX3_readLevel_40 : decode cX3_readLevel 40 = .ok (.aload_n 0, 1) := by decide +kernel
theorem dX3_readLevel_41 : decode cX3_readLevel 41 = .ok (.getfield 27, 3) := by decide +kernel
theorem dX3_readLevel_44 : decode cX3_readLevel 44 = .ok (.ifCond .ne 54, 3) := by decide +kernel
theorem dX3_readLevel_47 : decode cX3_readLevel 47 = .ok (.aload_n 0, 1) := by decide +kernel
theorem dX3_readLevel_48 : decode cX3_readLevel 48 = .ok (.invokevirtual 45, 3) := by decide +kernel
theorem dX3_readLevel_51 : decode cX3_readLevel 51 = .ok (.invokestatic 52, 3) := by decide +kernel
theorem dX3_readLevel_54 : decode cX3_readLevel 54 = .ok (.iload_n 1, 1) := by decide +kernel
theorem dX3_readLevel_55 : decode cX3_readLevel 55 = .ok (.if_icmp .ne 43, 3) := by decide +kernel
theorem dX3_readLevel_58 : decode cX3_readLevel 58 = .ok (.aload_n 0, 1) := by decide +kernel
theorem dX3_readLevel_59 : decode cX3_readLevel 59 = .ok (.invokevirtual 45, 3) := by decide +kernel
theorem dX3_readLevel_62 : decode cX3_readLevel 62 = .ok (.istore 5, 2) := by decide +kernel
theorem dX3_readLevel_64 : decode cX3_readLevel 64 = .ok (.aload_n 0, 1) := by decide +kernel
theorem dX3_readLevel_65 : decode cX3_readLevel 65 = .ok (.dup, 1) := by decide +kernel
theorem dX3_readLevel_66 : decode cX3_readLevel 66 = .ok (.getfield 24, 3) := by decide +kernel
theorem dX3_readLevel_69 : decode cX3_readLevel 69 = .ok (.iconst 1, 1) := by decide +kernel
theorem dX3_readLevel_70 : decode cX3_readLevel 70 = .ok (.iadd, 1) := by decide +kernel
theorem dX3_readLevel_71 : decode cX3_readLevel 71 = .ok (.putfield 24, 3) := by decide +kernel
theorem dX3_readLevel_74 : decode cX3_readLevel 74 = .ok (.aload_n 0, 1) := by decide +kernel
theorem dX3_readLevel_75 : decode cX3_readLevel 75 = .ok (.iload_n 1, 1) := by decide +kernel
theorem dX3_readLevel_76 : decode cX3_readLevel 76 = .ok (.iconst 1, 1) := by decide +kernel
theorem dX3_readLevel_77 : decode cX3_readLevel 77 = .ok (.iadd, 1) := by decide +kernel
theorem dX3_readLevel_78 : decode cX3_readLevel 78 = .ok (.iload_n 2, 1) := by decide +kernel
theorem dX3_readLevel_79 : decode cX3_readLevel 79 = .ok (.invokevirtual 37, 3) := by decide +kernel
theorem dX3_readLevel_82 : decode cX3_readLevel 82 = .ok (.aload_n 0, 1) := by decide +kernel
theorem dX3_readLevel_83 : decode cX3_readLevel 83 = .ok (.getfield 14, 3) := by decide +kernel
theorem dX3_readLevel_86 : decode cX3_readLevel 86 = .ok (.iload 5, 2) := by decide +kernel
theorem dX3_readLevel_88 : decode cX3_readLevel 88 = .ok (.ineg, 1) := by decide +kernel
theorem dX3_readLevel_89 : decode cX3_readLevel 89 = .ok (.invokevirtual 56, 3) := by decide +kernel
theorem dX3_readLevel_92 : decode cX3_readLevel 92 = .ok (.iinc 4 1, 3) := by decide +kernel
theorem dX3_readLevel_95 : decode cX3_readLevel 95 = .ok (.goto (-61), 3) := by decide +kernel
theorem dX3_readLevel_98 : decode cX3_readLevel 98 = .ok (.return_, 1) := by decide +kernel
theorem dX3_levelOf_0 : decode cX3_levelOf 0 = .ok (.iload_n 0, 1) := by decide +kernel
theorem dX3_levelOf_1 : decode cX3_levelOf 1 = .ok (.lookupswitch 101 #[(37, 99), (38, 93), (42, 99), (43, 97), (45, 97), (47, 99), (60, 95), (61, 95), (62, 95), (124, 91)], 91) := by decide +kernel
theorem dX3_levelOf_92 : decode cX3_levelOf 92 = .ok (.iconst 0, 1) := by decide +kernel
theorem dX3_levelOf_93 : decode cX3_levelOf 93 = .ok (.ireturn, 1) := by decide +kernel
theorem dX3_levelOf_94 : decode cX3_levelOf 94 = .ok (.iconst 1, 1) := by decide +kernel
theorem dX3_levelOf_95 : decode cX3_levelOf 95 = .ok (.ireturn, 1) := by decide +kernel
theorem dX3_levelOf_96 : decode cX3_levelOf 96 = .ok (.iconst 2, 1) := by decide +kernel
theorem dX3_levelOf_97 : decode cX3_levelOf 97 = .ok (.ireturn, 1) := by decide +kernel
theorem dX3_levelOf_98 : decode cX3_levelOf 98 = .ok (.iconst 3, 1) := by decide +kernel
theorem dX3_levelOf_99 : decode cX3_levelOf 99 = .ok (.ireturn, 1) := by decide +kernel
theorem dX3_levelOf_100 : decode cX3_levelOf 100 = .ok (.iconst 4, 1) := by decide +kernel
theorem dX3_levelOf_101 : decode cX3_levelOf 101 = .ok (.ireturn, 1) := by decide +kernel
theorem dX3_levelOf_102 : decode cX3_levelOf 102 = .ok (.iconst (-1), 1) := by decide +kernel
theorem dX3_levelOf_103 : decode cX3_levelOf 103 = .ok (.ireturn, 1) := by decide +kernel
theorem dX3_readSingle_0 : decode cX3_readSingle 0 = .ok (.aload_n 0, 1) := by decide +kernel
theorem dX3_readSingle_1 : decode cX3_readSingle 1 = .ok (.bipush 33, 2) := by decide +kernel
theorem dX3_readSingle_3 : decode cX3_readSingle 3 = .ok (.invokevirtual 59, 3) := by decide +kernel
theorem dX3_readSingle_6 : decode cX3_readSingle 6 = .ok (.ifCond .ne 12, 3) := by decide +kernel
theorem dX3_readSingle_9 : decode cX3_readSingle 9 = .ok (.aload_n 0, 1) := by decide +kernel
theorem dX3_readSingle_10 : decode cX3_readSingle 10 = .ok (.bipush 40, 2) := by decide +kernel
theorem dX3_readSingle_12 : decode cX3_readSingle 12 = .ok (.invokevirtual 59, 3) := by decide +kernel
theorem dX3_readSingle_15 : decode cX3_readSingle 15 = .ok (.ifCond .eq 11, 3) := by decide +kernel
theorem dX3_readSingle_18 : decode cX3_readSingle 18 = .ok (.aload_n 0, 1) := by decide +kernel
theorem dX3_readSingle_19 : decode cX3_readSingle 19 = .ok (.iload_n 1, 1) := by decide +kernel
theorem dX3_readSingle_20 : decode cX3_readSingle 20 = .ok (.invokevirtual 63, 3) := by decide +kernel
theorem dX3_readSingle_23 : decode cX3_readSingle 23 = .ok (.goto 21, 3) := by decide +kernel
theorem dX3_readSingle_26 : decode cX3_readSingle 26 = .ok (.aload_n 0, 1) := by decide +kernel
theorem dX3_readSingle_27 : decode cX3_readSingle 27 = .ok (.invokevirtual 66, 3) := by decide +kernel
theorem dX3_readSingle_30 : decode cX3_readSingle 30 = .ok (.ifCond .eq 10, 3) := by decide +kernel
theorem dX3_readSingle_33 : decode cX3_readSingle 33 = .ok (.aload_n 0, 1) := by decide +kernel
theorem dX3_readSingle_34 : decode cX3_readSingle 34 = .ok (.invokevirtual 70, 3) := by decide +kernel
theorem dX3_readSingle_37 : decode cX3_readSingle 37 = .ok (.goto 7, 3) := by decide +kernel
theorem dX3_readSingle_40 : decode cX3_readSingle 40 = .ok (.aload_n 0, 1) := by decide +kernel
theorem dX3_readSingle_41 : decode cX3_readSingle 41 = .ok (.invokevirtual 73, 3) := by decide +kernel
theorem dX3_readSingle_44 : decode cX3_readSingle 44 = .ok (.return_, 1) := by decide +kernel
theorem dX3_readOpened_0 : decode cX3_readOpened 0 = .ok (.iload_n 1, 1) := by decide +kernel
theorem dX3_readOpened_1 : decode cX3_readOpened 1 = .ok (.iconst 5, 1) := by decide +kernel
theorem dX3_readOpened_2 : decode cX3_readOpened 2 = .ok (.if_icmp .lt 9, 3) := by decide +kernel
theorem dX3_readOpened_5 : decode cX3_readOpened 5 = .ok (.aload_n 0, 1) := by decide +kernel
theorem dX3_readOpened_6 : decode cX3_readOpened 6 = .ok (.iconst 1, 1) := by decide +kernel
theorem dX3_readOpened_7 : decode cX3_readOpened 7 = .ok (.putfield 27, 3) := by decide +kernel
theorem dX3_readOpened_10 : decode cX3_readOpened 10 = .ok (.return_, 1) := by decide +kernel
theorem dX3_readOpened_11 : decode cX3_readOpened 11 = .ok (.aload_n 0, 1) := by decide +kernel
theorem dX3_readOpened_12 : decode cX3_readOpened 12 = .ok (.invokevirtual 45, 3) := by decide +kernel
theorem dX3_readOpened_15 : decode cX3_readOpened 15 = .ok (.istore_n 2, 1) := by decide +kernel
theorem dX3_readOpened_16 : decode cX3_readOpened 16 = .ok (.aload_n 0, 1) := by decide +kernel
theorem dX3_readOpened_17 : decode cX3_readOpened 17 = .ok (.dup, 1) := by decide +kernel
theorem dX3_readOpened_18 : decode cX3_readOpened 18 = .ok (.getfield 24, 3) := by decide +kernel
theorem dX3_readOpened_21 : decode cX3_readOpened 21 = .ok (.iconst 1, 1) := by decide +kernel
theorem dX3_readOpened_22 : decode cX3_readOpened 22 = .ok (.iadd, 1) := by decide +kernel
theorem dX3_readOpened_23 : decode cX3_readOpened 23 = .ok (.putfield 24, 3) := by decide +kernel
theorem dX3_readOpened_26 : decode cX3_readOpened 26 = .ok (.iload_n 2, 1) := by decide +kernel
theorem dX3_readOpened_27 : decode cX3_readOpened 27 = .ok (.bipush 33, 2) := by decide +kernel
theorem dX3_readOpened_29 : decode cX3_readOpened 29 = .ok (.if_icmp .ne 20, 3) := by decide +kernel
theorem dX3_readOpened_32 : decode cX3_readOpened 32 = .ok (.aload_n 0, 1) := by decide +kernel
theorem dX3_readOpened_33 : decode cX3_readOpened 33 = .ok (.iload_n 1, 1) := by decide +kernel
theorem dX3_readOpened_34 : decode cX3_readOpened 34 = .ok (.iconst 1, 1) := by decide +kernel
theorem dX3_readOpened_35 : decode cX3_readOpened 35 = .ok (.iadd, 1) := by decide +kernel
theorem dX3_readOpened_36 : decode cX3_readOpened 36 = .ok (.invokevirtual 49, 3) := by decide +kernel
theorem dX3_readOpened_39 : decode cX3_readOpened 39 = .ok (.aload_n 0, 1) := by decide +kernel
theorem dX3_readOpened_40 : decode cX3_readOpened 40 = .ok (.getfield 14, 3) := by decide +kernel
theorem dX3_readOpened_43 : decode cX3_readOpened 43 = .ok (.bipush (-33), 2) := by decide +kernel
theorem dX3_readOpened_45 : decode cX3_readOpened 45 = .ok (.invokevirtual 56, 3) := by decide +kernel
theorem dX3_readOpened_48 : decode cX3_readOpened 48 = .ok (.return_, 1) := by decide +kernel
theorem dX3_readOpened_49 : decode cX3_readOpened 49 = .ok (.aload_n 0, 1) := by decide +kernel
theorem dX3_readOpened_50 : decode cX3_readOpened 50 = .ok (.iconst 0, 1) := by decide +kernel
theorem dX3_readOpened_51 : decode cX3_readOpened 51 = .ok (.iload_n 1, 1) := by decide +kernel
theorem dX3_readOpened_52 : decode cX3_readOpened 52 = .ok (.iconst 1, 1) := by decide +kernel
theorem dX3_readOpened_53 : decode cX3_readOpened 53 = .ok (.iadd, 1) := by decide +kernel
theorem dX3_readOpened_54 : decode cX3_readOpened 54 = .ok (.invokevirtual 37, 3) := by decide +kernel
theorem dX3_readOpened_57 : decode cX3_readOpened 57 = .ok (.aload_n 0, 1) := by decide +kernel
theorem dX3_readOpened_58 : decode cX3_readOpened 58 = .ok (.bipush 41, 2) := by decide +kernel
theorem dX3_readOpened_60 : decode cX3_readOpened 60 = .ok (.invokevirtual 59, 3) := by decide +kernel
theorem dX3_readOpened_63 : decode cX3_readOpened 63 = .ok (.ifCond .eq 16, 3) := by decide +kernel
theorem dX3_readOpened_66 : decode cX3_readOpened 66 = .ok (.aload_n 0, 1) := by decide +kernel
theorem dX3_readOpened_67 : decode cX3_readOpened 67 = .ok (.dup, 1) := by decide +kernel
theorem dX3_readOpened_68 : decode cX3_readOpened 68 = .ok (.getfield 24, 3) := by decide +kernel
theorem dX3_readOpened_71 : decode cX3_readOpened 71 = .ok (.iconst 1, 1) := by decide +kernel
theorem dX3_readOpened_72 : decode cX3_readOpened 72 = .ok (.iadd, 1) := by decide +kernel
theorem dX3_readOpened_73 : decode cX3_readOpened 73 = .ok (.putfield 24, 3) := by decide +kernel
theorem dX3_readOpened_76 : decode cX3_readOpened 76 = .ok (.goto 8, 3) := by decide +kernel
theorem dX3_readOpened_79 : decode cX3_readOpened 79 = .ok (.aload_n 0, 1) := by decide +kernel
theorem dX3_readOpened_80 : decode cX3_readOpened 80 = .ok (.iconst 1, 1) := by decide +kernel
theorem dX3_readOpened_81 : decode cX3_readOpened 81 = .ok (.putfield 27, 3) := by decide +kernel
theorem dX3_readOpened_84 : decode cX3_readOpened 84 = .ok (.return_, 1) := by decide +kernel
theorem dX3_isDigit_0 : decode cX3_isDigit 0 = .ok (.aload_n 0, 1) := by decide +kernel
theorem dX3_isDigit_1 : decode cX3_isDigit 1 = .ok (.invokevirtual 45, 3) := by decide +kernel
theorem dX3_isDigit_4 : decode cX3_isDigit 4 = .ok (.bipush 48, 2) := by decide +kernel
theorem dX3_isDigit_6 : decode cX3_isDigit 6 = .ok (.if_icmp .lt 16, 3) := by decide +kernel
theorem dX3_isDigit_9 : decode cX3_isDigit 9 = .ok (.aload_n 0, 1) := by decide +kernel
theorem dX3_isDigit_10 : decode cX3_isDigit 10 = .ok (.invokevirtual 45, 3) := by decide +kernel
theorem dX3_isDigit_13 : decode cX3_isDigit 13 = .ok (.bipush 57, 2) := by decide +kernel
theorem dX3_isDigit_15 : decode cX3_isDigit 15 = .ok (.if_icmp .gt 7, 3) := by decide +kernel
theorem dX3_isDigit_18 : decode cX3_isDigit 18 = .ok (.iconst 1, 1) := by decide +kernel
theorem dX3_isDigit_19 : decode cX3_isDigit 19 = .ok (.goto 4, 3) := by decide +kernel
theorem dX3_isDigit_22 : decode cX3_isDigit 22 = .ok (.iconst 0, 1) := by decide +kernel
theorem dX3_isDigit_23 : decode cX3_isDigit 23 = .ok (.ireturn, 1) := by decide +kernel
theorem dX3_readNumber_0 : decode cX3_readNumber 0 = .ok (.iconst 0, 1) := by decide +kernel
theorem dX3_readNumber_1 : decode cX3_readNumber 1 = .ok (.istore_n 1, 1) := by decide +kernel
theorem dX3_readNumber_2 : decode cX3_readNumber 2 = .ok (.iconst 0, 1) := by decide +kernel
theorem dX3_readNumber_3 : decode cX3_readNumber 3 = .ok (.istore_n 2, 1) := by decide +kernel
theorem dX3_readNumber_4 : decode cX3_readNumber 4 = .ok (.iload_n 2, 1) := by decide +kernel
theorem dX3_readNumber_5 : decode cX3_readNumber 5 = .ok (.iconst 4, 1) := by decide +kernel
theorem dX3_readNumber_6 : decode cX3_readNumber 6 = .ok (.if_icmp .ge 39, 3) := by decide +kernel
theorem dX3_readNumber_9 : decode cX3_readNumber 9 = .ok (.aload_n 0, 1) := by decide +kernel
theorem dX3_readNumber_10 : decode cX3_readNumber 10 = .ok (.invokevirtual 66, 3) := by decide +kernel
theorem dX3_readNumber_13 : decode cX3_readNumber 13 = .ok (.ifCond .eq 32, 3) := by decide +kernel
theorem dX3_readNumber_16 : decode cX3_readNumber 16 = .ok (.iload_n 1, 1) := by decide +kernel
theorem dX3_readNumber_17 : decode cX3_readNumber 17 = .ok (.bipush 10, 2) := by decide +kernel
theorem dX3_readNumber_19 : decode cX3_readNumber 19 = .ok (.imul, 1) := by decide +kernel
theorem dX3_readNumber_20 : decode cX3_readNumber 20 = .ok (.aload_n 0, 1) := by decide +kernel
theorem dX3_readNumber_21 : decode cX3_readNumber 21 = .ok (.invokevirtual 45, 3) := by decide +kernel
theorem dX3_readNumber_24 : decode cX3_readNumber 24 = .ok (.iadd, 1) := by decide +kernel
theorem dX3_readNumber_25 : decode cX3_readNumber 25 = .ok (.bipush 48, 2) := by decide +kernel
theorem dX3_readNumber_27 : decode cX3_readNumber 27 = .ok (.isub, 1) := by decide +kernel
theorem dX3_readNumber_28 : decode cX3_readNumber 28 = .ok (.istore_n 1, 1) := by decide +kernel
theorem dX3_readNumber_29 : decode cX3_readNumber 29 = .ok (.aload_n 0, 1) := by decide +kernel
theorem dX3_readNumber_30 : decode cX3_readNumber 30 = .ok (.dup, 1) := by decide +kernel
theorem dX3_readNumber_31 : decode cX3_readNumber 31 = .ok (.getfield 24, 3) := by decide +kernel
theorem dX3_readNumber_34 : decode cX3_readNumber 34 = .ok (.iconst 1, 1) := by decide +kernel
theorem dX3_readNumber_35 : decode cX3_readNumber 35 = .ok (.iadd, 1) := by decide +kernel
theorem dX3_readNumber_36 : decode cX3_readNumber 36 = .ok (.putfield 24, 3) := by decide +kernel
theorem dX3_readNumber_39 : decode cX3_readNumber 39 = .ok (.iinc 2 1, 3) := by decide +kernel
theorem dX3_readNumber_42 : decode cX3_readNumber 42 = .ok (.goto (-38), 3) := by decide +kernel
theorem dX3_readNumber_45 : decode cX3_readNumber 45 = .ok (.aload_n 0, 1) := by decide +kernel
theorem dX3_readNumber_46 : decode cX3_readNumber 46 = .ok (.getfield 14, 3) := by decide +kernel
theorem dX3_readNumber_49 : decode cX3_readNumber 49 = .ok (.iload_n 1, 1) := by decide +kernel
theorem dX3_readNumber_50 : decode cX3_readNumber 50 = .ok (.invokevirtual 56, 3) := by decide +kernel
theorem dX3_readNumber_53 : decode cX3_readNumber 53 = .ok (.return_, 1) := by decide +kernel
theorem dX3_readName_0 : decode cX3_readName 0 = .ok (.aload_n 0, 1) := by decide +kernel
theorem dX3_readName_1 : decode cX3_readName 1 = .ok (.aload_n 0, 1) := by decide +kernel
theorem dX3_readName_2 : decode cX3_readName 2 = .ok (.getfield 20, 3) := by decide +kernel
theorem dX3_readName_5 : decode cX3_readName 5 = .ok (.ifCond .ne 8, 3) := by decide +kernel
theorem dX3_readName_8 : decode cX3_readName 8 = .ok (.bipush 108, 2) := by decide +kernel
theorem dX3_readName_10 : decode cX3_readName 10 = .ok (.goto 5, 3) := by decide +kernel
theorem dX3_readName_13 : decode cX3_readName 13 = .ok (.bipush 101, 2) := by decide +kernel
theorem dX3_readName_15 : decode cX3_readName 15 = .ok (.invokevirtual 59, 3) := by decide +kernel
theorem dX3_readName_18 : decode cX3_readName 18 = .ok (.ifCond .eq 14, 3) := by decide +kernel
theorem dX3_readName_21 : decode cX3_readName 21 = .ok (.aload_n 0, 1) := by decide +kernel
theorem dX3_readName_22 : decode cX3_readName 22 = .ok (.getfield 14, 3) := by decide +kernel
theorem dX3_readName_25 : decode cX3_readName 25 = .ok (.iconst (-1), 1) := by decide +kernel
theorem dX3_readName_26 : decode cX3_readName 26 = .ok (.invokevirtual 56, 3) := by decide +kernel
theorem dX3_readName_29 : decode cX3_readName 29 = .ok (.goto 51, 3) := by decide +kernel
theorem dX3_readName_32 : decode cX3_readName 32 = .ok (.aload_n 0, 1) := by decide +kernel
theorem dX3_readName_33 : decode cX3_readName 33 = .ok (.bipush 115, 2) := by decide +kernel
theorem dX3_readName_35 : decode cX3_readName 35 = .ok (.invokevirtual 59, 3) := by decide +kernel
theorem dX3_readName_38 : decode cX3_readName 38 = .ok (.ifCond .eq 15, 3) := by decide +kernel
theorem dX3_readName_41 : decode cX3_readName 41 = .ok (.aload_n 0, 1) := by decide +kernel
theorem dX3_readName_42 : decode cX3_readName 42 = .ok (.getfield 14, 3) := by decide +kernel
theorem dX3_readName_45 : decode cX3_readName 45 = .ok (.bipush (-2), 2) := by decide +kernel
theorem dX3_readName_47 : decode cX3_readName 47 = .ok (.invokevirtual 56, 3) := by decide +kernel
theorem dX3_readName_50 : decode cX3_readName 50 = .ok (.goto 30, 3) := by decide +kernel
theorem dX3_readName_53 : decode cX3_readName 53 = .ok (.aload_n 0, 1) := by decide +kernel
theorem dX3_readName_54 : decode cX3_readName 54 = .ok (.bipush 103, 2) := by decide +kernel
theorem dX3_readName_56 : decode cX3_readName 56 = .ok (.invokevirtual 59, 3) := by decide +kernel
theorem dX3_readName_59 : decode cX3_readName 59 = .ok (.ifCond .eq 15, 3) := by decide +kernel
theorem dX3_readName_62 : decode cX3_readName 62 = .ok (.aload_n 0, 1) := by decide +kernel
theorem dX3_readName_63 : decode cX3_readName 63 = .ok (.getfield 14, 3) := by decide +kernel
theorem dX3_readName_66 : decode cX3_readName 66 = .ok (.bipush (-3), 2) := by decide +kernel
theorem dX3_readName_68 : decode cX3_readName 68 = .ok (.invokevirtual 56, 3) := by decide +kernel
theorem dX3_readName_71 : decode cX3_readName 71 = .ok (.goto 9, 3) := by decide +kernel
theorem dX3_readName_74 : decode cX3_readName 74 = .ok (.aload_n 0, 1) := by decide +kernel
theorem dX3_readName_75 : decode cX3_readName 75 = .ok (.iconst 1, 1) := by decide +kernel
theorem dX3_readName_76 : decode cX3_readName 76 = .ok (.putfield 27, 3) := by decide +kernel
theorem dX3_readName_79 : decode cX3_readName 79 = .ok (.return_, 1) := by decide +kernel
theorem dX3_readName_80 : decode cX3_readName 80 = .ok (.aload_n 0, 1) := by decide +kernel
theorem dX3_readName_81 : decode cX3_readName 81 = .ok (.dup, 1) := by decide +kernel
theorem dX3_readName_82 : decode cX3_readName 82 = .ok (.getfield 24, 3) := by decide +kernel
theorem dX3_readName_85 : decode cX3_readName 85 = .ok (.iconst 1, 1) := by decide +kernel
theorem dX3_readName_86 : decode cX3_readName 86 = .ok (.iadd, 1) := by decide +kernel
theorem dX3_readName_87 : decode cX3_readName 87 = .ok (.putfield 24, 3) := by decide +kernel
theorem dX3_readName_90 : decode cX3_readName 90 = .ok (.return_, 1) := by decide +kernel
theorem dX4_init_0 : decode cX4_init 0 = .ok (.aload_n 0, 1) := by decide +kernel
theorem dX4_init_1 : decode cX4_init 1 = .ok (.invokespecial 1, 3) := by decide +kernel
theorem dX4_init_4 : decode cX4_init 4 = .ok (.aload_n 0, 1) := by decide +kernel
theorem dX4_init_5 : decode cX4_init 5 = .ok (.iconst 0, 1) := by decide +kernel
theorem dX4_init_6 : decode cX4_init 6 = .ok (.putfield 7, 3) := by decide +kernel
theorem dX4_init_9 : decode cX4_init 9 = .ok (.aload_n 0, 1) := by decide +kernel
theorem dX4_init_10 : decode cX4_init 10 = .ok (.iconst 0, 1) := by decide +kernel
theorem dX4_init_11 : decode cX4_init 11 = .ok (.iload_n 1, 1) := by decide +kernel
theorem dX4_init_12 : decode cX4_init 12 = .ok (.invokestatic 13, 3) := by decide +kernel
theorem dX4_init_15 : decode cX4_init 15 = .ok (.newarray .int, 2) := by decide +kernel
theorem dX4_init_17 : decode cX4_init 17 = .ok (.putfield 19, 3) := by decide +kernel
theorem dX4_init_20 : decode cX4_init 20 = .ok (.return_, 1) := by decide +kernel
theorem dX4_add_0 : decode cX4_add 0 = .ok (.aload_n 0, 1) := by decide +kernel
theorem dX4_add_1 : decode cX4_add 1 = .ok (.getfield 7, 3) := by decide +kernel
theorem dX4_add_4 : decode cX4_add 4 = .ok (.aload_n 0, 1) := by decide +kernel
theorem dX4_add_5 : decode cX4_add 5 = .ok (.getfield 19, 3) := by decide +kernel
theorem dX4_add_8 : decode cX4_add 8 = .ok (.arraylength, 1) := by decide +kernel
theorem dX4_add_9 : decode cX4_add 9 = .ok (.if_icmp .ge 23, 3) := by decide +kernel
theorem dX4_add_12 : decode cX4_add 12 = .ok (.aload_n 0, 1) := by decide +kernel
theorem dX4_add_13 : decode cX4_add 13 = .ok (.getfield 19, 3) := by decide +kernel
theorem dX4_add_16 : decode cX4_add 16 = .ok (.aload_n 0, 1) := by decide +kernel
theorem dX4_add_17 : decode cX4_add 17 = .ok (.getfield 7, 3) := by decide +kernel
theorem dX4_add_20 : decode cX4_add 20 = .ok (.iload_n 1, 1) := by decide +kernel
theorem dX4_add_21 : decode cX4_add 21 = .ok (.iastore, 1) := by decide +kernel
theorem dX4_add_22 : decode cX4_add 22 = .ok (.aload_n 0, 1) := by decide +kernel
theorem dX4_add_23 : decode cX4_add 23 = .ok (.dup, 1) := by decide +kernel
theorem dX4_add_24 : decode cX4_add 24 = .ok (.getfield 7, 3) := by decide +kernel
theorem dX4_add_27 : decode cX4_add 27 = .ok (.iconst 1, 1) := by decide +kernel
theorem dX4_add_28 : decode cX4_add 28 = .ok (.iadd, 1) := by decide +kernel
theorem dX4_add_29 : decode cX4_add 29 = .ok (.putfield 7, 3) := by decide +kernel
theorem dX4_add_32 : decode cX4_add 32 = .ok (.return_, 1) := by decide +kernel
theorem dX4_copyFrom_0 : decode cX4_copyFrom 0 = .ok (.aload_n 0, 1) := by decide +kernel
theorem dX4_copyFrom_1 : decode cX4_copyFrom 1 = .ok (.aload_n 1, 1) := by decide +kernel
theorem dX4_copyFrom_2 : decode cX4_copyFrom 2 = .ok (.getfield 7, 3) := by decide +kernel
theorem dX4_copyFrom_5 : decode cX4_copyFrom 5 = .ok (.aload_n 0, 1) := by decide +kernel
theorem dX4_copyFrom_6 : decode cX4_copyFrom 6 = .ok (.getfield 19, 3) := by decide +kernel
theorem dX4_copyFrom_9 : decode cX4_copyFrom 9 = .ok (.arraylength, 1) := by decide +kernel
theorem dX4_copyFrom_10 : decode cX4_copyFrom 10 = .ok (.invokestatic 23, 3) := by decide +kernel
theorem dX4_copyFrom_13 : decode cX4_copyFrom 13 = .ok (.putfield 7, 3) := by decide +kernel
theorem dX4_copyFrom_16 : decode cX4_copyFrom 16 = .ok (.aload_n 1, 1) := by decide +kernel
theorem dX4_copyFrom_17 : decode cX4_copyFrom 17 = .ok (.getfield 19, 3) := by decide +kernel
theorem dX4_copyFrom_20 : decode cX4_copyFrom 20 = .ok (.iconst 0, 1) := by decide +kernel
theorem dX4_copyFrom_21 : decode cX4_copyFrom 21 = .ok (.aload_n 0, 1) := by decide +kernel
theorem dX4_copyFrom_22 : decode cX4_copyFrom 22 = .ok (.getfield 19, 3) := by decide +kernel
theorem dX4_copyFrom_25 : decode cX4_copyFrom 25 = .ok (.iconst 0, 1) := by decide +kernel
theorem dX4_copyFrom_26 : decode cX4_copyFrom 26 = .ok (.aload_n 0, 1) := by decide +kernel
theorem dX4_copyFrom_27 : decode cX4_copyFrom 27 = .ok (.getfield 7, 3) := by decide +kernel
theorem dX4_copyFrom_30 : decode cX4_copyFrom 30 = .ok (.invokestatic 26, 3) := by decide +kernel
theorem dX4_copyFrom_33 : decode cX4_copyFrom 33 = .ok (.return_, 1) := by decide +kernel
theorem dX5_init_0 : decode cX5_init 0 = .ok (.aload_n 0, 1) := by decide +kernel
theorem dX5_init_1 : decode cX5_init 1 = .ok (.invokespecial 3, 3) := by decide +kernel
theorem dX5_init_4 : decode cX5_init 4 = .ok (.aload_n 0, 1) := by decide +kernel
theorem dX5_init_5 : decode cX5_init 5 = .ok (.bipush 40, 2) := by decide +kernel
theorem dX5_init_7 : decode cX5_init 7 = .ok (.newarray .int, 2) := by decide +kernel
theorem dX5_init_9 : decode cX5_init 9 = .ok (.putfield 9, 3) := by decide +kernel
theorem dX5_init_12 : decode cX5_init 12 = .ok (.aload_n 0, 1) := by decide +kernel
theorem dX5_init_13 : decode cX5_init 13 = .ok (.iconst 0, 1) := by decide +kernel
theorem dX5_init_14 : decode cX5_init 14 = .ok (.putfield 15, 3) := by decide +kernel
theorem dX5_init_17 : decode cX5_init 17 = .ok (.aload_n 0, 1) := by decide +kernel
theorem dX5_init_18 : decode cX5_init 18 = .ok (.iconst 0, 1) := by decide +kernel
theorem dX5_init_19 : decode cX5_init 19 = .ok (.putfield 19, 3) := by decide +kernel
theorem dX5_init_22 : decode cX5_init 22 = .ok (.return_, 1) := by decide +kernel
theorem dX5_lay_0 : decode cX5_lay 0 = .ok (.aload_n 0, 1) := by decide +kernel
theorem dX5_lay_1 : decode cX5_lay 1 = .ok (.iload_n 1, 1) := by decide +kernel
theorem dX5_lay_2 : decode cX5_lay 2 = .ok (.putfield 19, 3) := by decide +kernel
theorem dX5_lay_5 : decode cX5_lay 5 = .ok (.aload_n 0, 1) := by decide +kernel
theorem dX5_lay_6 : decode cX5_lay 6 = .ok (.iload_n 2, 1) := by decide +kernel
theorem dX5_lay_7 : decode cX5_lay 7 = .ok (.putfield 15, 3) := by decide +kernel
theorem dX5_lay_10 : decode cX5_lay 10 = .ok (.aload_n 0, 1) := by decide +kernel
theorem dX5_lay_11 : decode cX5_lay 11 = .ok (.getfield 9, 3) := by decide +kernel
theorem dX5_lay_14 : decode cX5_lay 14 = .ok (.iconst 0, 1) := by decide +kernel
theorem dX5_lay_15 : decode cX5_lay 15 = .ok (.invokestatic 22, 3) := by decide +kernel
theorem dX5_lay_18 : decode cX5_lay 18 = .ok (.return_, 1) := by decide +kernel
theorem dX5_write_0 : decode cX5_write 0 = .ok (.aload_n 0, 1) := by decide +kernel
theorem dX5_write_1 : decode cX5_write 1 = .ok (.getfield 9, 3) := by decide +kernel
theorem dX5_write_4 : decode cX5_write 4 = .ok (.iload_n 1, 1) := by decide +kernel
theorem dX5_write_5 : decode cX5_write 5 = .ok (.aload_n 0, 1) := by decide +kernel
theorem dX5_write_6 : decode cX5_write 6 = .ok (.getfield 19, 3) := by decide +kernel
theorem dX5_write_9 : decode cX5_write 9 = .ok (.bipush 32, 2) := by decide +kernel
theorem dX5_write_11 : decode cX5_write 11 = .ok (.if_icmp .ne 7, 3) := by decide +kernel
theorem dX5_write_14 : decode cX5_write 14 = .ok (.iload_n 2, 1) := by decide +kernel
theorem dX5_write_15 : decode cX5_write 15 = .ok (.goto 13, 3) := by decide +kernel
theorem dX5_write_18 : decode cX5_write 18 = .ok (.iload_n 2, 1) := by decide +kernel
theorem dX5_write_19 : decode cX5_write 19 = .ok (.iconst 1, 1) := by decide +kernel
theorem dX5_write_20 : decode cX5_write 20 = .ok (.aload_n 0, 1) := by decide +kernel
theorem dX5_write_21 : decode cX5_write 21 = .ok (.getfield 19, 3) := by decide +kernel
theorem dX5_write_24 : decode cX5_write 24 = .ok (.ishl, 1) := by decide +kernel
theorem dX5_write_25 : decode cX5_write 25 = .ok (.iconst 1, 1) := by decide +kernel
theorem dX5_write_26 : decode cX5_write 26 = .ok (.isub, 1) := by decide +kernel
theorem dX5_write_27 : decode cX5_write 27 = .ok (.iand, 1) := by decide +kernel
theorem dX5_write_28 : decode cX5_write 28 = .ok (.iastore, 1) := by decide +kernel
theorem dX5_write_29 : decode cX5_write 29 = .ok (.return_, 1) := by decide +kernel
theorem dX5_holds_0 : decode cX5_holds 0 = .ok (.iload_n 2, 1) := by decide +kernel
theorem dX5_holds_1 : decode cX5_holds 1 = .ok (.ifCond .lt 21, 3) := by decide +kernel
theorem dX5_holds_4 : decode cX5_holds 4 = .ok (.iload_n 1, 1) := by decide +kernel
theorem dX5_holds_5 : decode cX5_holds 5 = .ok (.ifCond .lt 17, 3) := by decide +kernel
theorem dX5_holds_8 : decode cX5_holds 8 = .ok (.iload_n 1, 1) := by decide +kernel
theorem dX5_holds_9 : decode cX5_holds 9 = .ok (.aload_n 0, 1) := by decide +kernel
theorem dX5_holds_10 : decode cX5_holds 10 = .ok (.getfield 15, 3) := by decide +kernel
theorem dX5_holds_13 : decode cX5_holds 13 = .ok (.iload_n 2, 1) := by decide +kernel
theorem dX5_holds_14 : decode cX5_holds 14 = .ok (.isub, 1) := by decide +kernel
theorem dX5_holds_15 : decode cX5_holds 15 = .ok (.if_icmp .gt 7, 3) := by decide +kernel
theorem dX5_holds_18 : decode cX5_holds 18 = .ok (.iconst 1, 1) := by decide +kernel
theorem dX5_holds_19 : decode cX5_holds 19 = .ok (.goto 4, 3) := by decide +kernel
theorem dX5_holds_22 : decode cX5_holds 22 = .ok (.iconst 0, 1) := by decide +kernel
theorem dX5_holds_23 : decode cX5_holds 23 = .ok (.ireturn, 1) := by decide +kernel
theorem dX6_init_0 : decode cX6_init 0 = .ok (.aload_n 0, 1) := by decide +kernel
theorem dX6_init_1 : decode cX6_init 1 = .ok (.invokespecial 1, 3) := by decide +kernel
theorem dX6_init_4 : decode cX6_init 4 = .ok (.aload_n 0, 1) := by decide +kernel
theorem dX6_init_5 : decode cX6_init 5 = .ok (.new 7, 3) := by decide +kernel
theorem dX6_init_8 : decode cX6_init 8 = .ok (.dup, 1) := by decide +kernel
theorem dX6_init_9 : decode cX6_init 9 = .ok (.bipush 40, 2) := by decide +kernel
theorem dX6_init_11 : decode cX6_init 11 = .ok (.invokespecial 11, 3) := by decide +kernel
theorem dX6_init_14 : decode cX6_init 14 = .ok (.putfield 14, 3) := by decide +kernel
theorem dX6_init_17 : decode cX6_init 17 = .ok (.aload_n 0, 1) := by decide +kernel
theorem dX6_init_18 : decode cX6_init 18 = .ok (.iconst 0, 1) := by decide +kernel
theorem dX6_init_19 : decode cX6_init 19 = .ok (.putfield 18, 3) := by decide +kernel
theorem dX6_init_22 : decode cX6_init 22 = .ok (.aload_n 0, 1) := by decide +kernel
theorem dX6_init_23 : decode cX6_init 23 = .ok (.iconst 0, 1) := by decide +kernel
theorem dX6_init_24 : decode cX6_init 24 = .ok (.putfield 22, 3) := by decide +kernel
theorem dX6_init_27 : decode cX6_init 27 = .ok (.aload_n 0, 1) := by decide +kernel
theorem dX6_init_28 : decode cX6_init 28 = .ok (.iconst 0, 1) := by decide +kernel
theorem dX6_init_29 : decode cX6_init 29 = .ok (.putfield 25, 3) := by decide +kernel
theorem dX6_init_32 : decode cX6_init 32 = .ok (.return_, 1) := by decide +kernel
theorem dX6_raised_0 : decode cX6_raised 0 = .ok (.aload_n 0, 1) := by decide +kernel
theorem dX6_raised_1 : decode cX6_raised 1 = .ok (.iload_n 1, 1) := by decide +kernel
theorem dX6_raised_2 : decode cX6_raised 2 = .ok (.putfield 18, 3) := by decide +kernel
theorem dX6_raised_5 : decode cX6_raised 5 = .ok (.aload_n 0, 1) := by decide +kernel
theorem dX6_raised_6 : decode cX6_raised 6 = .ok (.iload_n 2, 1) := by decide +kernel
theorem dX6_raised_7 : decode cX6_raised 7 = .ok (.putfield 22, 3) := by decide +kernel
theorem dX6_raised_10 : decode cX6_raised 10 = .ok (.aload_n 0, 1) := by decide +kernel
theorem dX6_raised_11 : decode cX6_raised 11 = .ok (.iload_n 3, 1) := by decide +kernel
theorem dX6_raised_12 : decode cX6_raised 12 = .ok (.putfield 25, 3) := by decide +kernel
theorem dX6_raised_15 : decode cX6_raised 15 = .ok (.aload_n 0, 1) := by decide +kernel
theorem dX6_raised_16 : decode cX6_raised 16 = .ok (.getfield 14, 3) := by decide +kernel
theorem dX6_raised_19 : decode cX6_raised 19 = .ok (.iconst 0, 1) := by decide +kernel
theorem dX6_raised_20 : decode cX6_raised 20 = .ok (.putfield 28, 3) := by decide +kernel
theorem dX6_raised_23 : decode cX6_raised 23 = .ok (.aload_n 0, 1) := by decide +kernel
theorem dX6_raised_24 : decode cX6_raised 24 = .ok (.iload 4, 2) := by decide +kernel
theorem dX6_raised_26 : decode cX6_raised 26 = .ok (.iload 5, 2) := by decide +kernel
theorem dX6_raised_28 : decode cX6_raised 28 = .ok (.iconst 0, 1) := by decide +kernel
theorem dX6_raised_29 : decode cX6_raised 29 = .ok (.invokevirtual 31, 3) := by decide +kernel
theorem dX6_raised_32 : decode cX6_raised 32 = .ok (.ireturn, 1) := by decide +kernel
theorem dX6_say_0 : decode cX6_say 0 = .ok (.aload_n 0, 1) := by decide +kernel
theorem dX6_say_1 : decode cX6_say 1 = .ok (.aload_n 0, 1) := by decide +kernel
theorem dX6_say_2 : decode cX6_say 2 = .ok (.getfield 25, 3) := by decide +kernel
theorem dX6_say_5 : decode cX6_say 5 = .ok (.iload_n 1, 1) := by decide +kernel
theorem dX6_say_6 : decode cX6_say 6 = .ok (.iload_n 2, 1) := by decide +kernel
theorem dX6_say_7 : decode cX6_say 7 = .ok (.iload_n 3, 1) := by decide +kernel
theorem dX6_say_8 : decode cX6_say 8 = .ok (.invokevirtual 35, 3) := by decide +kernel
theorem dX6_say_11 : decode cX6_say 11 = .ok (.ireturn, 1) := by decide +kernel
theorem dX6_sayAbove_0 : decode cX6_sayAbove 0 = .ok (.aload_n 0, 1) := by decide +kernel
theorem dX6_sayAbove_1 : decode cX6_sayAbove 1 = .ok (.iload_n 1, 1) := by decide +kernel
theorem dX6_sayAbove_2 : decode cX6_sayAbove 2 = .ok (.invokestatic 39, 3) := by decide +kernel
theorem dX6_sayAbove_5 : decode cX6_sayAbove 5 = .ok (.iload_n 2, 1) := by decide +kernel
theorem dX6_sayAbove_6 : decode cX6_sayAbove 6 = .ok (.iload_n 3, 1) := by decide +kernel
theorem dX6_sayAbove_7 : decode cX6_sayAbove 7 = .ok (.iload 4, 2) := by decide +kernel
theorem dX6_sayAbove_9 : decode cX6_sayAbove 9 = .ok (.invokevirtual 35, 3) := by decide +kernel
theorem dX6_sayAbove_12 : decode cX6_sayAbove 12 = .ok (.ireturn, 1) := by decide +kernel
theorem dX6_sayFrom_0 : decode cX6_sayFrom 0 = .ok (.iload_n 1, 1) := by decide +kernel
theorem dX6_sayFrom_1 : decode cX6_sayFrom 1 = .ok (.istore 5, 2) := by decide +kernel
theorem dX6_sayFrom_3 : decode cX6_sayFrom 3 = .ok (.iconst 0, 1) := by decide +kernel
theorem dX6_sayFrom_4 : decode cX6_sayFrom 4 = .ok (.istore 6, 2) := by decide +kernel
theorem dX6_sayFrom_6 : decode cX6_sayFrom 6 = .ok (.iload 6, 2) := by decide +kernel
theorem dX6_sayFrom_8 : decode cX6_sayFrom 8 = .ok (.bipush 6, 2) := by decide +kernel
theorem dX6_sayFrom_10 : decode cX6_sayFrom 10 = .ok (.if_icmp .gt 66, 3) := by decide +kernel
theorem dX6_sayFrom_13 : decode cX6_sayFrom 13 = .ok (.iload 5, 2) := by decide +kernel
theorem dX6_sayFrom_15 : decode cX6_sayFrom 15 = .ok (.ifCond .lt 61, 3) := by decide +kernel
theorem dX6_sayFrom_18 : decode cX6_sayFrom 18 = .ok (.iload 4, 2) := by decide +kernel
theorem dX6_sayFrom_20 : decode cX6_sayFrom 20 = .ok (.bipush 30, 2) := by decide +kernel
theorem dX6_sayFrom_22 : decode cX6_sayFrom 22 = .ok (.if_icmp .ge 54, 3) := by decide +kernel
theorem dX6_sayFrom_25 : decode cX6_sayFrom 25 = .ok (.getstatic 45, 3) := by decide +kernel
theorem dX6_sayFrom_28 : decode cX6_sayFrom 28 = .ok (.iload 5, 2) := by decide +kernel
theorem dX6_sayFrom_30 : decode cX6_sayFrom 30 = .ok (.iconst 4, 1) := by decide +kernel
theorem dX6_sayFrom_31 : decode cX6_sayFrom 31 = .ok (.imul, 1) := by decide +kernel
theorem dX6_sayFrom_32 : decode cX6_sayFrom 32 = .ok (.iload_n 2, 1) := by decide +kernel
theorem dX6_sayFrom_33 : decode cX6_sayFrom 33 = .ok (.iadd, 1) := by decide +kernel
theorem dX6_sayFrom_34 : decode cX6_sayFrom 34 = .ok (.iaload, 1) := by decide +kernel
theorem dX6_sayFrom_35 : decode cX6_sayFrom 35 = .ok (.istore 7, 2) := by decide +kernel
theorem dX6_sayFrom_37 : decode cX6_sayFrom 37 = .ok (.iload 7, 2) := by decide +kernel
theorem dX6_sayFrom_39 : decode cX6_sayFrom 39 = .ok (.ifCond .eq 24, 3) := by decide +kernel
theorem dX6_sayFrom_42 : decode cX6_sayFrom 42 = .ok (.aload_n 0, 1) := by decide +kernel
theorem dX6_sayFrom_43 : decode cX6_sayFrom 43 = .ok (.getfield 14, 3) := by decide +kernel
theorem dX6_sayFrom_46 : decode cX6_sayFrom 46 = .ok (.iload 7, 2) := by decide +kernel
theorem dX6_sayFrom_48 : decode cX6_sayFrom 48 = .ok (.invokevirtual 49, 3) := by decide +kernel
theorem dX6_sayFrom_51 : decode cX6_sayFrom 51 = .ok (.aload_n 0, 1) := by decide +kernel
theorem dX6_sayFrom_52 : decode cX6_sayFrom 52 = .ok (.iload 7, 2) := by decide +kernel
theorem dX6_sayFrom_54 : decode cX6_sayFrom 54 = .ok (.iload_n 3, 1) := by decide +kernel
theorem dX6_sayFrom_55 : decode cX6_sayFrom 55 = .ok (.iload 4, 2) := by decide +kernel
theorem dX6_sayFrom_57 : decode cX6_sayFrom 57 = .ok (.iconst 1, 1) := by decide +kernel
theorem dX6_sayFrom_58 : decode cX6_sayFrom 58 = .ok (.iadd, 1) := by decide +kernel
theorem dX6_sayFrom_59 : decode cX6_sayFrom 59 = .ok (.invokevirtual 52, 3) := by decide +kernel
theorem dX6_sayFrom_62 : decode cX6_sayFrom 62 = .ok (.ireturn, 1) := by decide +kernel
theorem dX6_sayFrom_63 : decode cX6_sayFrom 63 = .ok (.iload 5, 2) := by decide +kernel
theorem dX6_sayFrom_65 : decode cX6_sayFrom 65 = .ok (.invokestatic 39, 3) := by decide +kernel
theorem dX6_sayFrom_68 : decode cX6_sayFrom 68 = .ok (.istore 5, 2) := by decide +kernel
theorem dX6_sayFrom_70 : decode cX6_sayFrom 70 = .ok (.iinc 6 1, 3) := by decide +kernel
theorem dX6_sayFrom_73 : decode cX6_sayFrom 73 = .ok (.goto (-67), 3) := by decide +kernel
theorem dX6_sayFrom_76 : decode cX6_sayFrom 76 = .ok (.iconst 0, 1) := by decide +kernel
theorem dX6_sayFrom_77 : decode cX6_sayFrom 77 = .ok (.ireturn, 1) := by decide +kernel
theorem dX6_spoken_0 : decode cX6_spoken 0 = .ok (.iload_n 1, 1) := by decide +kernel
theorem dX6_spoken_1 : decode cX6_spoken 1 = .ok (.lookupswitch 238 #[(10, 99), (11, 106), (12, 116), (13, 123), (20, 139), (30, 150), (40, 167), (50, 177), (60, 194), (70, 205), (71, 220)], 99) := by decide +kernel
theorem dX6_spoken_100 : decode cX6_spoken 100 = .ok (.iload_n 2, 1) := by decide +kernel
theorem dX6_spoken_101 : decode cX6_spoken 101 = .ok (.aload_n 0, 1) := by decide +kernel
theorem dX6_spoken_102 : decode cX6_spoken 102 = .ok (.getfield 18, 3) := by decide +kernel
theorem dX6_spoken_105 : decode cX6_spoken 105 = .ok (.iadd, 1) := by decide +kernel
theorem dX6_spoken_106 : decode cX6_spoken 106 = .ok (.ireturn, 1) := by decide +kernel
theorem dX6_spoken_107 : decode cX6_spoken 107 = .ok (.aload_n 0, 1) := by decide +kernel
theorem dX6_spoken_108 : decode cX6_spoken 108 = .ok (.iconst 0, 1) := by decide +kernel
theorem dX6_spoken_109 : decode cX6_spoken 109 = .ok (.iload_n 2, 1) := by decide +kernel
theorem dX6_spoken_110 : decode cX6_spoken 110 = .ok (.iload_n 3, 1) := by decide +kernel
theorem dX6_spoken_111 : decode cX6_spoken 111 = .ok (.invokevirtual 31, 3) := by decide +kernel
theorem dX6_spoken_114 : decode cX6_spoken 114 = .ok (.iconst 2, 1) := by decide +kernel
theorem dX6_spoken_115 : decode cX6_spoken 115 = .ok (.imul, 1) := by decide +kernel
theorem dX6_spoken_116 : decode cX6_spoken 116 = .ok (.ireturn, 1) := by decide +kernel
theorem dX6_spoken_117 : decode cX6_spoken 117 = .ok (.iload_n 2, 1) := by decide +kernel
theorem dX6_spoken_118 : decode cX6_spoken 118 = .ok (.aload_n 0, 1) := by decide +kernel
theorem dX6_spoken_119 : decode cX6_spoken 119 = .ok (.getfield 22, 3) := by decide +kernel
theorem dX6_spoken_122 : decode cX6_spoken 122 = .ok (.isub, 1) := by decide +kernel
theorem dX6_spoken_123 : decode cX6_spoken 123 = .ok (.ireturn, 1) := by decide +kernel
theorem dX6_spoken_124 : decode cX6_spoken 124 = .ok (.aload_n 0, 1) := by decide +kernel
theorem dX6_spoken_125 : decode cX6_spoken 125 = .ok (.iconst 1, 1) := by decide +kernel
theorem dX6_spoken_126 : decode cX6_spoken 126 = .ok (.iload_n 2, 1) := by decide +kernel
theorem dX6_spoken_127 : decode cX6_spoken 127 = .ok (.iload_n 3, 1) := by decide +kernel
theorem dX6_spoken_128 : decode cX6_spoken 128 = .ok (.invokevirtual 31, 3) := by decide +kernel
theorem dX6_spoken_131 : decode cX6_spoken 131 = .ok (.aload_n 0, 1) := by decide +kernel
theorem dX6_spoken_132 : decode cX6_spoken 132 = .ok (.iconst 2, 1) := by decide +kernel
theorem dX6_spoken_133 : decode cX6_spoken 133 = .ok (.iload_n 2, 1) := by decide +kernel
theorem dX6_spoken_134 : decode cX6_spoken 134 = .ok (.iload_n 3, 1) := by decide +kernel
theorem dX6_spoken_135 : decode cX6_spoken 135 = .ok (.invokevirtual 31, 3) := by decide +kernel
theorem dX6_spoken_138 : decode cX6_spoken 138 = .ok (.ixor, 1) := by decide +kernel
theorem dX6_spoken_139 : decode cX6_spoken 139 = .ok (.ireturn, 1) := by decide +kernel
theorem dX6_spoken_140 : decode cX6_spoken 140 = .ok (.aload_n 0, 1) := by decide +kernel
theorem dX6_spoken_141 : decode cX6_spoken 141 = .ok (.iconst 1, 1) := by decide +kernel
theorem dX6_spoken_142 : decode cX6_spoken 142 = .ok (.iconst 0, 1) := by decide +kernel
theorem dX6_spoken_143 : decode cX6_spoken 143 = .ok (.iload_n 2, 1) := by decide +kernel
theorem dX6_spoken_144 : decode cX6_spoken 144 = .ok (.iload_n 3, 1) := by decide +kernel
theorem dX6_spoken_145 : decode cX6_spoken 145 = .ok (.invokevirtual 55, 3) := by decide +kernel
theorem dX6_spoken_148 : decode cX6_spoken 148 = .ok (.iconst 3, 1) := by decide +kernel
theorem dX6_spoken_149 : decode cX6_spoken 149 = .ok (.imul, 1) := by decide +kernel
theorem dX6_spoken_150 : decode cX6_spoken 150 = .ok (.ireturn, 1) := by decide +kernel
theorem dX6_spoken_151 : decode cX6_spoken 151 = .ok (.aload_n 0, 1) := by decide +kernel
theorem dX6_spoken_152 : decode cX6_spoken 152 = .ok (.iconst 2, 1) := by decide +kernel
theorem dX6_spoken_153 : decode cX6_spoken 153 = .ok (.iconst 1, 1) := by decide +kernel
theorem dX6_spoken_154 : decode cX6_spoken 154 = .ok (.iload_n 2, 1) := by decide +kernel
theorem dX6_spoken_155 : decode cX6_spoken 155 = .ok (.iload_n 3, 1) := by decide +kernel
theorem dX6_spoken_156 : decode cX6_spoken 156 = .ok (.invokevirtual 55, 3) := by decide +kernel
theorem dX6_spoken_159 : decode cX6_spoken 159 = .ok (.aload_n 0, 1) := by decide +kernel
theorem dX6_spoken_160 : decode cX6_spoken 160 = .ok (.iconst 2, 1) := by decide +kernel
theorem dX6_spoken_161 : decode cX6_spoken 161 = .ok (.iconst 1, 1) := by decide +kernel
theorem dX6_spoken_162 : decode cX6_spoken 162 = .ok (.iload_n 3, 1) := by decide +kernel
theorem dX6_spoken_163 : decode cX6_spoken 163 = .ok (.invokevirtual 31, 3) := by decide +kernel
theorem dX6_spoken_166 : decode cX6_spoken 166 = .ok (.isub, 1) := by decide +kernel
theorem dX6_spoken_167 : decode cX6_spoken 167 = .ok (.ireturn, 1) := by decide +kernel
theorem dX6_spoken_168 : decode cX6_spoken 168 = .ok (.aload_n 0, 1) := by decide +kernel
theorem dX6_spoken_169 : decode cX6_spoken 169 = .ok (.iconst 3, 1) := by decide +kernel
theorem dX6_spoken_170 : decode cX6_spoken 170 = .ok (.iconst 2, 1) := by decide +kernel
theorem dX6_spoken_171 : decode cX6_spoken 171 = .ok (.iload_n 2, 1) := by decide +kernel
theorem dX6_spoken_172 : decode cX6_spoken 172 = .ok (.iload_n 3, 1) := by decide +kernel
theorem dX6_spoken_173 : decode cX6_spoken 173 = .ok (.invokevirtual 55, 3) := by decide +kernel
theorem dX6_spoken_176 : decode cX6_spoken 176 = .ok (.ineg, 1) := by decide +kernel
theorem dX6_spoken_177 : decode cX6_spoken 177 = .ok (.ireturn, 1) := by decide +kernel
theorem dX6_spoken_178 : decode cX6_spoken 178 = .ok (.aload_n 0, 1) := by decide +kernel
theorem dX6_spoken_179 : decode cX6_spoken 179 = .ok (.iconst 4, 1) := by decide +kernel
theorem dX6_spoken_180 : decode cX6_spoken 180 = .ok (.iconst 3, 1) := by decide +kernel
theorem dX6_spoken_181 : decode cX6_spoken 181 = .ok (.iload_n 2, 1) := by decide +kernel
theorem dX6_spoken_182 : decode cX6_spoken 182 = .ok (.iload_n 3, 1) := by decide +kernel
theorem dX6_spoken_183 : decode cX6_spoken 183 = .ok (.invokevirtual 55, 3) := by decide +kernel
