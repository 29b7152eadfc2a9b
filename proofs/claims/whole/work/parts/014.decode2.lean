theorem dX8_odds_108 : decode cX8_odds 108 = .ok (.invokestatic 255, 3) := by decide +kernel
theorem dX8_odds_111 : decode cX8_odds 111 = .ok (.invokestatic 259, 3) := by decide +kernel
theorem dX8_odds_114 : decode cX8_odds 114 = .ok (.istore 6, 2) := by decide +kernel
theorem dX8_odds_116 : decode cX8_odds 116 = .ok (.iload 4, 2) := by decide +kernel
theorem dX8_odds_118 : decode cX8_odds 118 = .ok (.ifCond .ne 8, 3) := by decide +kernel
theorem dX8_odds_121 : decode cX8_odds 121 = .ok (.iload 5, 2) := by decide +kernel
theorem dX8_odds_123 : decode cX8_odds 123 = .ok (.goto 5, 3) := by decide +kernel
theorem dX8_odds_126 : decode cX8_odds 126 = .ok (.bipush 10, 2) := by decide +kernel
theorem dX8_odds_128 : decode cX8_odds 128 = .ok (.iload 6, 2) := by decide +kernel
theorem dX8_odds_130 : decode cX8_odds 130 = .ok (.idiv, 1) := by decide +kernel
theorem dX8_odds_131 : decode cX8_odds 131 = .ok (.ireturn, 1) := by decide +kernel
theorem dX8_seed_0 : decode cX8_seed 0 = .ok (.aload_n 0, 1) := by decide +kernel
theorem dX8_seed_1 : decode cX8_seed 1 = .ok (.getfield 10, 3) := by decide +kernel
theorem dX8_seed_4 : decode cX8_seed 4 = .ok (.getfield 264, 3) := by decide +kernel
theorem dX8_seed_7 : decode cX8_seed 7 = .ok (.istore_n 2, 1) := by decide +kernel
theorem dX8_seed_8 : decode cX8_seed 8 = .ok (.aload_n 0, 1) := by decide +kernel
theorem dX8_seed_9 : decode cX8_seed 9 = .ok (.getfield 10, 3) := by decide +kernel
theorem dX8_seed_12 : decode cX8_seed 12 = .ok (.iload_n 1, 1) := by decide +kernel
theorem dX8_seed_13 : decode cX8_seed 13 = .ok (.putfield 264, 3) := by decide +kernel
theorem dX8_seed_16 : decode cX8_seed 16 = .ok (.iload_n 2, 1) := by decide +kernel
theorem dX8_seed_17 : decode cX8_seed 17 = .ok (.ireturn, 1) := by decide +kernel
theorem dX8_voice_0 : decode cX8_voice 0 = .ok (.aload_n 0, 1) := by decide +kernel
theorem dX8_voice_1 : decode cX8_voice 1 = .ok (.iload_n 1, 1) := by decide +kernel
theorem dX8_voice_2 : decode cX8_voice 2 = .ok (.invokevirtual 133, 3) := by decide +kernel
theorem dX8_voice_5 : decode cX8_voice 5 = .ok (.ifCond .eq 12, 3) := by decide +kernel
theorem dX8_voice_8 : decode cX8_voice 8 = .ok (.iload_n 2, 1) := by decide +kernel
theorem dX8_voice_9 : decode cX8_voice 9 = .ok (.iconst 0, 1) := by decide +kernel
theorem dX8_voice_10 : decode cX8_voice 10 = .ok (.iconst 3, 1) := by decide +kernel
theorem dX8_voice_11 : decode cX8_voice 11 = .ok (.invokestatic 86, 3) := by decide +kernel
theorem dX8_voice_14 : decode cX8_voice 14 = .ok (.ifCond .ne 9, 3) := by decide +kernel
theorem dX8_voice_17 : decode cX8_voice 17 = .ok (.aload_n 0, 1) := by decide +kernel
theorem dX8_voice_18 : decode cX8_voice 18 = .ok (.iconst 1, 1) := by decide +kernel
theorem dX8_voice_19 : decode cX8_voice 19 = .ok (.invokevirtual 90, 3) := by decide +kernel
theorem dX8_voice_22 : decode cX8_voice 22 = .ok (.ireturn, 1) := by decide +kernel
theorem dX8_voice_23 : decode cX8_voice 23 = .ok (.aload_n 0, 1) := by decide +kernel
theorem dX8_voice_24 : decode cX8_voice 24 = .ok (.getfield 57, 3) := by decide +kernel
theorem dX8_voice_27 : decode cX8_voice 27 = .ok (.iload_n 1, 1) := by decide +kernel
theorem dX8_voice_28 : decode cX8_voice 28 = .ok (.aload_n 0, 1) := by decide +kernel
theorem dX8_voice_29 : decode cX8_voice 29 = .ok (.getfield 10, 3) := by decide +kernel
theorem dX8_voice_32 : decode cX8_voice 32 = .ok (.getfield 94, 3) := by decide +kernel
theorem dX8_voice_35 : decode cX8_voice 35 = .ok (.getfield 139, 3) := by decide +kernel
theorem dX8_voice_38 : decode cX8_voice 38 = .ok (.iload_n 1, 1) := by decide +kernel
theorem dX8_voice_39 : decode cX8_voice 39 = .ok (.iaload, 1) := by decide +kernel
theorem dX8_voice_40 : decode cX8_voice 40 = .ok (.aload_n 0, 1) := by decide +kernel
theorem dX8_voice_41 : decode cX8_voice 41 = .ok (.getfield 10, 3) := by decide +kernel
theorem dX8_voice_44 : decode cX8_voice 44 = .ok (.getfield 94, 3) := by decide +kernel
theorem dX8_voice_47 : decode cX8_voice 47 = .ok (.getfield 136, 3) := by decide +kernel
theorem dX8_voice_50 : decode cX8_voice 50 = .ok (.iload_n 1, 1) := by decide +kernel
theorem dX8_voice_51 : decode cX8_voice 51 = .ok (.iaload, 1) := by decide +kernel
theorem dX8_voice_52 : decode cX8_voice 52 = .ok (.iload_n 2, 1) := by decide +kernel
theorem dX8_voice_53 : decode cX8_voice 53 = .ok (.iload_n 3, 1) := by decide +kernel
theorem dX8_voice_54 : decode cX8_voice 54 = .ok (.invokevirtual 267, 3) := by decide +kernel
theorem dX8_voice_57 : decode cX8_voice 57 = .ok (.ireturn, 1) := by decide +kernel
theorem dX8_trace_0 : decode cX8_trace 0 = .ok (.iload_n 1, 1) := by decide +kernel
theorem dX8_trace_1 : decode cX8_trace 1 = .ok (.iconst 0, 1) := by decide +kernel
theorem dX8_trace_2 : decode cX8_trace 2 = .ok (.aload_n 0, 1) := by decide +kernel
theorem dX8_trace_3 : decode cX8_trace 3 = .ok (.getfield 57, 3) := by decide +kernel
theorem dX8_trace_6 : decode cX8_trace 6 = .ok (.getfield 271, 3) := by decide +kernel
theorem dX8_trace_9 : decode cX8_trace 9 = .ok (.getfield 167, 3) := by decide +kernel
theorem dX8_trace_12 : decode cX8_trace 12 = .ok (.iconst 1, 1) := by decide +kernel
theorem dX8_trace_13 : decode cX8_trace 13 = .ok (.isub, 1) := by decide +kernel
theorem dX8_trace_14 : decode cX8_trace 14 = .ok (.invokestatic 86, 3) := by decide +kernel
theorem dX8_trace_17 : decode cX8_trace 17 = .ok (.ifCond .eq 18, 3) := by decide +kernel
theorem dX8_trace_20 : decode cX8_trace 20 = .ok (.aload_n 0, 1) := by decide +kernel
theorem dX8_trace_21 : decode cX8_trace 21 = .ok (.getfield 57, 3) := by decide +kernel
theorem dX8_trace_24 : decode cX8_trace 24 = .ok (.getfield 271, 3) := by decide +kernel
theorem dX8_trace_27 : decode cX8_trace 27 = .ok (.getfield 274, 3) := by decide +kernel
theorem dX8_trace_30 : decode cX8_trace 30 = .ok (.iload_n 1, 1) := by decide +kernel
theorem dX8_trace_31 : decode cX8_trace 31 = .ok (.iaload, 1) := by decide +kernel
theorem dX8_trace_32 : decode cX8_trace 32 = .ok (.goto 8, 3) := by decide +kernel
theorem dX8_trace_35 : decode cX8_trace 35 = .ok (.aload_n 0, 1) := by decide +kernel
theorem dX8_trace_36 : decode cX8_trace 36 = .ok (.iconst 2, 1) := by decide +kernel
theorem dX8_trace_37 : decode cX8_trace 37 = .ok (.invokevirtual 90, 3) := by decide +kernel
theorem dX8_trace_40 : decode cX8_trace 40 = .ok (.ireturn, 1) := by decide +kernel
theorem dX8_sheet_0 : decode cX8_sheet 0 = .ok (.iload_n 1, 1) := by decide +kernel
theorem dX8_sheet_1 : decode cX8_sheet 1 = .ok (.invokestatic 220, 3) := by decide +kernel
theorem dX8_sheet_4 : decode cX8_sheet 4 = .ok (.ifCond .eq 25, 3) := by decide +kernel
theorem dX8_sheet_7 : decode cX8_sheet 7 = .ok (.iload_n 2, 1) := by decide +kernel
theorem dX8_sheet_8 : decode cX8_sheet 8 = .ok (.ifCond .eq 27, 3) := by decide +kernel
theorem dX8_sheet_11 : decode cX8_sheet 11 = .ok (.iload_n 2, 1) := by decide +kernel
theorem dX8_sheet_12 : decode cX8_sheet 12 = .ok (.bipush 8, 2) := by decide +kernel
theorem dX8_sheet_14 : decode cX8_sheet 14 = .ok (.if_icmp .eq 21, 3) := by decide +kernel
theorem dX8_sheet_17 : decode cX8_sheet 17 = .ok (.iload_n 2, 1) := by decide +kernel
theorem dX8_sheet_18 : decode cX8_sheet 18 = .ok (.bipush 16, 2) := by decide +kernel
theorem dX8_sheet_20 : decode cX8_sheet 20 = .ok (.if_icmp .eq 15, 3) := by decide +kernel
theorem dX8_sheet_23 : decode cX8_sheet 23 = .ok (.iload_n 2, 1) := by decide +kernel
theorem dX8_sheet_24 : decode cX8_sheet 24 = .ok (.bipush 32, 2) := by decide +kernel
theorem dX8_sheet_26 : decode cX8_sheet 26 = .ok (.if_icmp .eq 9, 3) := by decide +kernel
theorem dX8_sheet_29 : decode cX8_sheet 29 = .ok (.aload_n 0, 1) := by decide +kernel
theorem dX8_sheet_30 : decode cX8_sheet 30 = .ok (.iconst 1, 1) := by decide +kernel
theorem dX8_sheet_31 : decode cX8_sheet 31 = .ok (.invokevirtual 90, 3) := by decide +kernel
theorem dX8_sheet_34 : decode cX8_sheet 34 = .ok (.ireturn, 1) := by decide +kernel
theorem dX8_sheet_35 : decode cX8_sheet 35 = .ok (.iload_n 2, 1) := by decide +kernel
theorem dX8_sheet_36 : decode cX8_sheet 36 = .ok (.ifCond .eq 13, 3) := by decide +kernel
theorem dX8_sheet_39 : decode cX8_sheet 39 = .ok (.iload_n 3, 1) := by decide +kernel
theorem dX8_sheet_40 : decode cX8_sheet 40 = .ok (.ifCond .ge 9, 3) := by decide +kernel
theorem dX8_sheet_43 : decode cX8_sheet 43 = .ok (.aload_n 0, 1) := by decide +kernel
theorem dX8_sheet_44 : decode cX8_sheet 44 = .ok (.iconst 3, 1) := by decide +kernel
theorem dX8_sheet_45 : decode cX8_sheet 45 = .ok (.invokevirtual 90, 3) := by decide +kernel
theorem dX8_sheet_48 : decode cX8_sheet 48 = .ok (.ireturn, 1) := by decide +kernel
theorem dX8_sheet_49 : decode cX8_sheet 49 = .ok (.iload_n 2, 1) := by decide +kernel
theorem dX8_sheet_50 : decode cX8_sheet 50 = .ok (.ifCond .eq 15, 3) := by decide +kernel
theorem dX8_sheet_53 : decode cX8_sheet 53 = .ok (.iload_n 3, 1) := by decide +kernel
theorem dX8_sheet_54 : decode cX8_sheet 54 = .ok (.bipush 40, 2) := by decide +kernel
theorem dX8_sheet_56 : decode cX8_sheet 56 = .ok (.if_icmp .le 9, 3) := by decide +kernel
theorem dX8_sheet_59 : decode cX8_sheet 59 = .ok (.aload_n 0, 1) := by decide +kernel
theorem dX8_sheet_60 : decode cX8_sheet 60 = .ok (.iconst 1, 1) := by decide +kernel
theorem dX8_sheet_61 : decode cX8_sheet 61 = .ok (.invokevirtual 90, 3) := by decide +kernel
theorem dX8_sheet_64 : decode cX8_sheet 64 = .ok (.ireturn, 1) := by decide +kernel
theorem dX8_sheet_65 : decode cX8_sheet 65 = .ok (.aload_n 0, 1) := by decide +kernel
theorem dX8_sheet_66 : decode cX8_sheet 66 = .ok (.getfield 63, 3) := by decide +kernel
theorem dX8_sheet_69 : decode cX8_sheet 69 = .ok (.iload_n 1, 1) := by decide +kernel
theorem dX8_sheet_70 : decode cX8_sheet 70 = .ok (.aaload, 1) := by decide +kernel
theorem dX8_sheet_71 : decode cX8_sheet 71 = .ok (.iload_n 2, 1) := by decide +kernel
theorem dX8_sheet_72 : decode cX8_sheet 72 = .ok (.iload_n 2, 1) := by decide +kernel
theorem dX8_sheet_73 : decode cX8_sheet 73 = .ok (.ifCond .ne 7, 3) := by decide +kernel
theorem dX8_sheet_76 : decode cX8_sheet 76 = .ok (.iconst 0, 1) := by decide +kernel
theorem dX8_sheet_77 : decode cX8_sheet 77 = .ok (.goto 4, 3) := by decide +kernel
theorem dX8_sheet_80 : decode cX8_sheet 80 = .ok (.iload_n 3, 1) := by decide +kernel
theorem dX8_sheet_81 : decode cX8_sheet 81 = .ok (.invokevirtual 277, 3) := by decide +kernel
theorem dX8_sheet_84 : decode cX8_sheet 84 = .ok (.iconst 1, 1) := by decide +kernel
theorem dX8_sheet_85 : decode cX8_sheet 85 = .ok (.ireturn, 1) := by decide +kernel
theorem dX8_put_0 : decode cX8_put 0 = .ok (.iload_n 1, 1) := by decide +kernel
theorem dX8_put_1 : decode cX8_put 1 = .ok (.invokestatic 220, 3) := by decide +kernel
theorem dX8_put_4 : decode cX8_put 4 = .ok (.ifCond .ne 9, 3) := by decide +kernel
theorem dX8_put_7 : decode cX8_put 7 = .ok (.aload_n 0, 1) := by decide +kernel
theorem dX8_put_8 : decode cX8_put 8 = .ok (.iconst 1, 1) := by decide +kernel
theorem dX8_put_9 : decode cX8_put 9 = .ok (.invokevirtual 90, 3) := by decide +kernel
theorem dX8_put_12 : decode cX8_put 12 = .ok (.ireturn, 1) := by decide +kernel
theorem dX8_put_13 : decode cX8_put 13 = .ok (.aload_n 0, 1) := by decide +kernel
theorem dX8_put_14 : decode cX8_put 14 = .ok (.getfield 63, 3) := by decide +kernel
theorem dX8_put_17 : decode cX8_put 17 = .ok (.iload_n 1, 1) := by decide +kernel
theorem dX8_put_18 : decode cX8_put 18 = .ok (.aaload, 1) := by decide +kernel
theorem dX8_put_19 : decode cX8_put 19 = .ok (.getfield 223, 3) := by decide +kernel
theorem dX8_put_22 : decode cX8_put 22 = .ok (.ifCond .ne 9, 3) := by decide +kernel
theorem dX8_put_25 : decode cX8_put 25 = .ok (.aload_n 0, 1) := by decide +kernel
theorem dX8_put_26 : decode cX8_put 26 = .ok (.iconst 2, 1) := by decide +kernel
theorem dX8_put_27 : decode cX8_put 27 = .ok (.invokevirtual 90, 3) := by decide +kernel
theorem dX8_put_30 : decode cX8_put 30 = .ok (.ireturn, 1) := by decide +kernel
theorem dX8_put_31 : decode cX8_put 31 = .ok (.iload_n 2, 1) := by decide +kernel
theorem dX8_put_32 : decode cX8_put 32 = .ok (.iconst 0, 1) := by decide +kernel
theorem dX8_put_33 : decode cX8_put 33 = .ok (.aload_n 0, 1) := by decide +kernel
theorem dX8_put_34 : decode cX8_put 34 = .ok (.getfield 63, 3) := by decide +kernel
theorem dX8_put_37 : decode cX8_put 37 = .ok (.iload_n 1, 1) := by decide +kernel
theorem dX8_put_38 : decode cX8_put 38 = .ok (.aaload, 1) := by decide +kernel
theorem dX8_put_39 : decode cX8_put 39 = .ok (.getfield 230, 3) := by decide +kernel
theorem dX8_put_42 : decode cX8_put 42 = .ok (.iconst 1, 1) := by decide +kernel
theorem dX8_put_43 : decode cX8_put 43 = .ok (.isub, 1) := by decide +kernel
theorem dX8_put_44 : decode cX8_put 44 = .ok (.invokestatic 86, 3) := by decide +kernel
theorem dX8_put_47 : decode cX8_put 47 = .ok (.ifCond .ne 9, 3) := by decide +kernel
theorem dX8_put_50 : decode cX8_put 50 = .ok (.aload_n 0, 1) := by decide +kernel
theorem dX8_put_51 : decode cX8_put 51 = .ok (.iconst 1, 1) := by decide +kernel
theorem dX8_put_52 : decode cX8_put 52 = .ok (.invokevirtual 90, 3) := by decide +kernel
theorem dX8_put_55 : decode cX8_put 55 = .ok (.ireturn, 1) := by decide +kernel
theorem dX8_put_56 : decode cX8_put 56 = .ok (.aload_n 0, 1) := by decide +kernel
theorem dX8_put_57 : decode cX8_put 57 = .ok (.getfield 63, 3) := by decide +kernel
theorem dX8_put_60 : decode cX8_put 60 = .ok (.iload_n 1, 1) := by decide +kernel
theorem dX8_put_61 : decode cX8_put 61 = .ok (.aaload, 1) := by decide +kernel
theorem dX8_put_62 : decode cX8_put 62 = .ok (.iload_n 2, 1) := by decide +kernel
theorem dX8_put_63 : decode cX8_put 63 = .ok (.iload_n 3, 1) := by decide +kernel
theorem dX8_put_64 : decode cX8_put 64 = .ok (.invokevirtual 281, 3) := by decide +kernel
theorem dX8_put_67 : decode cX8_put 67 = .ok (.iconst 1, 1) := by decide +kernel
theorem dX8_put_68 : decode cX8_put 68 = .ok (.ireturn, 1) := by decide +kernel
theorem dX8_move_0 : decode cX8_move 0 = .ok (.iload_n 1, 1) := by decide +kernel
theorem dX8_move_1 : decode cX8_move 1 = .ok (.invokestatic 220, 3) := by decide +kernel
theorem dX8_move_4 : decode cX8_move 4 = .ok (.ifCond .eq 10, 3) := by decide +kernel
theorem dX8_move_7 : decode cX8_move 7 = .ok (.iload_n 3, 1) := by decide +kernel
theorem dX8_move_8 : decode cX8_move 8 = .ok (.invokestatic 220, 3) := by decide +kernel
theorem dX8_move_11 : decode cX8_move 11 = .ok (.ifCond .ne 9, 3) := by decide +kernel
theorem dX8_move_14 : decode cX8_move 14 = .ok (.aload_n 0, 1) := by decide +kernel
theorem dX8_move_15 : decode cX8_move 15 = .ok (.iconst 1, 1) := by decide +kernel
theorem dX8_move_16 : decode cX8_move 16 = .ok (.invokevirtual 90, 3) := by decide +kernel
theorem dX8_move_19 : decode cX8_move 19 = .ok (.ireturn, 1) := by decide +kernel
theorem dX8_move_20 : decode cX8_move 20 = .ok (.aload_n 0, 1) := by decide +kernel
theorem dX8_move_21 : decode cX8_move 21 = .ok (.getfield 63, 3) := by decide +kernel
theorem dX8_move_24 : decode cX8_move 24 = .ok (.iload_n 1, 1) := by decide +kernel
theorem dX8_move_25 : decode cX8_move 25 = .ok (.aaload, 1) := by decide +kernel
theorem dX8_move_26 : decode cX8_move 26 = .ok (.astore 6, 2) := by decide +kernel
theorem dX8_move_28 : decode cX8_move 28 = .ok (.aload_n 0, 1) := by decide +kernel
theorem dX8_move_29 : decode cX8_move 29 = .ok (.getfield 63, 3) := by decide +kernel
theorem dX8_move_32 : decode cX8_move 32 = .ok (.iload_n 3, 1) := by decide +kernel
theorem dX8_move_33 : decode cX8_move 33 = .ok (.aaload, 1) := by decide +kernel
theorem dX8_move_34 : decode cX8_move 34 = .ok (.astore 7, 2) := by decide +kernel
theorem dX8_move_36 : decode cX8_move 36 = .ok (.aload 6, 2) := by decide +kernel
theorem dX8_move_38 : decode cX8_move 38 = .ok (.getfield 223, 3) := by decide +kernel
theorem dX8_move_41 : decode cX8_move 41 = .ok (.ifCond .eq 11, 3) := by decide +kernel
theorem dX8_move_44 : decode cX8_move 44 = .ok (.aload 7, 2) := by decide +kernel
theorem dX8_move_46 : decode cX8_move 46 = .ok (.getfield 223, 3) := by decide +kernel
theorem dX8_move_49 : decode cX8_move 49 = .ok (.ifCond .ne 9, 3) := by decide +kernel
theorem dX8_move_52 : decode cX8_move 52 = .ok (.aload_n 0, 1) := by decide +kernel
theorem dX8_move_53 : decode cX8_move 53 = .ok (.iconst 2, 1) := by decide +kernel
theorem dX8_move_54 : decode cX8_move 54 = .ok (.invokevirtual 90, 3) := by decide +kernel
theorem dX8_move_57 : decode cX8_move 57 = .ok (.ireturn, 1) := by decide +kernel
theorem dX8_move_58 : decode cX8_move 58 = .ok (.aload 6, 2) := by decide +kernel
theorem dX8_move_60 : decode cX8_move 60 = .ok (.getfield 223, 3) := by decide +kernel
theorem dX8_move_63 : decode cX8_move 63 = .ok (.aload 7, 2) := by decide +kernel
theorem dX8_move_65 : decode cX8_move 65 = .ok (.getfield 223, 3) := by decide +kernel
theorem dX8_move_68 : decode cX8_move 68 = .ok (.if_icmp .eq 9, 3) := by decide +kernel
theorem dX8_move_71 : decode cX8_move 71 = .ok (.aload_n 0, 1) := by decide +kernel
theorem dX8_move_72 : decode cX8_move 72 = .ok (.iconst 5, 1) := by decide +kernel
theorem dX8_move_73 : decode cX8_move 73 = .ok (.invokevirtual 90, 3) := by decide +kernel
theorem dX8_move_76 : decode cX8_move 76 = .ok (.ireturn, 1) := by decide +kernel
theorem dX8_move_77 : decode cX8_move 77 = .ok (.aload 6, 2) := by decide +kernel
theorem dX8_move_79 : decode cX8_move 79 = .ok (.iload_n 2, 1) := by decide +kernel
theorem dX8_move_80 : decode cX8_move 80 = .ok (.iload 5, 2) := by decide +kernel
theorem dX8_move_82 : decode cX8_move 82 = .ok (.invokevirtual 284, 3) := by decide +kernel
theorem dX8_move_85 : decode cX8_move 85 = .ok (.ifCond .eq 15, 3) := by decide +kernel
theorem dX8_move_88 : decode cX8_move 88 = .ok (.aload 7, 2) := by decide +kernel
theorem dX8_move_90 : decode cX8_move 90 = .ok (.iload 4, 2) := by decide +kernel
theorem dX8_move_92 : decode cX8_move 92 = .ok (.iload 5, 2) := by decide +kernel
theorem dX8_move_94 : decode cX8_move 94 = .ok (.invokevirtual 284, 3) := by decide +kernel
theorem dX8_move_97 : decode cX8_move 97 = .ok (.ifCond .ne 9, 3) := by decide +kernel
theorem dX8_move_100 : decode cX8_move 100 = .ok (.aload_n 0, 1) := by decide +kernel
theorem dX8_move_101 : decode cX8_move 101 = .ok (.iconst 1, 1) := by decide +kernel
theorem dX8_move_102 : decode cX8_move 102 = .ok (.invokevirtual 90, 3) := by decide +kernel
theorem dX8_move_105 : decode cX8_move 105 = .ok (.ireturn, 1) := by decide +kernel
theorem dX8_move_106 : decode cX8_move 106 = .ok (.aload 6, 2) := by decide +kernel
theorem dX8_move_108 : decode cX8_move 108 = .ok (.getfield 231, 3) := by decide +kernel
theorem dX8_move_111 : decode cX8_move 111 = .ok (.iload_n 2, 1) := by decide +kernel
theorem dX8_move_112 : decode cX8_move 112 = .ok (.aload 7, 2) := by decide +kernel
theorem dX8_move_114 : decode cX8_move 114 = .ok (.getfield 231, 3) := by decide +kernel
theorem dX8_move_117 : decode cX8_move 117 = .ok (.iload 4, 2) := by decide +kernel
theorem dX8_move_119 : decode cX8_move 119 = .ok (.iload 5, 2) := by decide +kernel
theorem dX8_move_121 : decode cX8_move 121 = .ok (.invokestatic 287, 3) := by decide +kernel
theorem dX8_move_124 : decode cX8_move 124 = .ok (.iload 5, 2) := by decide +kernel
theorem dX8_move_126 : decode cX8_move 126 = .ok (.ireturn, 1) := by decide +kernel
theorem dX8_menus_0 : decode cX8_menus 0 = .ok (.iload_n 1, 1) := by decide +kernel
theorem dX8_menus_1 : decode cX8_menus 1 = .ok (.invokestatic 220, 3) := by decide +kernel
theorem dX8_menus_4 : decode cX8_menus 4 = .ok (.ifCond .ne 9, 3) := by decide +kernel
theorem dX8_menus_7 : decode cX8_menus 7 = .ok (.aload_n 0, 1) := by decide +kernel
theorem dX8_menus_8 : decode cX8_menus 8 = .ok (.iconst 1, 1) := by decide +kernel
theorem dX8_menus_9 : decode cX8_menus 9 = .ok (.invokevirtual 90, 3) := by decide +kernel
theorem dX8_menus_12 : decode cX8_menus 12 = .ok (.ireturn, 1) := by decide +kernel
theorem dX8_menus_13 : decode cX8_menus 13 = .ok (.aload_n 0, 1) := by decide +kernel
theorem dX8_menus_14 : decode cX8_menus 14 = .ok (.getfield 63, 3) := by decide +kernel
theorem dX8_menus_17 : decode cX8_menus 17 = .ok (.iload_n 1, 1) := by decide +kernel
theorem dX8_menus_18 : decode cX8_menus 18 = .ok (.aaload, 1) := by decide +kernel
theorem dX8_menus_19 : decode cX8_menus 19 = .ok (.astore_n 2, 1) := by decide +kernel
theorem dX8_menus_20 : decode cX8_menus 20 = .ok (.aload_n 2, 1) := by decide +kernel
theorem dX8_menus_21 : decode cX8_menus 21 = .ok (.getfield 223, 3) := by decide +kernel
theorem dX8_menus_24 : decode cX8_menus 24 = .ok (.ifCond .ne 9, 3) := by decide +kernel
theorem dX8_menus_27 : decode cX8_menus 27 = .ok (.aload_n 0, 1) := by decide +kernel
theorem dX8_menus_28 : decode cX8_menus 28 = .ok (.iconst 2, 1) := by decide +kernel
theorem dX8_menus_29 : decode cX8_menus 29 = .ok (.invokevirtual 90, 3) := by decide +kernel
theorem dX8_menus_32 : decode cX8_menus 32 = .ok (.ireturn, 1) := by decide +kernel
theorem dX8_menus_33 : decode cX8_menus 33 = .ok (.iconst 0, 1) := by decide +kernel
theorem dX8_menus_34 : decode cX8_menus 34 = .ok (.istore_n 3, 1) := by decide +kernel
theorem dX8_menus_35 : decode cX8_menus 35 = .ok (.iconst 0, 1) := by decide +kernel
theorem dX8_menus_36 : decode cX8_menus 36 = .ok (.istore 4, 2) := by decide +kernel
theorem dX8_menus_38 : decode cX8_menus 38 = .ok (.iload 4, 2) := by decide +kernel
theorem dX8_menus_40 : decode cX8_menus 40 = .ok (.aload_n 2, 1) := by decide +kernel
theorem dX8_menus_41 : decode cX8_menus 41 = .ok (.getfield 230, 3) := by decide +kernel
theorem dX8_menus_44 : decode cX8_menus 44 = .ok (.if_icmp .ge 53, 3) := by decide +kernel
theorem dX8_menus_47 : decode cX8_menus 47 = .ok (.iload 4, 2) := by decide +kernel
theorem dX8_menus_49 : decode cX8_menus 49 = .ok (.invokestatic 110, 3) := by decide +kernel
theorem dX8_menus_52 : decode cX8_menus 52 = .ok (.ifCond .eq 45, 3) := by decide +kernel
theorem dX8_menus_55 : decode cX8_menus 55 = .ok (.aload_n 2, 1) := by decide +kernel
theorem dX8_menus_56 : decode cX8_menus 56 = .ok (.getfield 231, 3) := by decide +kernel
theorem dX8_menus_59 : decode cX8_menus 59 = .ok (.iload 4, 2) := by decide +kernel
theorem dX8_menus_61 : decode cX8_menus 61 = .ok (.iaload, 1) := by decide +kernel
theorem dX8_menus_62 : decode cX8_menus 62 = .ok (.invokestatic 82, 3) := by decide +kernel
theorem dX8_menus_65 : decode cX8_menus 65 = .ok (.ifCond .eq 32, 3) := by decide +kernel
theorem dX8_menus_68 : decode cX8_menus 68 = .ok (.aload_n 0, 1) := by decide +kernel
theorem dX8_menus_69 : decode cX8_menus 69 = .ok (.getfield 10, 3) := by decide +kernel
theorem dX8_menus_72 : decode cX8_menus 72 = .ok (.getfield 94, 3) := by decide +kernel
theorem dX8_menus_75 : decode cX8_menus 75 = .ok (.getfield 113, 3) := by decide +kernel
theorem dX8_menus_78 : decode cX8_menus 78 = .ok (.iload 4, 2) := by decide +kernel
theorem dX8_menus_80 : decode cX8_menus 80 = .ok (.aload_n 2, 1) := by decide +kernel
theorem dX8_menus_81 : decode cX8_menus 81 = .ok (.getfield 231, 3) := by decide +kernel
theorem dX8_menus_84 : decode cX8_menus 84 = .ok (.iload 4, 2) := by decide +kernel
theorem dX8_menus_86 : decode cX8_menus 86 = .ok (.iaload, 1) := by decide +kernel
theorem dX8_menus_87 : decode cX8_menus 87 = .ok (.iastore, 1) := by decide +kernel
theorem dX8_menus_88 : decode cX8_menus 88 = .ok (.iinc 3 1, 3) := by decide +kernel
theorem dX8_menus_91 : decode cX8_menus 91 = .ok (.iinc 4 1, 3) := by decide +kernel
theorem dX8_menus_94 : decode cX8_menus 94 = .ok (.goto (-56), 3) := by decide +kernel
theorem dX8_menus_97 : decode cX8_menus 97 = .ok (.iload_n 3, 1) := by decide +kernel
theorem dX8_menus_98 : decode cX8_menus 98 = .ok (.ireturn, 1) := by decide +kernel
theorem dX8_judge_0 : decode cX8_judge 0 = .ok (.iload_n 1, 1) := by decide +kernel
theorem dX8_judge_1 : decode cX8_judge 1 = .ok (.invokestatic 220, 3) := by decide +kernel
theorem dX8_judge_4 : decode cX8_judge 4 = .ok (.ifCond .ne 9, 3) := by decide +kernel
theorem dX8_judge_7 : decode cX8_judge 7 = .ok (.aload_n 0, 1) := by decide +kernel
theorem dX8_judge_8 : decode cX8_judge 8 = .ok (.iconst 1, 1) := by decide +kernel
theorem dX8_judge_9 : decode cX8_judge 9 = .ok (.invokevirtual 90, 3) := by decide +kernel
theorem dX8_judge_12 : decode cX8_judge 12 = .ok (.ireturn, 1) := by decide +kernel
theorem dX8_judge_13 : decode cX8_judge 13 = .ok (.aload_n 0, 1) := by decide +kernel
theorem dX8_judge_14 : decode cX8_judge 14 = .ok (.getfield 63, 3) := by decide +kernel
theorem dX8_judge_17 : decode cX8_judge 17 = .ok (.iload_n 1, 1) := by decide +kernel
theorem dX8_judge_18 : decode cX8_judge 18 = .ok (.aaload, 1) := by decide +kernel
theorem dX8_judge_19 : decode cX8_judge 19 = .ok (.astore_n 2, 1) := by decide +kernel
theorem dX8_judge_20 : decode cX8_judge 20 = .ok (.aload_n 2, 1) := by decide +kernel
theorem dX8_judge_21 : decode cX8_judge 21 = .ok (.getfield 223, 3) := by decide +kernel
theorem dX8_judge_24 : decode cX8_judge 24 = .ok (.ifCond .ne 9, 3) := by decide +kernel
theorem dX8_judge_27 : decode cX8_judge 27 = .ok (.aload_n 0, 1) := by decide +kernel
theorem dX8_judge_28 : decode cX8_judge 28 = .ok (.iconst 2, 1) := by decide +kernel
theorem dX8_judge_29 : decode cX8_judge 29 = .ok (.invokevirtual 90, 3) := by decide +kernel
theorem dX8_judge_32 : decode cX8_judge 32 = .ok (.ireturn, 1) := by decide +kernel
theorem dX8_judge_33 : decode cX8_judge 33 = .ok (.aload_n 2, 1) := by decide +kernel
theorem dX8_judge_34 : decode cX8_judge 34 = .ok (.getfield 230, 3) := by decide +kernel
theorem dX8_judge_37 : decode cX8_judge 37 = .ok (.aload_n 0, 1) := by decide +kernel
theorem dX8_judge_38 : decode cX8_judge 38 = .ok (.getfield 10, 3) := by decide +kernel
theorem dX8_judge_41 : decode cX8_judge 41 = .ok (.getfield 94, 3) := by decide +kernel
theorem dX8_judge_44 : decode cX8_judge 44 = .ok (.getfield 126, 3) := by decide +kernel
theorem dX8_judge_47 : decode cX8_judge 47 = .ok (.invokestatic 293, 3) := by decide +kernel
theorem dX8_judge_50 : decode cX8_judge 50 = .ok (.istore_n 3, 1) := by decide +kernel
theorem dX8_judge_51 : decode cX8_judge 51 = .ok (.iconst 0, 1) := by decide +kernel
theorem dX8_judge_52 : decode cX8_judge 52 = .ok (.istore 4, 2) := by decide +kernel
theorem dX8_judge_54 : decode cX8_judge 54 = .ok (.iload 4, 2) := by decide +kernel
theorem dX8_judge_56 : decode cX8_judge 56 = .ok (.iload_n 3, 1) := by decide +kernel
theorem dX8_judge_57 : decode cX8_judge 57 = .ok (.if_icmp .ge 35, 3) := by decide +kernel
theorem dX8_judge_60 : decode cX8_judge 60 = .ok (.aload_n 2, 1) := by decide +kernel
theorem dX8_judge_61 : decode cX8_judge 61 = .ok (.getfield 231, 3) := by decide +kernel
theorem dX8_judge_64 : decode cX8_judge 64 = .ok (.iload 4, 2) := by decide +kernel
theorem dX8_judge_66 : decode cX8_judge 66 = .ok (.iaload, 1) := by decide +kernel
theorem dX8_judge_67 : decode cX8_judge 67 = .ok (.aload_n 0, 1) := by decide +kernel
theorem dX8_judge_68 : decode cX8_judge 68 = .ok (.getfield 10, 3) := by decide +kernel
theorem dX8_judge_71 : decode cX8_judge 71 = .ok (.getfield 94, 3) := by decide +kernel
theorem dX8_judge_74 : decode cX8_judge 74 = .ok (.getfield 142, 3) := by decide +kernel
theorem dX8_judge_77 : decode cX8_judge 77 = .ok (.iload 4, 2) := by decide +kernel
theorem dX8_judge_79 : decode cX8_judge 79 = .ok (.iaload, 1) := by decide +kernel
theorem dX8_judge_80 : decode cX8_judge 80 = .ok (.if_icmp .eq 6, 3) := by decide +kernel
theorem dX8_judge_83 : decode cX8_judge 83 = .ok (.iload 4, 2) := by decide +kernel
theorem dX8_judge_85 : decode cX8_judge 85 = .ok (.ireturn, 1) := by decide +kernel
theorem dX8_judge_86 : decode cX8_judge 86 = .ok (.iinc 4 1, 3) := by decide +kernel
theorem dX8_judge_89 : decode cX8_judge 89 = .ok (.goto (-35), 3) := by decide +kernel
theorem dX8_judge_92 : decode cX8_judge 92 = .ok (.aload_n 2, 1) := by decide +kernel
theorem dX8_judge_93 : decode cX8_judge 93 = .ok (.getfield 230, 3) := by decide +kernel
theorem dX8_judge_96 : decode cX8_judge 96 = .ok (.aload_n 0, 1) := by decide +kernel
theorem dX8_judge_97 : decode cX8_judge 97 = .ok (.getfield 10, 3) := by decide +kernel
theorem dX8_judge_100 : decode cX8_judge 100 = .ok (.getfield 94, 3) := by decide +kernel
theorem dX8_judge_103 : decode cX8_judge 103 = .ok (.getfield 126, 3) := by decide +kernel
theorem dX8_judge_106 : decode cX8_judge 106 = .ok (.if_icmp .ne 7, 3) := by decide +kernel
theorem dX8_judge_109 : decode cX8_judge 109 = .ok (.iconst (-1), 1) := by decide +kernel
theorem dX8_judge_110 : decode cX8_judge 110 = .ok (.goto 4, 3) := by decide +kernel
theorem dX8_judge_113 : decode cX8_judge 113 = .ok (.iload_n 3, 1) := by decide +kernel
theorem dX8_judge_114 : decode cX8_judge 114 = .ok (.ireturn, 1) := by decide +kernel
theorem dX8_image_0 : decode cX8_image 0 = .ok (.aload_n 0, 1) := by decide +kernel
theorem dX8_image_1 : decode cX8_image 1 = .ok (.getfield 16, 3) := by decide +kernel
theorem dX8_image_4 : decode cX8_image 4 = .ok (.aload_n 0, 1) := by decide +kernel
theorem dX8_image_5 : decode cX8_image 5 = .ok (.getfield 10, 3) := by decide +kernel
theorem dX8_image_8 : decode cX8_image 8 = .ok (.invokevirtual 296, 3) := by decide +kernel
theorem dX8_image_11 : decode cX8_image 11 = .ok (.aload_n 0, 1) := by decide +kernel
theorem dX8_image_12 : decode cX8_image 12 = .ok (.dup, 1) := by decide +kernel
theorem dX8_image_13 : decode cX8_image 13 = .ok (.getfield 78, 3) := by decide +kernel
theorem dX8_image_16 : decode cX8_image 16 = .ok (.iconst 1, 1) := by decide +kernel
theorem dX8_image_17 : decode cX8_image 17 = .ok (.iadd, 1) := by decide +kernel
theorem dX8_image_18 : decode cX8_image 18 = .ok (.putfield 78, 3) := by decide +kernel
theorem dX8_image_21 : decode cX8_image 21 = .ok (.aload_n 0, 1) := by decide +kernel
theorem dX8_image_22 : decode cX8_image 22 = .ok (.getfield 78, 3) := by decide +kernel
theorem dX8_image_25 : decode cX8_image 25 = .ok (.ireturn, 1) := by decide +kernel
theorem dX8_restore_0 : decode cX8_restore 0 = .ok (.aload_n 0, 1) := by decide +kernel
theorem dX8_restore_1 : decode cX8_restore 1 = .ok (.getfield 78, 3) := by decide +kernel
theorem dX8_restore_4 : decode cX8_restore 4 = .ok (.ifCond .ne 9, 3) := by decide +kernel
theorem dX8_restore_7 : decode cX8_restore 7 = .ok (.aload_n 0, 1) := by decide +kernel
theorem dX8_restore_8 : decode cX8_restore 8 = .ok (.iconst 2, 1) := by decide +kernel
theorem dX8_restore_9 : decode cX8_restore 9 = .ok (.invokevirtual 90, 3) := by decide +kernel
theorem dX8_restore_12 : decode cX8_restore 12 = .ok (.ireturn, 1) := by decide +kernel
theorem dX8_restore_13 : decode cX8_restore 13 = .ok (.aload_n 0, 1) := by decide +kernel
theorem dX8_restore_14 : decode cX8_restore 14 = .ok (.getfield 10, 3) := by decide +kernel
theorem dX8_restore_17 : decode cX8_restore 17 = .ok (.aload_n 0, 1) := by decide +kernel
theorem dX8_restore_18 : decode cX8_restore 18 = .ok (.getfield 16, 3) := by decide +kernel
theorem dX8_restore_21 : decode cX8_restore 21 = .ok (.invokevirtual 296, 3) := by decide +kernel
theorem dX8_restore_24 : decode cX8_restore 24 = .ok (.aload_n 0, 1) := by decide +kernel
theorem dX8_restore_25 : decode cX8_restore 25 = .ok (.getfield 38, 3) := by decide +kernel
theorem dX8_restore_28 : decode cX8_restore 28 = .ok (.invokevirtual 189, 3) := by decide +kernel
theorem dX8_restore_31 : decode cX8_restore 31 = .ok (.aload_n 0, 1) := by decide +kernel
theorem dX8_restore_32 : decode cX8_restore 32 = .ok (.getfield 10, 3) := by decide +kernel
theorem dX8_restore_35 : decode cX8_restore 35 = .ok (.getfield 94, 3) := by decide +kernel
theorem dX8_restore_38 : decode cX8_restore 38 = .ok (.getfield 196, 3) := by decide +kernel
theorem dX8_restore_41 : decode cX8_restore 41 = .ok (.ireturn, 1) := by decide +kernel
theorem dX8_tell_0 : decode cX8_tell 0 = .ok (.aload_n 0, 1) := by decide +kernel
theorem dX8_tell_1 : decode cX8_tell 1 = .ok (.getfield 10, 3) := by decide +kernel
theorem dX8_tell_4 : decode cX8_tell 4 = .ok (.getfield 299, 3) := by decide +kernel
theorem dX8_tell_7 : decode cX8_tell 7 = .ok (.getfield 167, 3) := by decide +kernel
theorem dX8_tell_10 : decode cX8_tell 10 = .ok (.bipush 20, 2) := by decide +kernel
theorem dX8_tell_12 : decode cX8_tell 12 = .ok (.if_icmp .lt 9, 3) := by decide +kernel
theorem dX8_tell_15 : decode cX8_tell 15 = .ok (.aload_n 0, 1) := by decide +kernel
theorem dX8_tell_16 : decode cX8_tell 16 = .ok (.iconst 4, 1) := by decide +kernel
theorem dX8_tell_17 : decode cX8_tell 17 = .ok (.invokevirtual 90, 3) := by decide +kernel
theorem dX8_tell_20 : decode cX8_tell 20 = .ok (.ireturn, 1) := by decide +kernel
theorem dX8_tell_21 : decode cX8_tell 21 = .ok (.aload_n 0, 1) := by decide +kernel
theorem dX8_tell_22 : decode cX8_tell 22 = .ok (.getfield 10, 3) := by decide +kernel
theorem dX8_tell_25 : decode cX8_tell 25 = .ok (.getfield 299, 3) := by decide +kernel
theorem dX8_tell_28 : decode cX8_tell 28 = .ok (.iload_n 1, 1) := by decide +kernel
theorem dX8_tell_29 : decode cX8_tell 29 = .ok (.invokevirtual 172, 3) := by decide +kernel
theorem dX8_tell_32 : decode cX8_tell 32 = .ok (.aload_n 0, 1) := by decide +kernel
theorem dX8_tell_33 : decode cX8_tell 33 = .ok (.getfield 10, 3) := by decide +kernel
theorem dX8_tell_36 : decode cX8_tell 36 = .ok (.getfield 299, 3) := by decide +kernel
theorem dX8_tell_39 : decode cX8_tell 39 = .ok (.getfield 167, 3) := by decide +kernel
theorem dX8_tell_42 : decode cX8_tell 42 = .ok (.ireturn, 1) := by decide +kernel
theorem dX8_check_0 : decode cX8_check 0 = .ok (.aload_n 0, 1) := by decide +kernel
theorem dX8_check_1 : decode cX8_check 1 = .ok (.getfield 10, 3) := by decide +kernel
theorem dX8_check_4 : decode cX8_check 4 = .ok (.getfield 299, 3) := by decide +kernel
theorem dX8_check_7 : decode cX8_check 7 = .ok (.getfield 167, 3) := by decide +kernel
theorem dX8_check_10 : decode cX8_check 10 = .ok (.istore_n 1, 1) := by decide +kernel
theorem dX8_check_11 : decode cX8_check 11 = .ok (.aload_n 0, 1) := by decide +kernel
theorem dX8_check_12 : decode cX8_check 12 = .ok (.getfield 10, 3) := by decide +kernel
theorem dX8_check_15 : decode cX8_check 15 = .ok (.getfield 299, 3) := by decide +kernel
theorem dX8_check_18 : decode cX8_check 18 = .ok (.iconst 0, 1) := by decide +kernel
theorem dX8_check_19 : decode cX8_check 19 = .ok (.putfield 167, 3) := by decide +kernel
theorem dX8_check_22 : decode cX8_check 22 = .ok (.aload_n 0, 1) := by decide +kernel
theorem dX8_check_23 : decode cX8_check 23 = .ok (.invokevirtual 210, 3) := by decide +kernel
theorem dX8_check_26 : decode cX8_check 26 = .ok (.iconst 0, 1) := by decide +kernel
theorem dX8_check_27 : decode cX8_check 27 = .ok (.istore_n 2, 1) := by decide +kernel
theorem dX8_check_28 : decode cX8_check 28 = .ok (.iload_n 2, 1) := by decide +kernel
theorem dX8_check_29 : decode cX8_check 29 = .ok (.iload_n 1, 1) := by decide +kernel
theorem dX8_check_30 : decode cX8_check 30 = .ok (.if_icmp .ge 47, 3) := by decide +kernel
theorem dX8_check_33 : decode cX8_check 33 = .ok (.aload_n 0, 1) := by decide +kernel
theorem dX8_check_34 : decode cX8_check 34 = .ok (.getfield 22, 3) := by decide +kernel
theorem dX8_check_37 : decode cX8_check 37 = .ok (.aload_n 0, 1) := by decide +kernel
theorem dX8_check_38 : decode cX8_check 38 = .ok (.getfield 38, 3) := by decide +kernel
theorem dX8_check_41 : decode cX8_check 41 = .ok (.iconst 1, 1) := by decide +kernel
theorem dX8_check_42 : decode cX8_check 42 = .ok (.invokevirtual 199, 3) := by decide +kernel
theorem dX8_check_45 : decode cX8_check 45 = .ok (.aload_n 0, 1) := by decide +kernel
theorem dX8_check_46 : decode cX8_check 46 = .ok (.getfield 22, 3) := by decide +kernel
theorem dX8_check_49 : decode cX8_check 49 = .ok (.getfield 120, 3) := by decide +kernel
theorem dX8_check_52 : decode cX8_check 52 = .ok (.aload_n 0, 1) := by decide +kernel
theorem dX8_check_53 : decode cX8_check 53 = .ok (.getfield 10, 3) := by decide +kernel
theorem dX8_check_56 : decode cX8_check 56 = .ok (.getfield 299, 3) := by decide +kernel
theorem dX8_check_59 : decode cX8_check 59 = .ok (.getfield 274, 3) := by decide +kernel
theorem dX8_check_62 : decode cX8_check 62 = .ok (.iload_n 2, 1) := by decide +kernel
theorem dX8_check_63 : decode cX8_check 63 = .ok (.iaload, 1) := by decide +kernel
theorem dX8_check_64 : decode cX8_check 64 = .ok (.if_icmp .eq 7, 3) := by decide +kernel
theorem dX8_check_67 : decode cX8_check 67 = .ok (.iconst 1, 1) := by decide +kernel
theorem dX8_check_68 : decode cX8_check 68 = .ok (.iload_n 2, 1) := by decide +kernel
theorem dX8_check_69 : decode cX8_check 69 = .ok (.iadd, 1) := by decide +kernel
theorem dX8_check_70 : decode cX8_check 70 = .ok (.ireturn, 1) := by decide +kernel
theorem dX8_check_71 : decode cX8_check 71 = .ok (.iinc 2 1, 3) := by decide +kernel
theorem dX8_check_74 : decode cX8_check 74 = .ok (.goto (-46), 3) := by decide +kernel
theorem dX8_check_77 : decode cX8_check 77 = .ok (.iconst 0, 1) := by decide +kernel
theorem dX8_check_78 : decode cX8_check 78 = .ok (.ireturn, 1) := by decide +kernel
theorem dX8_count_0 : decode cX8_count 0 = .ok (.iload_n 1, 1) := by decide +kernel
theorem dX8_count_1 : decode cX8_count 1 = .ok (.tableswitch 177 0 10 #[59, 70, 81, 92, 103, 114, 125, 136, 147, 158, 169], 59) := by decide +kernel
theorem dX8_count_60 : decode cX8_count 60 = .ok (.aload_n 0, 1) := by decide +kernel
theorem dX8_count_61 : decode cX8_count 61 = .ok (.getfield 10, 3) := by decide +kernel
theorem dX8_count_64 : decode cX8_count 64 = .ok (.getfield 94, 3) := by decide +kernel
theorem dX8_count_67 : decode cX8_count 67 = .ok (.getfield 126, 3) := by decide +kernel
theorem dX8_count_70 : decode cX8_count 70 = .ok (.ireturn, 1) := by decide +kernel
theorem dX8_count_71 : decode cX8_count 71 = .ok (.aload_n 0, 1) := by decide +kernel
theorem dX8_count_72 : decode cX8_count 72 = .ok (.getfield 10, 3) := by decide +kernel
theorem dX8_count_75 : decode cX8_count 75 = .ok (.getfield 94, 3) := by decide +kernel
theorem dX8_count_78 : decode cX8_count 78 = .ok (.getfield 196, 3) := by decide +kernel
theorem dX8_count_81 : decode cX8_count 81 = .ok (.ireturn, 1) := by decide +kernel
theorem dX8_count_82 : decode cX8_count 82 = .ok (.aload_n 0, 1) := by decide +kernel
theorem dX8_count_83 : decode cX8_count 83 = .ok (.getfield 10, 3) := by decide +kernel
theorem dX8_count_86 : decode cX8_count 86 = .ok (.getfield 94, 3) := by decide +kernel
theorem dX8_count_89 : decode cX8_count 89 = .ok (.getfield 117, 3) := by decide +kernel
theorem dX8_count_92 : decode cX8_count 92 = .ok (.ireturn, 1) := by decide +kernel
theorem dX8_count_93 : decode cX8_count 93 = .ok (.aload_n 0, 1) := by decide +kernel
theorem dX8_count_94 : decode cX8_count 94 = .ok (.getfield 10, 3) := by decide +kernel
theorem dX8_count_97 : decode cX8_count 97 = .ok (.getfield 94, 3) := by decide +kernel
theorem dX8_count_100 : decode cX8_count 100 = .ok (.getfield 120, 3) := by decide +kernel
theorem dX8_count_103 : decode cX8_count 103 = .ok (.ireturn, 1) := by decide +kernel
theorem dX8_count_104 : decode cX8_count 104 = .ok (.aload_n 0, 1) := by decide +kernel
theorem dX8_count_105 : decode cX8_count 105 = .ok (.getfield 10, 3) := by decide +kernel
theorem dX8_count_108 : decode cX8_count 108 = .ok (.getfield 94, 3) := by decide +kernel
theorem dX8_count_111 : decode cX8_count 111 = .ok (.invokevirtual 302, 3) := by decide +kernel
theorem dX8_count_114 : decode cX8_count 114 = .ok (.ireturn, 1) := by decide +kernel
theorem dX8_count_115 : decode cX8_count 115 = .ok (.aload_n 0, 1) := by decide +kernel
theorem dX8_count_116 : decode cX8_count 116 = .ok (.getfield 10, 3) := by decide +kernel
theorem dX8_count_119 : decode cX8_count 119 = .ok (.getfield 94, 3) := by decide +kernel
theorem dX8_count_122 : decode cX8_count 122 = .ok (.invokevirtual 217, 3) := by decide +kernel
theorem dX8_count_125 : decode cX8_count 125 = .ok (.ireturn, 1) := by decide +kernel
theorem dX8_count_126 : decode cX8_count 126 = .ok (.aload_n 0, 1) := by decide +kernel
theorem dX8_count_127 : decode cX8_count 127 = .ok (.getfield 10, 3) := by decide +kernel
theorem dX8_count_130 : decode cX8_count 130 = .ok (.getfield 94, 3) := by decide +kernel
theorem dX8_count_133 : decode cX8_count 133 = .ok (.invokevirtual 305, 3) := by decide +kernel
theorem dX8_count_136 : decode cX8_count 136 = .ok (.ireturn, 1) := by decide +kernel
theorem dX8_count_137 : decode cX8_count 137 = .ok (.aload_n 0, 1) := by decide +kernel
theorem dX8_count_138 : decode cX8_count 138 = .ok (.getfield 10, 3) := by decide +kernel
theorem dX8_count_141 : decode cX8_count 141 = .ok (.getfield 44, 3) := by decide +kernel
theorem dX8_count_144 : decode cX8_count 144 = .ok (.getfield 167, 3) := by decide +kernel
theorem dX8_count_147 : decode cX8_count 147 = .ok (.ireturn, 1) := by decide +kernel
theorem dX8_count_148 : decode cX8_count 148 = .ok (.aload_n 0, 1) := by decide +kernel
theorem dX8_count_149 : decode cX8_count 149 = .ok (.getfield 10, 3) := by decide +kernel
theorem dX8_count_152 : decode cX8_count 152 = .ok (.getfield 299, 3) := by decide +kernel
theorem dX8_count_155 : decode cX8_count 155 = .ok (.getfield 167, 3) := by decide +kernel
theorem dX8_count_158 : decode cX8_count 158 = .ok (.ireturn, 1) := by decide +kernel
theorem dX8_count_159 : decode cX8_count 159 = .ok (.aload_n 0, 1) := by decide +kernel
theorem dX8_count_160 : decode cX8_count 160 = .ok (.getfield 57, 3) := by decide +kernel
theorem dX8_count_163 : decode cX8_count 163 = .ok (.getfield 271, 3) := by decide +kernel
theorem dX8_count_166 : decode cX8_count 166 = .ok (.getfield 167, 3) := by decide +kernel
theorem dX8_count_169 : decode cX8_count 169 = .ok (.ireturn, 1) := by decide +kernel
theorem dX8_count_170 : decode cX8_count 170 = .ok (.aload_n 0, 1) := by decide +kernel
theorem dX8_count_171 : decode cX8_count 171 = .ok (.getfield 10, 3) := by decide +kernel
theorem dX8_count_174 : decode cX8_count 174 = .ok (.getfield 264, 3) := by decide +kernel
theorem dX8_count_177 : decode cX8_count 177 = .ok (.ireturn, 1) := by decide +kernel
theorem dX8_count_178 : decode cX8_count 178 = .ok (.aload_n 0, 1) := by decide +kernel
theorem dX8_count_179 : decode cX8_count 179 = .ok (.iconst 1, 1) := by decide +kernel
theorem dX8_count_180 : decode cX8_count 180 = .ok (.invokevirtual 90, 3) := by decide +kernel
theorem dX8_count_183 : decode cX8_count 183 = .ok (.ireturn, 1) := by decide +kernel
theorem dX8_told_0 : decode cX8_told 0 = .ok (.iload_n 1, 1) := by decide +kernel
theorem dX8_told_1 : decode cX8_told 1 = .ok (.iconst 1, 1) := by decide +kernel
theorem dX8_told_2 : decode cX8_told 2 = .ok (.iconst 5, 1) := by decide +kernel
theorem dX8_told_3 : decode cX8_told 3 = .ok (.invokestatic 86, 3) := by decide +kernel
theorem dX8_told_6 : decode cX8_told 6 = .ok (.ifCond .eq 12, 3) := by decide +kernel
theorem dX8_told_9 : decode cX8_told 9 = .ok (.aload_n 0, 1) := by decide +kernel
theorem dX8_told_10 : decode cX8_told 10 = .ok (.getfield 68, 3) := by decide +kernel
theorem dX8_told_13 : decode cX8_told 13 = .ok (.iload_n 1, 1) := by decide +kernel
theorem dX8_told_14 : decode cX8_told 14 = .ok (.iaload, 1) := by decide +kernel
theorem dX8_told_15 : decode cX8_told 15 = .ok (.goto 8, 3) := by decide +kernel
theorem dX8_told_18 : decode cX8_told 18 = .ok (.aload_n 0, 1) := by decide +kernel
theorem dX8_told_19 : decode cX8_told 19 = .ok (.iconst 1, 1) := by decide +kernel
theorem dX8_told_20 : decode cX8_told 20 = .ok (.invokevirtual 90, 3) := by decide +kernel
theorem dX8_told_23 : decode cX8_told 23 = .ok (.ireturn, 1) := by decide +kernel
theorem dX8_error_0 : decode cX8_error 0 = .ok (.aload_n 0, 1) := by decide +kernel
theorem dX8_error_1 : decode cX8_error 1 = .ok (.getfield 68, 3) := by decide +kernel
theorem dX8_error_4 : decode cX8_error 4 = .ok (.iload_n 1, 1) := by decide +kernel
theorem dX8_error_5 : decode cX8_error 5 = .ok (.dup2, 1) := by decide +kernel
theorem dX8_error_6 : decode cX8_error 6 = .ok (.iaload, 1) := by decide +kernel
theorem dX8_error_7 : decode cX8_error 7 = .ok (.iconst 1, 1) := by decide +kernel
theorem dX8_error_8 : decode cX8_error 8 = .ok (.iadd, 1) := by decide +kernel
theorem dX8_error_9 : decode cX8_error 9 = .ok (.iastore, 1) := by decide +kernel
theorem dX8_error_10 : decode cX8_error 10 = .ok (.ldc_w 308, 3) := by decide +kernel
theorem dX8_error_13 : decode cX8_error 13 = .ok (.iload_n 1, 1) := by decide +kernel
theorem dX8_error_14 : decode cX8_error 14 = .ok (.isub, 1) := by decide +kernel
theorem dX8_error_15 : decode cX8_error 15 = .ok (.ireturn, 1) := by decide +kernel
theorem dX8_within_0 : decode cX8_within 0 = .ok (.iload_n 0, 1) := by decide +kernel
theorem dX8_within_1 : decode cX8_within 1 = .ok (.iload_n 1, 1) := by decide +kernel
theorem dX8_within_2 : decode cX8_within 2 = .ok (.if_icmp .lt 12, 3) := by decide +kernel
theorem dX8_within_5 : decode cX8_within 5 = .ok (.iload_n 0, 1) := by decide +kernel
theorem dX8_within_6 : decode cX8_within 6 = .ok (.iload_n 2, 1) := by decide +kernel
theorem dX8_within_7 : decode cX8_within 7 = .ok (.if_icmp .gt 7, 3) := by decide +kernel
theorem dX8_within_10 : decode cX8_within 10 = .ok (.iconst 1, 1) := by decide +kernel
theorem dX8_within_11 : decode cX8_within 11 = .ok (.goto 4, 3) := by decide +kernel
theorem dX8_within_14 : decode cX8_within 14 = .ok (.iconst 0, 1) := by decide +kernel
theorem dX8_within_15 : decode cX8_within 15 = .ok (.ireturn, 1) := by decide +kernel
theorem dX8_isDish_0 : decode cX8_isDish 0 = .ok (.iload_n 0, 1) := by decide +kernel
theorem dX8_isDish_1 : decode cX8_isDish 1 = .ok (.iconst 0, 1) := by decide +kernel
theorem dX8_isDish_2 : decode cX8_isDish 2 = .ok (.bipush 15, 2) := by decide +kernel
theorem dX8_isDish_4 : decode cX8_isDish 4 = .ok (.invokestatic 86, 3) := by decide +kernel
theorem dX8_isDish_7 : decode cX8_isDish 7 = .ok (.ireturn, 1) := by decide +kernel
theorem dX8_isCourse_0 : decode cX8_isCourse 0 = .ok (.iload_n 0, 1) := by decide +kernel
theorem dX8_isCourse_1 : decode cX8_isCourse 1 = .ok (.iconst 0, 1) := by decide +kernel
theorem dX8_isCourse_2 : decode cX8_isCourse 2 = .ok (.iconst 5, 1) := by decide +kernel
theorem dX8_isCourse_3 : decode cX8_isCourse 3 = .ok (.invokestatic 86, 3) := by decide +kernel
theorem dX8_isCourse_6 : decode cX8_isCourse 6 = .ok (.ireturn, 1) := by decide +kernel
theorem dX8_isKindAndM_0 : decode cX8_isKindAndM 0 = .ok (.iload_n 0, 1) := by decide +kernel
theorem dX8_isKindAndM_1 : decode cX8_isKindAndM 1 = .ok (.iconst 0, 1) := by decide +kernel
theorem dX8_isKindAndM_2 : decode cX8_isKindAndM 2 = .ok (.bipush 69, 2) := by decide +kernel
theorem dX8_isKindAndM_4 : decode cX8_isKindAndM 4 = .ok (.invokestatic 86, 3) := by decide +kernel
theorem dX8_isKindAndM_7 : decode cX8_isKindAndM 7 = .ok (.ireturn, 1) := by decide +kernel
theorem dX8_isKnown_0 : decode cX8_isKnown 0 = .ok (.iload_n 0, 1) := by decide +kernel
theorem dX8_isKnown_1 : decode cX8_isKnown 1 = .ok (.iconst 0, 1) := by decide +kernel
theorem dX8_isKnown_2 : decode cX8_isKnown 2 = .ok (.bipush 99, 2) := by decide +kernel
theorem dX8_isKnown_4 : decode cX8_isKnown 4 = .ok (.invokestatic 86, 3) := by decide +kernel
theorem dX8_isKnown_7 : decode cX8_isKnown 7 = .ok (.ireturn, 1) := by decide +kernel
theorem dX8_isAhead_0 : decode cX8_isAhead 0 = .ok (.iload_n 0, 1) := by decide +kernel
theorem dX8_isAhead_1 : decode cX8_isAhead 1 = .ok (.iconst 0, 1) := by decide +kernel
theorem dX8_isAhead_2 : decode cX8_isAhead 2 = .ok (.bipush 60, 2) := by decide +kernel
theorem dX8_isAhead_4 : decode cX8_isAhead 4 = .ok (.invokestatic 86, 3) := by decide +kernel
theorem dX8_isAhead_7 : decode cX8_isAhead 7 = .ok (.ireturn, 1) := by decide +kernel
theorem dX8_isSheet_0 : decode cX8_isSheet 0 = .ok (.iload_n 0, 1) := by decide +kernel
theorem dX8_isSheet_1 : decode cX8_isSheet 1 = .ok (.iconst 0, 1) := by decide +kernel
theorem dX8_isSheet_2 : decode cX8_isSheet 2 = .ok (.iconst 3, 1) := by decide +kernel
theorem dX8_isSheet_3 : decode cX8_isSheet 3 = .ok (.invokestatic 86, 3) := by decide +kernel
theorem dX8_isSheet_6 : decode cX8_isSheet 6 = .ok (.ireturn, 1) := by decide +kernel
theorem dX8_isDiner_0 : decode cX8_isDiner 0 = .ok (.iload_n 1, 1) := by decide +kernel
theorem dX8_isDiner_1 : decode cX8_isDiner 1 = .ok (.iconst 0, 1) := by decide +kernel
theorem dX8_isDiner_2 : decode cX8_isDiner 2 = .ok (.aload_n 0, 1) := by decide +kernel
theorem dX8_isDiner_3 : decode cX8_isDiner 3 = .ok (.getfield 10, 3) := by decide +kernel
theorem dX8_isDiner_6 : decode cX8_isDiner 6 = .ok (.getfield 94, 3) := by decide +kernel
theorem dX8_isDiner_9 : decode cX8_isDiner 9 = .ok (.getfield 126, 3) := by decide +kernel
theorem dX8_isDiner_12 : decode cX8_isDiner 12 = .ok (.iconst 1, 1) := by decide +kernel
theorem dX8_isDiner_13 : decode cX8_isDiner 13 = .ok (.isub, 1) := by decide +kernel
theorem dX8_isDiner_14 : decode cX8_isDiner 14 = .ok (.invokestatic 86, 3) := by decide +kernel
theorem dX8_isDiner_17 : decode cX8_isDiner 17 = .ok (.ireturn, 1) := by decide +kernel
theorem dX8_replaced_0 : decode cX8_replaced 0 = .ok (.aload_n 0, 1) := by decide +kernel
theorem dX8_replaced_1 : decode cX8_replaced 1 = .ok (.iload_n 1, 1) := by decide +kernel
theorem dX8_replaced_2 : decode cX8_replaced 2 = .ok (.iaload, 1) := by decide +kernel
theorem dX8_replaced_3 : decode cX8_replaced 3 = .ok (.istore_n 3, 1) := by decide +kernel
theorem dX8_replaced_4 : decode cX8_replaced 4 = .ok (.aload_n 0, 1) := by decide +kernel
theorem dX8_replaced_5 : decode cX8_replaced 5 = .ok (.iload_n 1, 1) := by decide +kernel
theorem dX8_replaced_6 : decode cX8_replaced 6 = .ok (.iload_n 2, 1) := by decide +kernel
theorem dX8_replaced_7 : decode cX8_replaced 7 = .ok (.iastore, 1) := by decide +kernel
theorem dX8_replaced_8 : decode cX8_replaced 8 = .ok (.iload_n 3, 1) := by decide +kernel
theorem dX8_replaced_9 : decode cX8_replaced 9 = .ok (.ireturn, 1) := by decide +kernel
theorem dX8_thinkAnew_0 : decode cX8_thinkAnew 0 = .ok (.aload_n 0, 1) := by decide +kernel
theorem dX8_thinkAnew_1 : decode cX8_thinkAnew 1 = .ok (.getfield 22, 3) := by decide +kernel
theorem dX8_thinkAnew_4 : decode cX8_thinkAnew 4 = .ok (.aload_n 0, 1) := by decide +kernel
theorem dX8_thinkAnew_5 : decode cX8_thinkAnew 5 = .ok (.getfield 10, 3) := by decide +kernel
theorem dX8_thinkAnew_8 : decode cX8_thinkAnew 8 = .ok (.getfield 94, 3) := by decide +kernel
theorem dX8_thinkAnew_11 : decode cX8_thinkAnew 11 = .ok (.invokevirtual 309, 3) := by decide +kernel
theorem dX8_thinkAnew_14 : decode cX8_thinkAnew 14 = .ok (.return_, 1) := by decide +kernel
theorem dX8_fitsLeavings_0 : decode cX8_fitsLeavings 0 = .ok (.aload_n 1, 1) := by decide +kernel
theorem dX8_fitsLeavings_1 : decode cX8_fitsLeavings 1 = .ok (.getfield 230, 3) := by decide +kernel
theorem dX8_fitsLeavings_4 : decode cX8_fitsLeavings 4 = .ok (.bipush 6, 2) := by decide +kernel
theorem dX8_fitsLeavings_6 : decode cX8_fitsLeavings 6 = .ok (.if_icmp .le 5, 3) := by decide +kernel
theorem dX8_fitsLeavings_9 : decode cX8_fitsLeavings 9 = .ok (.iconst 0, 1) := by decide +kernel
theorem dX8_fitsLeavings_10 : decode cX8_fitsLeavings 10 = .ok (.ireturn, 1) := by decide +kernel
theorem dX8_fitsLeavings_11 : decode cX8_fitsLeavings 11 = .ok (.aload_n 0, 1) := by decide +kernel
theorem dX8_fitsLeavings_12 : decode cX8_fitsLeavings 12 = .ok (.getfield 22, 3) := by decide +kernel
theorem dX8_fitsLeavings_15 : decode cX8_fitsLeavings 15 = .ok (.getfield 136, 3) := by decide +kernel
theorem dX8_fitsLeavings_18 : decode cX8_fitsLeavings 18 = .ok (.iload_n 2, 1) := by decide +kernel
theorem dX8_fitsLeavings_19 : decode cX8_fitsLeavings 19 = .ok (.iload_n 3, 1) := by decide +kernel
theorem dX8_fitsLeavings_20 : decode cX8_fitsLeavings 20 = .ok (.iastore, 1) := by decide +kernel
theorem dX8_fitsLeavings_21 : decode cX8_fitsLeavings 21 = .ok (.aload_n 0, 1) := by decide +kernel
theorem dX8_fitsLeavings_22 : decode cX8_fitsLeavings 22 = .ok (.getfield 22, 3) := by decide +kernel
theorem dX8_fitsLeavings_25 : decode cX8_fitsLeavings 25 = .ok (.getfield 142, 3) := by decide +kernel
theorem dX8_fitsLeavings_28 : decode cX8_fitsLeavings 28 = .ok (.iload_n 2, 1) := by decide +kernel
theorem dX8_fitsLeavings_29 : decode cX8_fitsLeavings 29 = .ok (.iload 4, 2) := by decide +kernel
theorem dX8_fitsLeavings_31 : decode cX8_fitsLeavings 31 = .ok (.iastore, 1) := by decide +kernel
theorem dX8_fitsLeavings_32 : decode cX8_fitsLeavings 32 = .ok (.iconst 0, 1) := by decide +kernel
theorem dX8_fitsLeavings_33 : decode cX8_fitsLeavings 33 = .ok (.istore 5, 2) := by decide +kernel
theorem dX8_fitsLeavings_35 : decode cX8_fitsLeavings 35 = .ok (.iload 5, 2) := by decide +kernel
theorem dX8_fitsLeavings_37 : decode cX8_fitsLeavings 37 = .ok (.aload_n 1, 1) := by decide +kernel
theorem dX8_fitsLeavings_38 : decode cX8_fitsLeavings 38 = .ok (.getfield 230, 3) := by decide +kernel
theorem dX8_fitsLeavings_41 : decode cX8_fitsLeavings 41 = .ok (.if_icmp .ge 35, 3) := by decide +kernel
theorem dX8_fitsLeavings_44 : decode cX8_fitsLeavings 44 = .ok (.aload_n 0, 1) := by decide +kernel
theorem dX8_fitsLeavings_45 : decode cX8_fitsLeavings 45 = .ok (.getfield 22, 3) := by decide +kernel
theorem dX8_fitsLeavings_48 : decode cX8_fitsLeavings 48 = .ok (.aload_n 0, 1) := by decide +kernel
theorem dX8_fitsLeavings_49 : decode cX8_fitsLeavings 49 = .ok (.getfield 38, 3) := by decide +kernel
theorem dX8_fitsLeavings_52 : decode cX8_fitsLeavings 52 = .ok (.iload 5, 2) := by decide +kernel
theorem dX8_fitsLeavings_54 : decode cX8_fitsLeavings 54 = .ok (.iload_n 2, 1) := by decide +kernel
theorem dX8_fitsLeavings_55 : decode cX8_fitsLeavings 55 = .ok (.invokevirtual 154, 3) := by decide +kernel
theorem dX8_fitsLeavings_58 : decode cX8_fitsLeavings 58 = .ok (.aload_n 1, 1) := by decide +kernel
theorem dX8_fitsLeavings_59 : decode cX8_fitsLeavings 59 = .ok (.getfield 231, 3) := by decide +kernel
theorem dX8_fitsLeavings_62 : decode cX8_fitsLeavings 62 = .ok (.iload 5, 2) := by decide +kernel
theorem dX8_fitsLeavings_64 : decode cX8_fitsLeavings 64 = .ok (.iaload, 1) := by decide +kernel
theorem dX8_fitsLeavings_65 : decode cX8_fitsLeavings 65 = .ok (.if_icmp .eq 5, 3) := by decide +kernel
theorem dX8_fitsLeavings_68 : decode cX8_fitsLeavings 68 = .ok (.iconst 0, 1) := by decide +kernel
theorem dX8_fitsLeavings_69 : decode cX8_fitsLeavings 69 = .ok (.ireturn, 1) := by decide +kernel
theorem dX8_fitsLeavings_70 : decode cX8_fitsLeavings 70 = .ok (.iinc 5 1, 3) := by decide +kernel
theorem dX8_fitsLeavings_73 : decode cX8_fitsLeavings 73 = .ok (.goto (-38), 3) := by decide +kernel
theorem dX8_fitsLeavings_76 : decode cX8_fitsLeavings 76 = .ok (.iconst 1, 1) := by decide +kernel
theorem dX8_fitsLeavings_77 : decode cX8_fitsLeavings 77 = .ok (.ireturn, 1) := by decide +kernel
theorem dX8_addToPack_0 : decode cX8_addToPack 0 = .ok (.iload_n 1, 1) := by decide +kernel
theorem dX8_addToPack_1 : decode cX8_addToPack 1 = .ok (.istore 4, 2) := by decide +kernel
theorem dX8_addToPack_3 : decode cX8_addToPack 3 = .ok (.iload 4, 2) := by decide +kernel
theorem dX8_addToPack_5 : decode cX8_addToPack 5 = .ok (.iload_n 2, 1) := by decide +kernel
theorem dX8_addToPack_6 : decode cX8_addToPack 6 = .ok (.if_icmp .lt 37, 3) := by decide +kernel
theorem dX8_addToPack_9 : decode cX8_addToPack 9 = .ok (.aload_n 0, 1) := by decide +kernel
theorem dX8_addToPack_10 : decode cX8_addToPack 10 = .ok (.getfield 72, 3) := by decide +kernel
theorem dX8_addToPack_13 : decode cX8_addToPack 13 = .ok (.iload 4, 2) := by decide +kernel
theorem dX8_addToPack_15 : decode cX8_addToPack 15 = .ok (.aload_n 0, 1) := by decide +kernel
theorem dX8_addToPack_16 : decode cX8_addToPack 16 = .ok (.getfield 72, 3) := by decide +kernel
theorem dX8_addToPack_19 : decode cX8_addToPack 19 = .ok (.iload 4, 2) := by decide +kernel
theorem dX8_addToPack_21 : decode cX8_addToPack 21 = .ok (.iaload, 1) := by decide +kernel
theorem dX8_addToPack_22 : decode cX8_addToPack 22 = .ok (.aload_n 0, 1) := by decide +kernel
theorem dX8_addToPack_23 : decode cX8_addToPack 23 = .ok (.getfield 72, 3) := by decide +kernel
theorem dX8_addToPack_26 : decode cX8_addToPack 26 = .ok (.iload 4, 2) := by decide +kernel
theorem dX8_addToPack_28 : decode cX8_addToPack 28 = .ok (.iload_n 2, 1) := by decide +kernel
theorem dX8_addToPack_29 : decode cX8_addToPack 29 = .ok (.isub, 1) := by decide +kernel
theorem dX8_addToPack_30 : decode cX8_addToPack 30 = .ok (.iaload, 1) := by decide +kernel
theorem dX8_addToPack_31 : decode cX8_addToPack 31 = .ok (.iload_n 3, 1) := by decide +kernel
theorem dX8_addToPack_32 : decode cX8_addToPack 32 = .ok (.iadd, 1) := by decide +kernel
theorem dX8_addToPack_33 : decode cX8_addToPack 33 = .ok (.invokestatic 259, 3) := by decide +kernel
theorem dX8_addToPack_36 : decode cX8_addToPack 36 = .ok (.iastore, 1) := by decide +kernel
theorem dX8_addToPack_37 : decode cX8_addToPack 37 = .ok (.iinc 4 (-1), 3) := by decide +kernel
theorem dX8_addToPack_40 : decode cX8_addToPack 40 = .ok (.goto (-37), 3) := by decide +kernel
theorem dX8_addToPack_43 : decode cX8_addToPack 43 = .ok (.return_, 1) := by decide +kernel
theorem dX8_countTastes_0 : decode cX8_countTastes 0 = .ok (.aload_n 0, 1) := by decide +kernel
theorem dX8_countTastes_1 : decode cX8_countTastes 1 = .ok (.getfield 75, 3) := by decide +kernel
theorem dX8_countTastes_4 : decode cX8_countTastes 4 = .ok (.iconst 0, 1) := by decide +kernel
theorem dX8_countTastes_5 : decode cX8_countTastes 5 = .ok (.invokestatic 234, 3) := by decide +kernel
theorem dX8_countTastes_8 : decode cX8_countTastes 8 = .ok (.iconst 0, 1) := by decide +kernel
theorem dX8_countTastes_9 : decode cX8_countTastes 9 = .ok (.istore_n 1, 1) := by decide +kernel
theorem dX8_countTastes_10 : decode cX8_countTastes 10 = .ok (.iload_n 1, 1) := by decide +kernel
theorem dX8_countTastes_11 : decode cX8_countTastes 11 = .ok (.bipush 6, 2) := by decide +kernel
theorem dX8_countTastes_13 : decode cX8_countTastes 13 = .ok (.if_icmp .ge 78, 3) := by decide +kernel
theorem dX8_countTastes_16 : decode cX8_countTastes 16 = .ok (.iconst 0, 1) := by decide +kernel
theorem dX8_countTastes_17 : decode cX8_countTastes 17 = .ok (.istore_n 2, 1) := by decide +kernel
theorem dX8_countTastes_18 : decode cX8_countTastes 18 = .ok (.iload_n 2, 1) := by decide +kernel
theorem dX8_countTastes_19 : decode cX8_countTastes 19 = .ok (.aload_n 0, 1) := by decide +kernel
theorem dX8_countTastes_20 : decode cX8_countTastes 20 = .ok (.getfield 10, 3) := by decide +kernel
theorem dX8_countTastes_23 : decode cX8_countTastes 23 = .ok (.getfield 94, 3) := by decide +kernel
theorem dX8_countTastes_26 : decode cX8_countTastes 26 = .ok (.getfield 126, 3) := by decide +kernel
theorem dX8_countTastes_29 : decode cX8_countTastes 29 = .ok (.if_icmp .ge 56, 3) := by decide +kernel
theorem dX8_countTastes_32 : decode cX8_countTastes 32 = .ok (.aload_n 0, 1) := by decide +kernel
theorem dX8_countTastes_33 : decode cX8_countTastes 33 = .ok (.getfield 10, 3) := by decide +kernel
theorem dX8_countTastes_36 : decode cX8_countTastes 36 = .ok (.getfield 94, 3) := by decide +kernel
theorem dX8_countTastes_39 : decode cX8_countTastes 39 = .ok (.aload_n 0, 1) := by decide +kernel
theorem dX8_countTastes_40 : decode cX8_countTastes 40 = .ok (.getfield 38, 3) := by decide +kernel
theorem dX8_countTastes_43 : decode cX8_countTastes 43 = .ok (.iload_n 1, 1) := by decide +kernel
theorem dX8_countTastes_44 : decode cX8_countTastes 44 = .ok (.iload_n 2, 1) := by decide +kernel
theorem dX8_countTastes_45 : decode cX8_countTastes 45 = .ok (.invokevirtual 154, 3) := by decide +kernel
theorem dX8_countTastes_48 : decode cX8_countTastes 48 = .ok (.istore_n 3, 1) := by decide +kernel
theorem dX8_countTastes_49 : decode cX8_countTastes 49 = .ok (.iload_n 3, 1) := by decide +kernel
theorem dX8_countTastes_50 : decode cX8_countTastes 50 = .ok (.ifCond .le 29, 3) := by decide +kernel
theorem dX8_countTastes_53 : decode cX8_countTastes 53 = .ok (.aload_n 0, 1) := by decide +kernel
theorem dX8_countTastes_54 : decode cX8_countTastes 54 = .ok (.getfield 75, 3) := by decide +kernel
theorem dX8_countTastes_57 : decode cX8_countTastes 57 = .ok (.aload_n 0, 1) := by decide +kernel
theorem dX8_countTastes_58 : decode cX8_countTastes 58 = .ok (.getfield 10, 3) := by decide +kernel
theorem dX8_countTastes_61 : decode cX8_countTastes 61 = .ok (.getfield 94, 3) := by decide +kernel
theorem dX8_countTastes_64 : decode cX8_countTastes 64 = .ok (.aload_n 0, 1) := by decide +kernel
theorem dX8_countTastes_65 : decode cX8_countTastes 65 = .ok (.getfield 38, 3) := by decide +kernel
theorem dX8_countTastes_68 : decode cX8_countTastes 68 = .ok (.iload_n 1, 1) := by decide +kernel
theorem dX8_countTastes_69 : decode cX8_countTastes 69 = .ok (.iload_n 2, 1) := by decide +kernel
theorem dX8_countTastes_70 : decode cX8_countTastes 70 = .ok (.iload_n 3, 1) := by decide +kernel
theorem dX8_countTastes_71 : decode cX8_countTastes 71 = .ok (.invokevirtual 240, 3) := by decide +kernel
theorem dX8_countTastes_74 : decode cX8_countTastes 74 = .ok (.dup2, 1) := by decide +kernel
theorem dX8_countTastes_75 : decode cX8_countTastes 75 = .ok (.iaload, 1) := by decide +kernel
theorem dX8_countTastes_76 : decode cX8_countTastes 76 = .ok (.iconst 1, 1) := by decide +kernel
theorem dX8_countTastes_77 : decode cX8_countTastes 77 = .ok (.iadd, 1) := by decide +kernel
theorem dX8_countTastes_78 : decode cX8_countTastes 78 = .ok (.iastore, 1) := by decide +kernel
theorem dX8_countTastes_79 : decode cX8_countTastes 79 = .ok (.iinc 2 1, 3) := by decide +kernel
theorem dX8_countTastes_82 : decode cX8_countTastes 82 = .ok (.goto (-64), 3) := by decide +kernel
theorem dX8_countTastes_85 : decode cX8_countTastes 85 = .ok (.iinc 1 1, 3) := by decide +kernel
theorem dX8_countTastes_88 : decode cX8_countTastes 88 = .ok (.goto (-78), 3) := by decide +kernel
theorem dX8_countTastes_91 : decode cX8_countTastes 91 = .ok (.return_, 1) := by decide +kernel
theorem dX8_commonDivisor_0 : decode cX8_commonDivisor 0 = .ok (.iload_n 1, 1) := by decide +kernel
theorem dX8_commonDivisor_1 : decode cX8_commonDivisor 1 = .ok (.istore_n 2, 1) := by decide +kernel
theorem dX8_commonDivisor_2 : decode cX8_commonDivisor 2 = .ok (.iload_n 2, 1) := by decide +kernel
theorem dX8_commonDivisor_3 : decode cX8_commonDivisor 3 = .ok (.iconst 1, 1) := by decide +kernel
theorem dX8_commonDivisor_4 : decode cX8_commonDivisor 4 = .ok (.if_icmp .le 23, 3) := by decide +kernel
theorem dX8_commonDivisor_7 : decode cX8_commonDivisor 7 = .ok (.iload_n 0, 1) := by decide +kernel
theorem dX8_commonDivisor_8 : decode cX8_commonDivisor 8 = .ok (.iload_n 2, 1) := by decide +kernel
theorem dX8_commonDivisor_9 : decode cX8_commonDivisor 9 = .ok (.irem, 1) := by decide +kernel
theorem dX8_commonDivisor_10 : decode cX8_commonDivisor 10 = .ok (.ifCond .ne 11, 3) := by decide +kernel
theorem dX8_commonDivisor_13 : decode cX8_commonDivisor 13 = .ok (.iload_n 1, 1) := by decide +kernel
theorem dX8_commonDivisor_14 : decode cX8_commonDivisor 14 = .ok (.iload_n 2, 1) := by decide +kernel
theorem dX8_commonDivisor_15 : decode cX8_commonDivisor 15 = .ok (.irem, 1) := by decide +kernel
theorem dX8_commonDivisor_16 : decode cX8_commonDivisor 16 = .ok (.ifCond .ne 5, 3) := by decide +kernel
theorem dX8_commonDivisor_19 : decode cX8_commonDivisor 19 = .ok (.iload_n 2, 1) := by decide +kernel
theorem dX8_commonDivisor_20 : decode cX8_commonDivisor 20 = .ok (.ireturn, 1) := by decide +kernel
theorem dX8_commonDivisor_21 : decode cX8_commonDivisor 21 = .ok (.iinc 2 (-1), 3) := by decide +kernel
theorem dX8_commonDivisor_24 : decode cX8_commonDivisor 24 = .ok (.goto (-22), 3) := by decide +kernel
theorem dX8_commonDivisor_27 : decode cX8_commonDivisor 27 = .ok (.iconst 1, 1) := by decide +kernel
theorem dX8_commonDivisor_28 : decode cX8_commonDivisor 28 = .ok (.ireturn, 1) := by decide +kernel
theorem dX9_init_0 : decode cX9_init 0 = .ok (.aload_n 0, 1) := by decide +kernel
theorem dX9_init_1 : decode cX9_init 1 = .ok (.invokespecial 1, 3) := by decide +kernel
theorem dX9_init_4 : decode cX9_init 4 = .ok (.aload_n 0, 1) := by decide +kernel
theorem dX9_init_5 : decode cX9_init 5 = .ok (.sipush 257, 3) := by decide +kernel
theorem dX9_init_8 : decode cX9_init 8 = .ok (.newarray .int, 2) := by decide +kernel
theorem dX9_init_10 : decode cX9_init 10 = .ok (.putfield 7, 3) := by decide +kernel
theorem dX9_init_13 : decode cX9_init 13 = .ok (.aload_n 0, 1) := by decide +kernel
theorem dX9_init_14 : decode cX9_init 14 = .ok (.sipush 257, 3) := by decide +kernel
theorem dX9_init_17 : decode cX9_init 17 = .ok (.newarray .int, 2) := by decide +kernel
theorem dX9_init_19 : decode cX9_init 19 = .ok (.putfield 13, 3) := by decide +kernel
theorem dX9_init_22 : decode cX9_init 22 = .ok (.aload_n 0, 1) := by decide +kernel
theorem dX9_init_23 : decode cX9_init 23 = .ok (.sipush 257, 3) := by decide +kernel
theorem dX9_init_26 : decode cX9_init 26 = .ok (.newarray .int, 2) := by decide +kernel
theorem dX9_init_28 : decode cX9_init 28 = .ok (.putfield 16, 3) := by decide +kernel
theorem dX9_init_31 : decode cX9_init 31 = .ok (.aload_n 0, 1) := by decide +kernel
theorem dX9_init_32 : decode cX9_init 32 = .ok (.sipush 257, 3) := by decide +kernel
theorem dX9_init_35 : decode cX9_init 35 = .ok (.newarray .int, 2) := by decide +kernel
theorem dX9_init_37 : decode cX9_init 37 = .ok (.putfield 19, 3) := by decide +kernel
theorem dX9_init_40 : decode cX9_init 40 = .ok (.aload_n 0, 1) := by decide +kernel
theorem dX9_init_41 : decode cX9_init 41 = .ok (.bipush 6, 2) := by decide +kernel
theorem dX9_init_43 : decode cX9_init 43 = .ok (.newarray .int, 2) := by decide +kernel
theorem dX9_init_45 : decode cX9_init 45 = .ok (.putfield 22, 3) := by decide +kernel
theorem dX9_init_48 : decode cX9_init 48 = .ok (.aload_n 0, 1) := by decide +kernel
theorem dX9_init_49 : decode cX9_init 49 = .ok (.sipush 2000, 3) := by decide +kernel
theorem dX9_init_52 : decode cX9_init 52 = .ok (.newarray .int, 2) := by decide +kernel
theorem dX9_init_54 : decode cX9_init 54 = .ok (.putfield 25, 3) := by decide +kernel
theorem dX9_init_57 : decode cX9_init 57 = .ok (.aload_n 0, 1) := by decide +kernel
theorem dX9_init_58 : decode cX9_init 58 = .ok (.iconst 4, 1) := by decide +kernel
theorem dX9_init_59 : decode cX9_init 59 = .ok (.newarray .int, 2) := by decide +kernel
theorem dX9_init_61 : decode cX9_init 61 = .ok (.putfield 28, 3) := by decide +kernel
theorem dX9_init_64 : decode cX9_init 64 = .ok (.aload_n 0, 1) := by decide +kernel
theorem dX9_init_65 : decode cX9_init 65 = .ok (.iconst 4, 1) := by decide +kernel
theorem dX9_init_66 : decode cX9_init 66 = .ok (.newarray .int, 2) := by decide +kernel
theorem dX9_init_68 : decode cX9_init 68 = .ok (.putfield 31, 3) := by decide +kernel
theorem dX9_init_71 : decode cX9_init 71 = .ok (.aload_n 0, 1) := by decide +kernel
theorem dX9_init_72 : decode cX9_init 72 = .ok (.sipush 160, 3) := by decide +kernel
theorem dX9_init_75 : decode cX9_init 75 = .ok (.newarray .int, 2) := by decide +kernel
theorem dX9_init_77 : decode cX9_init 77 = .ok (.putfield 34, 3) := by decide +kernel
theorem dX9_init_80 : decode cX9_init 80 = .ok (.aload_n 0, 1) := by decide +kernel
theorem dX9_init_81 : decode cX9_init 81 = .ok (.bipush 40, 2) := by decide +kernel
theorem dX9_init_83 : decode cX9_init 83 = .ok (.newarray .int, 2) := by decide +kernel
theorem dX9_init_85 : decode cX9_init 85 = .ok (.putfield 37, 3) := by decide +kernel
theorem dX9_init_88 : decode cX9_init 88 = .ok (.aload_n 0, 1) := by decide +kernel
theorem dX9_init_89 : decode cX9_init 89 = .ok (.bipush 41, 2) := by decide +kernel
theorem dX9_init_91 : decode cX9_init 91 = .ok (.newarray .int, 2) := by decide +kernel
theorem dX9_init_93 : decode cX9_init 93 = .ok (.putfield 40, 3) := by decide +kernel
theorem dX9_init_96 : decode cX9_init 96 = .ok (.aload_n 0, 1) := by decide +kernel
theorem dX9_init_97 : decode cX9_init 97 = .ok (.bipush 10, 2) := by decide +kernel
theorem dX9_init_99 : decode cX9_init 99 = .ok (.newarray .int, 2) := by decide +kernel
theorem dX9_init_101 : decode cX9_init 101 = .ok (.putfield 43, 3) := by decide +kernel
theorem dX9_init_104 : decode cX9_init 104 = .ok (.aload_n 0, 1) := by decide +kernel
theorem dX9_init_105 : decode cX9_init 105 = .ok (.bipush 40, 2) := by decide +kernel
theorem dX9_init_107 : decode cX9_init 107 = .ok (.newarray .int, 2) := by decide +kernel
theorem dX9_init_109 : decode cX9_init 109 = .ok (.putfield 46, 3) := by decide +kernel
theorem dX9_init_112 : decode cX9_init 112 = .ok (.aload_n 0, 1) := by decide +kernel
theorem dX9_init_113 : decode cX9_init 113 = .ok (.invokevirtual 49, 3) := by decide +kernel
theorem dX9_init_116 : decode cX9_init 116 = .ok (.aload_n 0, 1) := by decide +kernel
theorem dX9_init_117 : decode cX9_init 117 = .ok (.getfield 7, 3) := by decide +kernel
theorem dX9_init_120 : decode cX9_init 120 = .ok (.iconst 1, 1) := by decide +kernel
theorem dX9_init_121 : decode cX9_init 121 = .ok (.iconst 1, 1) := by decide +kernel
theorem dX9_init_122 : decode cX9_init 122 = .ok (.iastore, 1) := by decide +kernel
theorem dX9_init_123 : decode cX9_init 123 = .ok (.aload_n 0, 1) := by decide +kernel
theorem dX9_init_124 : decode cX9_init 124 = .ok (.getfield 7, 3) := by decide +kernel
theorem dX9_init_127 : decode cX9_init 127 = .ok (.iconst 3, 1) := by decide +kernel
theorem dX9_init_128 : decode cX9_init 128 = .ok (.bipush 12, 2) := by decide +kernel
theorem dX9_init_130 : decode cX9_init 130 = .ok (.iastore, 1) := by decide +kernel
theorem dX9_init_131 : decode cX9_init 131 = .ok (.aload_n 0, 1) := by decide +kernel
theorem dX9_init_132 : decode cX9_init 132 = .ok (.getfield 7, 3) := by decide +kernel
theorem dX9_init_135 : decode cX9_init 135 = .ok (.bipush 7, 2) := by decide +kernel
theorem dX9_init_137 : decode cX9_init 137 = .ok (.iconst (-1), 1) := by decide +kernel
theorem dX9_init_138 : decode cX9_init 138 = .ok (.iastore, 1) := by decide +kernel
theorem dX9_init_139 : decode cX9_init 139 = .ok (.aload_n 0, 1) := by decide +kernel
theorem dX9_init_140 : decode cX9_init 140 = .ok (.getfield 7, 3) := by decide +kernel
theorem dX9_init_143 : decode cX9_init 143 = .ok (.bipush 8, 2) := by decide +kernel
theorem dX9_init_145 : decode cX9_init 145 = .ok (.iconst (-1), 1) := by decide +kernel
theorem dX9_init_146 : decode cX9_init 146 = .ok (.iastore, 1) := by decide +kernel
theorem dX9_init_147 : decode cX9_init 147 = .ok (.iconst 0, 1) := by decide +kernel
theorem dX9_init_148 : decode cX9_init 148 = .ok (.istore_n 1, 1) := by decide +kernel
theorem dX9_init_149 : decode cX9_init 149 = .ok (.iload_n 1, 1) := by decide +kernel
theorem dX9_init_150 : decode cX9_init 150 = .ok (.bipush 16, 2) := by decide +kernel
theorem dX9_init_152 : decode cX9_init 152 = .ok (.if_icmp .ge 38, 3) := by decide +kernel
theorem dX9_init_155 : decode cX9_init 155 = .ok (.aload_n 0, 1) := by decide +kernel
theorem dX9_init_156 : decode cX9_init 156 = .ok (.getfield 7, 3) := by decide +kernel
theorem dX9_init_159 : decode cX9_init 159 = .ok (.bipush 9, 2) := by decide +kernel
theorem dX9_init_161 : decode cX9_init 161 = .ok (.iconst 2, 1) := by decide +kernel
theorem dX9_init_162 : decode cX9_init 162 = .ok (.iload_n 1, 1) := by decide +kernel
theorem dX9_init_163 : decode cX9_init 163 = .ok (.imul, 1) := by decide +kernel
theorem dX9_init_164 : decode cX9_init 164 = .ok (.iadd, 1) := by decide +kernel
theorem dX9_init_165 : decode cX9_init 165 = .ok (.iload_n 1, 1) := by decide +kernel
theorem dX9_init_166 : decode cX9_init 166 = .ok (.bipush 10, 2) := by decide +kernel
theorem dX9_init_168 : decode cX9_init 168 = .ok (.irem, 1) := by decide +kernel
theorem dX9_init_169 : decode cX9_init 169 = .ok (.iastore, 1) := by decide +kernel
theorem dX9_init_170 : decode cX9_init 170 = .ok (.aload_n 0, 1) := by decide +kernel
theorem dX9_init_171 : decode cX9_init 171 = .ok (.getfield 7, 3) := by decide +kernel
theorem dX9_init_174 : decode cX9_init 174 = .ok (.bipush 9, 2) := by decide +kernel
theorem dX9_init_176 : decode cX9_init 176 = .ok (.iconst 2, 1) := by decide +kernel
theorem dX9_init_177 : decode cX9_init 177 = .ok (.iload_n 1, 1) := by decide +kernel
theorem dX9_init_178 : decode cX9_init 178 = .ok (.imul, 1) := by decide +kernel
theorem dX9_init_179 : decode cX9_init 179 = .ok (.iadd, 1) := by decide +kernel
theorem dX9_init_180 : decode cX9_init 180 = .ok (.iconst 1, 1) := by decide +kernel
theorem dX9_init_181 : decode cX9_init 181 = .ok (.iadd, 1) := by decide +kernel
theorem dX9_init_182 : decode cX9_init 182 = .ok (.iconst 3, 1) := by decide +kernel
theorem dX9_init_183 : decode cX9_init 183 = .ok (.iastore, 1) := by decide +kernel
theorem dX9_init_184 : decode cX9_init 184 = .ok (.iinc 1 1, 3) := by decide +kernel
theorem dX9_init_187 : decode cX9_init 187 = .ok (.goto (-38), 3) := by decide +kernel
theorem dX9_init_190 : decode cX9_init 190 = .ok (.iconst 0, 1) := by decide +kernel
theorem dX9_init_191 : decode cX9_init 191 = .ok (.istore_n 1, 1) := by decide +kernel
theorem dX9_init_192 : decode cX9_init 192 = .ok (.iload_n 1, 1) := by decide +kernel
theorem dX9_init_193 : decode cX9_init 193 = .ok (.bipush 6, 2) := by decide +kernel
theorem dX9_init_195 : decode cX9_init 195 = .ok (.if_icmp .ge 19, 3) := by decide +kernel
theorem dX9_init_198 : decode cX9_init 198 = .ok (.aload_n 0, 1) := by decide +kernel
theorem dX9_init_199 : decode cX9_init 199 = .ok (.getfield 7, 3) := by decide +kernel
theorem dX9_init_202 : decode cX9_init 202 = .ok (.bipush 41, 2) := by decide +kernel
theorem dX9_init_204 : decode cX9_init 204 = .ok (.iload_n 1, 1) := by decide +kernel
theorem dX9_init_205 : decode cX9_init 205 = .ok (.iadd, 1) := by decide +kernel
theorem dX9_init_206 : decode cX9_init 206 = .ok (.iload_n 1, 1) := by decide +kernel
theorem dX9_init_207 : decode cX9_init 207 = .ok (.iastore, 1) := by decide +kernel
theorem dX9_init_208 : decode cX9_init 208 = .ok (.iinc 1 1, 3) := by decide +kernel
theorem dX9_init_211 : decode cX9_init 211 = .ok (.goto (-19), 3) := by decide +kernel
theorem dX9_init_214 : decode cX9_init 214 = .ok (.return_, 1) := by decide +kernel
theorem dX9_in_0 : decode cX9_in 0 = .ok (.iload_n 0, 1) := by decide +kernel
theorem dX9_in_1 : decode cX9_in 1 = .ok (.iload_n 1, 1) := by decide +kernel
theorem dX9_in_2 : decode cX9_in 2 = .ok (.if_icmp .lt 12, 3) := by decide +kernel
theorem dX9_in_5 : decode cX9_in 5 = .ok (.iload_n 0, 1) := by decide +kernel
theorem dX9_in_6 : decode cX9_in 6 = .ok (.iload_n 2, 1) := by decide +kernel
theorem dX9_in_7 : decode cX9_in 7 = .ok (.if_icmp .gt 7, 3) := by decide +kernel
theorem dX9_in_10 : decode cX9_in 10 = .ok (.iconst 1, 1) := by decide +kernel
theorem dX9_in_11 : decode cX9_in 11 = .ok (.goto 4, 3) := by decide +kernel
theorem dX9_in_14 : decode cX9_in 14 = .ok (.iconst 0, 1) := by decide +kernel
theorem dX9_in_15 : decode cX9_in 15 = .ok (.ireturn, 1) := by decide +kernel
theorem dX9_errs_0 : decode cX9_errs 0 = .ok (.aload_n 0, 1) := by decide +kernel
theorem dX9_errs_1 : decode cX9_errs 1 = .ok (.getfield 22, 3) := by decide +kernel
theorem dX9_errs_4 : decode cX9_errs 4 = .ok (.ldc 52, 2) := by decide +kernel
theorem dX9_errs_6 : decode cX9_errs 6 = .ok (.iload_n 1, 1) := by decide +kernel
theorem dX9_errs_7 : decode cX9_errs 7 = .ok (.isub, 1) := by decide +kernel
theorem dX9_errs_8 : decode cX9_errs 8 = .ok (.dup2, 1) := by decide +kernel
theorem dX9_errs_9 : decode cX9_errs 9 = .ok (.iaload, 1) := by decide +kernel
theorem dX9_errs_10 : decode cX9_errs 10 = .ok (.iconst 1, 1) := by decide +kernel
theorem dX9_errs_11 : decode cX9_errs 11 = .ok (.iadd, 1) := by decide +kernel
theorem dX9_errs_12 : decode cX9_errs 12 = .ok (.iastore, 1) := by decide +kernel
theorem dX9_errs_13 : decode cX9_errs 13 = .ok (.iload_n 1, 1) := by decide +kernel
theorem dX9_errs_14 : decode cX9_errs 14 = .ok (.ireturn, 1) := by decide +kernel
theorem dX9_held_0 : decode cX9_held 0 = .ok (.iload_n 0, 1) := by decide +kernel
theorem dX9_held_1 : decode cX9_held 1 = .ok (.iload_n 1, 1) := by decide +kernel
theorem dX9_held_2 : decode cX9_held 2 = .ok (.if_icmp .ge 7, 3) := by decide +kernel
theorem dX9_held_5 : decode cX9_held 5 = .ok (.iload_n 1, 1) := by decide +kernel
theorem dX9_held_6 : decode cX9_held 6 = .ok (.goto 13, 3) := by decide +kernel
theorem dX9_held_9 : decode cX9_held 9 = .ok (.iload_n 0, 1) := by decide +kernel
theorem dX9_held_10 : decode cX9_held 10 = .ok (.iload_n 2, 1) := by decide +kernel
theorem dX9_held_11 : decode cX9_held 11 = .ok (.if_icmp .le 7, 3) := by decide +kernel
theorem dX9_held_14 : decode cX9_held 14 = .ok (.iload_n 2, 1) := by decide +kernel
theorem dX9_held_15 : decode cX9_held 15 = .ok (.goto 4, 3) := by decide +kernel
theorem dX9_held_18 : decode cX9_held 18 = .ok (.iload_n 0, 1) := by decide +kernel
theorem dX9_held_19 : decode cX9_held 19 = .ok (.ireturn, 1) := by decide +kernel
theorem dX9_moveAll_0 : decode cX9_moveAll 0 = .ok (.iconst 0, 1) := by decide +kernel
theorem dX9_moveAll_1 : decode cX9_moveAll 1 = .ok (.istore_n 3, 1) := by decide +kernel
theorem dX9_moveAll_2 : decode cX9_moveAll 2 = .ok (.iload_n 3, 1) := by decide +kernel
theorem dX9_moveAll_3 : decode cX9_moveAll 3 = .ok (.sipush 257, 3) := by decide +kernel
theorem dX9_moveAll_6 : decode cX9_moveAll 6 = .ok (.if_icmp .ge 15, 3) := by decide +kernel
theorem dX9_moveAll_9 : decode cX9_moveAll 9 = .ok (.aload_n 2, 1) := by decide +kernel
theorem dX9_moveAll_10 : decode cX9_moveAll 10 = .ok (.iload_n 3, 1) := by decide +kernel
theorem dX9_moveAll_11 : decode cX9_moveAll 11 = .ok (.aload_n 1, 1) := by decide +kernel
theorem dX9_moveAll_12 : decode cX9_moveAll 12 = .ok (.iload_n 3, 1) := by decide +kernel
theorem dX9_moveAll_13 : decode cX9_moveAll 13 = .ok (.iaload, 1) := by decide +kernel
theorem dX9_moveAll_14 : decode cX9_moveAll 14 = .ok (.iastore, 1) := by decide +kernel
theorem dX9_moveAll_15 : decode cX9_moveAll 15 = .ok (.iinc 3 1, 3) := by decide +kernel
theorem dX9_moveAll_18 : decode cX9_moveAll 18 = .ok (.goto (-16), 3) := by decide +kernel
theorem dX9_moveAll_21 : decode cX9_moveAll 21 = .ok (.return_, 1) := by decide +kernel
theorem dX9_its_0 : decode cX9_its 0 = .ok (.aload_n 0, 1) := by decide +kernel
theorem dX9_its_1 : decode cX9_its 1 = .ok (.getfield 7, 3) := by decide +kernel
theorem dX9_its_4 : decode cX9_its 4 = .ok (.bipush 47, 2) := by decide +kernel
theorem dX9_its_6 : decode cX9_its 6 = .ok (.iconst 5, 1) := by decide +kernel
theorem dX9_its_7 : decode cX9_its 7 = .ok (.iload_n 1, 1) := by decide +kernel
theorem dX9_its_8 : decode cX9_its 8 = .ok (.imul, 1) := by decide +kernel
theorem dX9_its_9 : decode cX9_its 9 = .ok (.iadd, 1) := by decide +kernel
theorem dX9_its_10 : decode cX9_its 10 = .ok (.iload_n 2, 1) := by decide +kernel
theorem dX9_its_11 : decode cX9_its 11 = .ok (.iadd, 1) := by decide +kernel
theorem dX9_its_12 : decode cX9_its 12 = .ok (.iaload, 1) := by decide +kernel
theorem dX9_its_13 : decode cX9_its 13 = .ok (.ireturn, 1) := by decide +kernel
theorem dX9_puts_0 : decode cX9_puts 0 = .ok (.aload_n 0, 1) := by decide +kernel
theorem dX9_puts_1 : decode cX9_puts 1 = .ok (.getfield 7, 3) := by decide +kernel
theorem dX9_puts_4 : decode cX9_puts 4 = .ok (.bipush 47, 2) := by decide +kernel
theorem dX9_puts_6 : decode cX9_puts 6 = .ok (.iconst 5, 1) := by decide +kernel
theorem dX9_puts_7 : decode cX9_puts 7 = .ok (.iload_n 1, 1) := by decide +kernel
theorem dX9_puts_8 : decode cX9_puts 8 = .ok (.imul, 1) := by decide +kernel
theorem dX9_puts_9 : decode cX9_puts 9 = .ok (.iadd, 1) := by decide +kernel
theorem dX9_puts_10 : decode cX9_puts 10 = .ok (.iload_n 2, 1) := by decide +kernel
theorem dX9_puts_11 : decode cX9_puts 11 = .ok (.iadd, 1) := by decide +kernel
theorem dX9_puts_12 : decode cX9_puts 12 = .ok (.iload_n 3, 1) := by decide +kernel
theorem dX9_puts_13 : decode cX9_puts 13 = .ok (.iastore, 1) := by decide +kernel
theorem dX9_puts_14 : decode cX9_puts 14 = .ok (.return_, 1) := by decide +kernel
theorem dX9_isDiner_0 : decode cX9_isDiner 0 = .ok (.iload_n 1, 1) := by decide +kernel
theorem dX9_isDiner_1 : decode cX9_isDiner 1 = .ok (.iconst 0, 1) := by decide +kernel
theorem dX9_isDiner_2 : decode cX9_isDiner 2 = .ok (.aload_n 0, 1) := by decide +kernel
theorem dX9_isDiner_3 : decode cX9_isDiner 3 = .ok (.getfield 7, 3) := by decide +kernel
theorem dX9_isDiner_6 : decode cX9_isDiner 6 = .ok (.iconst 2, 1) := by decide +kernel
theorem dX9_isDiner_7 : decode cX9_isDiner 7 = .ok (.iaload, 1) := by decide +kernel
theorem dX9_isDiner_8 : decode cX9_isDiner 8 = .ok (.iconst 1, 1) := by decide +kernel
theorem dX9_isDiner_9 : decode cX9_isDiner 9 = .ok (.isub, 1) := by decide +kernel
theorem dX9_isDiner_10 : decode cX9_isDiner 10 = .ok (.invokestatic 53, 3) := by decide +kernel
theorem dX9_isDiner_13 : decode cX9_isDiner 13 = .ok (.ireturn, 1) := by decide +kernel
theorem dX9_isCourse_0 : decode cX9_isCourse 0 = .ok (.iload_n 0, 1) := by decide +kernel
theorem dX9_isCourse_1 : decode cX9_isCourse 1 = .ok (.iconst 0, 1) := by decide +kernel
theorem dX9_isCourse_2 : decode cX9_isCourse 2 = .ok (.iconst 5, 1) := by decide +kernel
theorem dX9_isCourse_3 : decode cX9_isCourse 3 = .ok (.invokestatic 53, 3) := by decide +kernel
theorem dX9_isCourse_6 : decode cX9_isCourse 6 = .ok (.ireturn, 1) := by decide +kernel
theorem dX9_isDish_0 : decode cX9_isDish 0 = .ok (.iload_n 0, 1) := by decide +kernel
theorem dX9_isDish_1 : decode cX9_isDish 1 = .ok (.iconst 0, 1) := by decide +kernel
theorem dX9_isDish_2 : decode cX9_isDish 2 = .ok (.bipush 15, 2) := by decide +kernel
theorem dX9_isDish_4 : decode cX9_isDish 4 = .ok (.invokestatic 53, 3) := by decide +kernel
theorem dX9_isDish_7 : decode cX9_isDish 7 = .ok (.ireturn, 1) := by decide +kernel
theorem dX9_becomes_0 : decode cX9_becomes 0 = .ok (.aload_n 0, 1) := by decide +kernel
theorem dX9_becomes_1 : decode cX9_becomes 1 = .ok (.getfield 7, 3) := by decide +kernel
theorem dX9_becomes_4 : decode cX9_becomes 4 = .ok (.iload_n 1, 1) := by decide +kernel
theorem dX9_becomes_5 : decode cX9_becomes 5 = .ok (.iaload, 1) := by decide +kernel
theorem dX9_becomes_6 : decode cX9_becomes 6 = .ok (.istore_n 3, 1) := by decide +kernel
theorem dX9_becomes_7 : decode cX9_becomes 7 = .ok (.aload_n 0, 1) := by decide +kernel
theorem dX9_becomes_8 : decode cX9_becomes 8 = .ok (.getfield 7, 3) := by decide +kernel
theorem dX9_becomes_11 : decode cX9_becomes 11 = .ok (.iload_n 1, 1) := by decide +kernel
theorem dX9_becomes_12 : decode cX9_becomes 12 = .ok (.iload_n 2, 1) := by decide +kernel
theorem dX9_becomes_13 : decode cX9_becomes 13 = .ok (.iastore, 1) := by decide +kernel
theorem dX9_becomes_14 : decode cX9_becomes 14 = .ok (.iload_n 3, 1) := by decide +kernel
theorem dX9_becomes_15 : decode cX9_becomes 15 = .ok (.ireturn, 1) := by decide +kernel
theorem dX9_dish_0 : decode cX9_dish 0 = .ok (.iload_n 1, 1) := by decide +kernel
theorem dX9_dish_1 : decode cX9_dish 1 = .ok (.invokestatic 57, 3) := by decide +kernel
theorem dX9_dish_4 : decode cX9_dish 4 = .ok (.ifCond .eq 38, 3) := by decide +kernel
theorem dX9_dish_7 : decode cX9_dish 7 = .ok (.iload_n 2, 1) := by decide +kernel
theorem dX9_dish_8 : decode cX9_dish 8 = .ok (.iconst 0, 1) := by decide +kernel
theorem dX9_dish_9 : decode cX9_dish 9 = .ok (.iconst 1, 1) := by decide +kernel
theorem dX9_dish_10 : decode cX9_dish 10 = .ok (.invokestatic 53, 3) := by decide +kernel
theorem dX9_dish_13 : decode cX9_dish 13 = .ok (.ifCond .eq 29, 3) := by decide +kernel
theorem dX9_dish_16 : decode cX9_dish 16 = .ok (.iload_n 3, 1) := by decide +kernel
theorem dX9_dish_17 : decode cX9_dish 17 = .ok (.iconst 0, 1) := by decide +kernel
theorem dX9_dish_18 : decode cX9_dish 18 = .ok (.bipush 9, 2) := by decide +kernel
theorem dX9_dish_20 : decode cX9_dish 20 = .ok (.invokestatic 53, 3) := by decide +kernel
theorem dX9_dish_23 : decode cX9_dish 23 = .ok (.ifCond .eq 19, 3) := by decide +kernel
theorem dX9_dish_26 : decode cX9_dish 26 = .ok (.aload_n 0, 1) := by decide +kernel
theorem dX9_dish_27 : decode cX9_dish 27 = .ok (.bipush 9, 2) := by decide +kernel
theorem dX9_dish_29 : decode cX9_dish 29 = .ok (.iconst 2, 1) := by decide +kernel
theorem dX9_dish_30 : decode cX9_dish 30 = .ok (.iload_n 1, 1) := by decide +kernel
theorem dX9_dish_31 : decode cX9_dish 31 = .ok (.imul, 1) := by decide +kernel
theorem dX9_dish_32 : decode cX9_dish 32 = .ok (.iadd, 1) := by decide +kernel
theorem dX9_dish_33 : decode cX9_dish 33 = .ok (.iload_n 2, 1) := by decide +kernel
theorem dX9_dish_34 : decode cX9_dish 34 = .ok (.iadd, 1) := by decide +kernel
theorem dX9_dish_35 : decode cX9_dish 35 = .ok (.iload_n 3, 1) := by decide +kernel
theorem dX9_dish_36 : decode cX9_dish 36 = .ok (.invokevirtual 61, 3) := by decide +kernel
theorem dX9_dish_39 : decode cX9_dish 39 = .ok (.goto 9, 3) := by decide +kernel
theorem dX9_dish_42 : decode cX9_dish 42 = .ok (.aload_n 0, 1) := by decide +kernel
theorem dX9_dish_43 : decode cX9_dish 43 = .ok (.ldc 65, 2) := by decide +kernel
theorem dX9_dish_45 : decode cX9_dish 45 = .ok (.invokevirtual 66, 3) := by decide +kernel
theorem dX9_dish_48 : decode cX9_dish 48 = .ok (.ireturn, 1) := by decide +kernel
theorem dX9_coursesOf_0 : decode cX9_coursesOf 0 = .ok (.iconst 0, 1) := by decide +kernel
theorem dX9_coursesOf_1 : decode cX9_coursesOf 1 = .ok (.istore_n 2, 1) := by decide +kernel
theorem dX9_coursesOf_2 : decode cX9_coursesOf 2 = .ok (.iconst 0, 1) := by decide +kernel
theorem dX9_coursesOf_3 : decode cX9_coursesOf 3 = .ok (.istore_n 3, 1) := by decide +kernel
theorem dX9_coursesOf_4 : decode cX9_coursesOf 4 = .ok (.iload_n 3, 1) := by decide +kernel
theorem dX9_coursesOf_5 : decode cX9_coursesOf 5 = .ok (.bipush 6, 2) := by decide +kernel
theorem dX9_coursesOf_7 : decode cX9_coursesOf 7 = .ok (.if_icmp .ge 32, 3) := by decide +kernel
theorem dX9_coursesOf_10 : decode cX9_coursesOf 10 = .ok (.iload_n 2, 1) := by decide +kernel
theorem dX9_coursesOf_11 : decode cX9_coursesOf 11 = .ok (.aload_n 0, 1) := by decide +kernel
theorem dX9_coursesOf_12 : decode cX9_coursesOf 12 = .ok (.getfield 7, 3) := by decide +kernel
theorem dX9_coursesOf_15 : decode cX9_coursesOf 15 = .ok (.bipush 41, 2) := by decide +kernel
theorem dX9_coursesOf_17 : decode cX9_coursesOf 17 = .ok (.iload_n 3, 1) := by decide +kernel
theorem dX9_coursesOf_18 : decode cX9_coursesOf 18 = .ok (.iadd, 1) := by decide +kernel
theorem dX9_coursesOf_19 : decode cX9_coursesOf 19 = .ok (.iaload, 1) := by decide +kernel
theorem dX9_coursesOf_20 : decode cX9_coursesOf 20 = .ok (.iload_n 1, 1) := by decide +kernel
theorem dX9_coursesOf_21 : decode cX9_coursesOf 21 = .ok (.if_icmp .ne 9, 3) := by decide +kernel
theorem dX9_coursesOf_24 : decode cX9_coursesOf 24 = .ok (.iconst 1, 1) := by decide +kernel
theorem dX9_coursesOf_25 : decode cX9_coursesOf 25 = .ok (.iload_n 3, 1) := by decide +kernel
theorem dX9_coursesOf_26 : decode cX9_coursesOf 26 = .ok (.ishl, 1) := by decide +kernel
theorem dX9_coursesOf_27 : decode cX9_coursesOf 27 = .ok (.goto 4, 3) := by decide +kernel
theorem dX9_coursesOf_30 : decode cX9_coursesOf 30 = .ok (.iconst 0, 1) := by decide +kernel
theorem dX9_coursesOf_31 : decode cX9_coursesOf 31 = .ok (.ior, 1) := by decide +kernel
theorem dX9_coursesOf_32 : decode cX9_coursesOf 32 = .ok (.istore_n 2, 1) := by decide +kernel
theorem dX9_coursesOf_33 : decode cX9_coursesOf 33 = .ok (.iinc 3 1, 3) := by decide +kernel
theorem dX9_coursesOf_36 : decode cX9_coursesOf 36 = .ok (.goto (-32), 3) := by decide +kernel
theorem dX9_coursesOf_39 : decode cX9_coursesOf 39 = .ok (.iload_n 2, 1) := by decide +kernel
theorem dX9_coursesOf_40 : decode cX9_coursesOf 40 = .ok (.ireturn, 1) := by decide +kernel
theorem dX9_ofDish_0 : decode cX9_ofDish 0 = .ok (.iload_n 1, 1) := by decide +kernel
theorem dX9_ofDish_1 : decode cX9_ofDish 1 = .ok (.invokestatic 57, 3) := by decide +kernel
theorem dX9_ofDish_4 : decode cX9_ofDish 4 = .ok (.ifCond .eq 12, 3) := by decide +kernel
theorem dX9_ofDish_7 : decode cX9_ofDish 7 = .ok (.iload_n 2, 1) := by decide +kernel
theorem dX9_ofDish_8 : decode cX9_ofDish 8 = .ok (.iconst 0, 1) := by decide +kernel
theorem dX9_ofDish_9 : decode cX9_ofDish 9 = .ok (.iconst 2, 1) := by decide +kernel
theorem dX9_ofDish_10 : decode cX9_ofDish 10 = .ok (.invokestatic 53, 3) := by decide +kernel
theorem dX9_ofDish_13 : decode cX9_ofDish 13 = .ok (.ifCond .ne 10, 3) := by decide +kernel
theorem dX9_ofDish_16 : decode cX9_ofDish 16 = .ok (.aload_n 0, 1) := by decide +kernel
theorem dX9_ofDish_17 : decode cX9_ofDish 17 = .ok (.ldc 65, 2) := by decide +kernel
theorem dX9_ofDish_19 : decode cX9_ofDish 19 = .ok (.invokevirtual 66, 3) := by decide +kernel
theorem dX9_ofDish_22 : decode cX9_ofDish 22 = .ok (.ireturn, 1) := by decide +kernel
theorem dX9_ofDish_23 : decode cX9_ofDish 23 = .ok (.iload_n 2, 1) := by decide +kernel
theorem dX9_ofDish_24 : decode cX9_ofDish 24 = .ok (.iconst 2, 1) := by decide +kernel
theorem dX9_ofDish_25 : decode cX9_ofDish 25 = .ok (.if_icmp .ge 19, 3) := by decide +kernel
theorem dX9_ofDish_28 : decode cX9_ofDish 28 = .ok (.aload_n 0, 1) := by decide +kernel
theorem dX9_ofDish_29 : decode cX9_ofDish 29 = .ok (.getfield 7, 3) := by decide +kernel
theorem dX9_ofDish_32 : decode cX9_ofDish 32 = .ok (.bipush 9, 2) := by decide +kernel
theorem dX9_ofDish_34 : decode cX9_ofDish 34 = .ok (.iconst 2, 1) := by decide +kernel
theorem dX9_ofDish_35 : decode cX9_ofDish 35 = .ok (.iload_n 1, 1) := by decide +kernel
theorem dX9_ofDish_36 : decode cX9_ofDish 36 = .ok (.imul, 1) := by decide +kernel
theorem dX9_ofDish_37 : decode cX9_ofDish 37 = .ok (.iadd, 1) := by decide +kernel
theorem dX9_ofDish_38 : decode cX9_ofDish 38 = .ok (.iload_n 2, 1) := by decide +kernel
theorem dX9_ofDish_39 : decode cX9_ofDish 39 = .ok (.iadd, 1) := by decide +kernel
theorem dX9_ofDish_40 : decode cX9_ofDish 40 = .ok (.iaload, 1) := by decide +kernel
theorem dX9_ofDish_41 : decode cX9_ofDish 41 = .ok (.goto 8, 3) := by decide +kernel
theorem dX9_ofDish_44 : decode cX9_ofDish 44 = .ok (.aload_n 0, 1) := by decide +kernel
theorem dX9_ofDish_45 : decode cX9_ofDish 45 = .ok (.iload_n 1, 1) := by decide +kernel
theorem dX9_ofDish_46 : decode cX9_ofDish 46 = .ok (.invokevirtual 70, 3) := by decide +kernel
theorem dX9_ofDish_49 : decode cX9_ofDish 49 = .ok (.ireturn, 1) := by decide +kernel
theorem dX9_menu_0 : decode cX9_menu 0 = .ok (.iload_n 1, 1) := by decide +kernel
theorem dX9_menu_1 : decode cX9_menu 1 = .ok (.invokestatic 73, 3) := by decide +kernel
theorem dX9_menu_4 : decode cX9_menu 4 = .ok (.ifCond .eq 15, 3) := by decide +kernel
theorem dX9_menu_7 : decode cX9_menu 7 = .ok (.iload_n 2, 1) := by decide +kernel
theorem dX9_menu_8 : decode cX9_menu 8 = .ok (.iconst (-1), 1) := by decide +kernel
theorem dX9_menu_9 : decode cX9_menu 9 = .ok (.if_icmp .eq 17, 3) := by decide +kernel
theorem dX9_menu_12 : decode cX9_menu 12 = .ok (.iload_n 2, 1) := by decide +kernel
theorem dX9_menu_13 : decode cX9_menu 13 = .ok (.invokestatic 57, 3) := by decide +kernel
theorem dX9_menu_16 : decode cX9_menu 16 = .ok (.ifCond .ne 10, 3) := by decide +kernel
theorem dX9_menu_19 : decode cX9_menu 19 = .ok (.aload_n 0, 1) := by decide +kernel
theorem dX9_menu_20 : decode cX9_menu 20 = .ok (.ldc 65, 2) := by decide +kernel
theorem dX9_menu_22 : decode cX9_menu 22 = .ok (.invokevirtual 66, 3) := by decide +kernel
theorem dX9_menu_25 : decode cX9_menu 25 = .ok (.ireturn, 1) := by decide +kernel
theorem dX9_menu_26 : decode cX9_menu 26 = .ok (.aload_n 0, 1) := by decide +kernel
theorem dX9_menu_27 : decode cX9_menu 27 = .ok (.bipush 41, 2) := by decide +kernel
theorem dX9_menu_29 : decode cX9_menu 29 = .ok (.iload_n 1, 1) := by decide +kernel
theorem dX9_menu_30 : decode cX9_menu 30 = .ok (.iadd, 1) := by decide +kernel
theorem dX9_menu_31 : decode cX9_menu 31 = .ok (.iload_n 2, 1) := by decide +kernel
theorem dX9_menu_32 : decode cX9_menu 32 = .ok (.ifCond .ge 15, 3) := by decide +kernel
theorem dX9_menu_35 : decode cX9_menu 35 = .ok (.aload_n 0, 1) := by decide +kernel
theorem dX9_menu_36 : decode cX9_menu 36 = .ok (.getfield 7, 3) := by decide +kernel
theorem dX9_menu_39 : decode cX9_menu 39 = .ok (.bipush 41, 2) := by decide +kernel
theorem dX9_menu_41 : decode cX9_menu 41 = .ok (.iload_n 1, 1) := by decide +kernel
theorem dX9_menu_42 : decode cX9_menu 42 = .ok (.iadd, 1) := by decide +kernel
theorem dX9_menu_43 : decode cX9_menu 43 = .ok (.iaload, 1) := by decide +kernel
theorem dX9_menu_44 : decode cX9_menu 44 = .ok (.goto 4, 3) := by decide +kernel
theorem dX9_menu_47 : decode cX9_menu 47 = .ok (.iload_n 2, 1) := by decide +kernel
theorem dX9_menu_48 : decode cX9_menu 48 = .ok (.invokevirtual 61, 3) := by decide +kernel
theorem dX9_menu_51 : decode cX9_menu 51 = .ok (.ireturn, 1) := by decide +kernel
theorem dX9_house_0 : decode cX9_house 0 = .ok (.iload_n 1, 1) := by decide +kernel
theorem dX9_house_1 : decode cX9_house 1 = .ok (.ifCond .ne 13, 3) := by decide +kernel
theorem dX9_house_4 : decode cX9_house 4 = .ok (.iload_n 2, 1) := by decide +kernel
theorem dX9_house_5 : decode cX9_house 5 = .ok (.iconst 0, 1) := by decide +kernel
theorem dX9_house_6 : decode cX9_house 6 = .ok (.bipush 40, 2) := by decide +kernel
theorem dX9_house_8 : decode cX9_house 8 = .ok (.invokestatic 53, 3) := by decide +kernel
theorem dX9_house_11 : decode cX9_house 11 = .ok (.goto 23, 3) := by decide +kernel
theorem dX9_house_14 : decode cX9_house 14 = .ok (.iload_n 1, 1) := by decide +kernel
theorem dX9_house_15 : decode cX9_house 15 = .ok (.iconst 1, 1) := by decide +kernel
theorem dX9_house_16 : decode cX9_house 16 = .ok (.if_icmp .ne 17, 3) := by decide +kernel
theorem dX9_house_19 : decode cX9_house 19 = .ok (.iload_n 2, 1) := by decide +kernel
theorem dX9_house_20 : decode cX9_house 20 = .ok (.iconst 0, 1) := by decide +kernel
theorem dX9_house_21 : decode cX9_house 21 = .ok (.ldc 76, 2) := by decide +kernel
theorem dX9_house_23 : decode cX9_house 23 = .ok (.invokestatic 53, 3) := by decide +kernel
theorem dX9_house_26 : decode cX9_house 26 = .ok (.ifCond .eq 7, 3) := by decide +kernel
theorem dX9_house_29 : decode cX9_house 29 = .ok (.iconst 1, 1) := by decide +kernel
theorem dX9_house_30 : decode cX9_house 30 = .ok (.goto 4, 3) := by decide +kernel
theorem dX9_house_33 : decode cX9_house 33 = .ok (.iconst 0, 1) := by decide +kernel
theorem dX9_house_34 : decode cX9_house 34 = .ok (.istore_n 3, 1) := by decide +kernel
theorem dX9_house_35 : decode cX9_house 35 = .ok (.iload_n 3, 1) := by decide +kernel
theorem dX9_house_36 : decode cX9_house 36 = .ok (.ifCond .eq 14, 3) := by decide +kernel
theorem dX9_house_39 : decode cX9_house 39 = .ok (.aload_n 0, 1) := by decide +kernel
theorem dX9_house_40 : decode cX9_house 40 = .ok (.iconst 3, 1) := by decide +kernel
theorem dX9_house_41 : decode cX9_house 41 = .ok (.iload_n 1, 1) := by decide +kernel
theorem dX9_house_42 : decode cX9_house 42 = .ok (.iadd, 1) := by decide +kernel
theorem dX9_house_43 : decode cX9_house 43 = .ok (.iload_n 2, 1) := by decide +kernel
theorem dX9_house_44 : decode cX9_house 44 = .ok (.invokevirtual 61, 3) := by decide +kernel
theorem dX9_house_47 : decode cX9_house 47 = .ok (.goto 9, 3) := by decide +kernel
theorem dX9_house_50 : decode cX9_house 50 = .ok (.aload_n 0, 1) := by decide +kernel
theorem dX9_house_51 : decode cX9_house 51 = .ok (.ldc 65, 2) := by decide +kernel
theorem dX9_house_53 : decode cX9_house 53 = .ok (.invokevirtual 66, 3) := by decide +kernel
theorem dX9_house_56 : decode cX9_house 56 = .ok (.ireturn, 1) := by decide +kernel
theorem dX9_diner_0 : decode cX9_diner 0 = .ok (.iload_n 1, 1) := by decide +kernel
theorem dX9_diner_1 : decode cX9_diner 1 = .ok (.iconst 0, 1) := by decide +kernel
theorem dX9_diner_2 : decode cX9_diner 2 = .ok (.bipush 69, 2) := by decide +kernel
theorem dX9_diner_4 : decode cX9_diner 4 = .ok (.invokestatic 53, 3) := by decide +kernel
theorem dX9_diner_7 : decode cX9_diner 7 = .ok (.ifCond .eq 13, 3) := by decide +kernel
theorem dX9_diner_10 : decode cX9_diner 10 = .ok (.iload_n 2, 1) := by decide +kernel
theorem dX9_diner_11 : decode cX9_diner 11 = .ok (.iconst 0, 1) := by decide +kernel
theorem dX9_diner_12 : decode cX9_diner 12 = .ok (.bipush 9, 2) := by decide +kernel
theorem dX9_diner_14 : decode cX9_diner 14 = .ok (.invokestatic 53, 3) := by decide +kernel
theorem dX9_diner_17 : decode cX9_diner 17 = .ok (.ifCond .ne 10, 3) := by decide +kernel
theorem dX9_diner_20 : decode cX9_diner 20 = .ok (.aload_n 0, 1) := by decide +kernel
theorem dX9_diner_21 : decode cX9_diner 21 = .ok (.ldc 65, 2) := by decide +kernel
theorem dX9_diner_23 : decode cX9_diner 23 = .ok (.invokevirtual 66, 3) := by decide +kernel
theorem dX9_diner_26 : decode cX9_diner 26 = .ok (.ireturn, 1) := by decide +kernel
theorem dX9_diner_27 : decode cX9_diner 27 = .ok (.aload_n 0, 1) := by decide +kernel
theorem dX9_diner_28 : decode cX9_diner 28 = .ok (.getfield 7, 3) := by decide +kernel
theorem dX9_diner_31 : decode cX9_diner 31 = .ok (.iconst 2, 1) := by decide +kernel
theorem dX9_diner_32 : decode cX9_diner 32 = .ok (.iaload, 1) := by decide +kernel
theorem dX9_diner_33 : decode cX9_diner 33 = .ok (.bipush 8, 2) := by decide +kernel
theorem dX9_diner_35 : decode cX9_diner 35 = .ok (.if_icmp .ne 10, 3) := by decide +kernel
theorem dX9_diner_38 : decode cX9_diner 38 = .ok (.aload_n 0, 1) := by decide +kernel
theorem dX9_diner_39 : decode cX9_diner 39 = .ok (.ldc 77, 2) := by decide +kernel
theorem dX9_diner_41 : decode cX9_diner 41 = .ok (.invokevirtual 66, 3) := by decide +kernel
theorem dX9_diner_44 : decode cX9_diner 44 = .ok (.ireturn, 1) := by decide +kernel
theorem dX9_diner_45 : decode cX9_diner 45 = .ok (.aload_n 0, 1) := by decide +kernel
theorem dX9_diner_46 : decode cX9_diner 46 = .ok (.getfield 7, 3) := by decide +kernel
theorem dX9_diner_49 : decode cX9_diner 49 = .ok (.iconst 2, 1) := by decide +kernel
theorem dX9_diner_50 : decode cX9_diner 50 = .ok (.iaload, 1) := by decide +kernel
theorem dX9_diner_51 : decode cX9_diner 51 = .ok (.istore_n 3, 1) := by decide +kernel
theorem dX9_diner_52 : decode cX9_diner 52 = .ok (.aload_n 0, 1) := by decide +kernel
theorem dX9_diner_53 : decode cX9_diner 53 = .ok (.iload_n 3, 1) := by decide +kernel
theorem dX9_diner_54 : decode cX9_diner 54 = .ok (.iconst 0, 1) := by decide +kernel
theorem dX9_diner_55 : decode cX9_diner 55 = .ok (.iload_n 1, 1) := by decide +kernel
theorem dX9_diner_56 : decode cX9_diner 56 = .ok (.bipush 10, 2) := by decide +kernel
theorem dX9_diner_58 : decode cX9_diner 58 = .ok (.idiv, 1) := by decide +kernel
theorem dX9_diner_59 : decode cX9_diner 59 = .ok (.invokevirtual 78, 3) := by decide +kernel
theorem dX9_diner_62 : decode cX9_diner 62 = .ok (.aload_n 0, 1) := by decide +kernel
theorem dX9_diner_63 : decode cX9_diner 63 = .ok (.iload_n 3, 1) := by decide +kernel
theorem dX9_diner_64 : decode cX9_diner 64 = .ok (.iconst 1, 1) := by decide +kernel
theorem dX9_diner_65 : decode cX9_diner 65 = .ok (.iload_n 1, 1) := by decide +kernel
theorem dX9_diner_66 : decode cX9_diner 66 = .ok (.bipush 10, 2) := by decide +kernel
theorem dX9_diner_68 : decode cX9_diner 68 = .ok (.irem, 1) := by decide +kernel
theorem dX9_diner_69 : decode cX9_diner 69 = .ok (.invokevirtual 78, 3) := by decide +kernel
theorem dX9_diner_72 : decode cX9_diner 72 = .ok (.aload_n 0, 1) := by decide +kernel
theorem dX9_diner_73 : decode cX9_diner 73 = .ok (.iload_n 3, 1) := by decide +kernel
theorem dX9_diner_74 : decode cX9_diner 74 = .ok (.iconst 2, 1) := by decide +kernel
theorem dX9_diner_75 : decode cX9_diner 75 = .ok (.iload_n 2, 1) := by decide +kernel
theorem dX9_diner_76 : decode cX9_diner 76 = .ok (.invokevirtual 78, 3) := by decide +kernel
theorem dX9_diner_79 : decode cX9_diner 79 = .ok (.aload_n 0, 1) := by decide +kernel
theorem dX9_diner_80 : decode cX9_diner 80 = .ok (.iload_n 3, 1) := by decide +kernel
theorem dX9_diner_81 : decode cX9_diner 81 = .ok (.iconst 3, 1) := by decide +kernel
theorem dX9_diner_82 : decode cX9_diner 82 = .ok (.iload_n 3, 1) := by decide +kernel
theorem dX9_diner_83 : decode cX9_diner 83 = .ok (.invokevirtual 78, 3) := by decide +kernel
theorem dX9_diner_86 : decode cX9_diner 86 = .ok (.aload_n 0, 1) := by decide +kernel
theorem dX9_diner_87 : decode cX9_diner 87 = .ok (.iload_n 3, 1) := by decide +kernel
theorem dX9_diner_88 : decode cX9_diner 88 = .ok (.iconst 4, 1) := by decide +kernel
theorem dX9_diner_89 : decode cX9_diner 89 = .ok (.iconst 0, 1) := by decide +kernel
theorem dX9_diner_90 : decode cX9_diner 90 = .ok (.invokevirtual 78, 3) := by decide +kernel
theorem dX9_diner_93 : decode cX9_diner 93 = .ok (.aload_n 0, 1) := by decide +kernel
theorem dX9_diner_94 : decode cX9_diner 94 = .ok (.getfield 7, 3) := by decide +kernel
theorem dX9_diner_97 : decode cX9_diner 97 = .ok (.iconst 2, 1) := by decide +kernel
theorem dX9_diner_98 : decode cX9_diner 98 = .ok (.dup2, 1) := by decide +kernel
theorem dX9_diner_99 : decode cX9_diner 99 = .ok (.iaload, 1) := by decide +kernel
theorem dX9_diner_100 : decode cX9_diner 100 = .ok (.iconst 1, 1) := by decide +kernel
theorem dX9_diner_101 : decode cX9_diner 101 = .ok (.iadd, 1) := by decide +kernel
theorem dX9_diner_102 : decode cX9_diner 102 = .ok (.iastore, 1) := by decide +kernel
theorem dX9_diner_103 : decode cX9_diner 103 = .ok (.iload_n 3, 1) := by decide +kernel
theorem dX9_diner_104 : decode cX9_diner 104 = .ok (.ireturn, 1) := by decide +kernel
theorem dX9_ofDiner_0 : decode cX9_ofDiner 0 = .ok (.aload_n 0, 1) := by decide +kernel
theorem dX9_ofDiner_1 : decode cX9_ofDiner 1 = .ok (.iload_n 1, 1) := by decide +kernel
theorem dX9_ofDiner_2 : decode cX9_ofDiner 2 = .ok (.invokevirtual 82, 3) := by decide +kernel
theorem dX9_ofDiner_5 : decode cX9_ofDiner 5 = .ok (.ifCond .eq 13, 3) := by decide +kernel
theorem dX9_ofDiner_8 : decode cX9_ofDiner 8 = .ok (.iload_n 2, 1) := by decide +kernel
theorem dX9_ofDiner_9 : decode cX9_ofDiner 9 = .ok (.iconst 0, 1) := by decide +kernel
theorem dX9_ofDiner_10 : decode cX9_ofDiner 10 = .ok (.bipush 11, 2) := by decide +kernel
theorem dX9_ofDiner_12 : decode cX9_ofDiner 12 = .ok (.invokestatic 53, 3) := by decide +kernel
theorem dX9_ofDiner_15 : decode cX9_ofDiner 15 = .ok (.ifCond .ne 10, 3) := by decide +kernel
theorem dX9_ofDiner_18 : decode cX9_ofDiner 18 = .ok (.aload_n 0, 1) := by decide +kernel
theorem dX9_ofDiner_19 : decode cX9_ofDiner 19 = .ok (.ldc 65, 2) := by decide +kernel
theorem dX9_ofDiner_21 : decode cX9_ofDiner 21 = .ok (.invokevirtual 66, 3) := by decide +kernel
theorem dX9_ofDiner_24 : decode cX9_ofDiner 24 = .ok (.ireturn, 1) := by decide +kernel
theorem dX9_ofDiner_25 : decode cX9_ofDiner 25 = .ok (.iload_n 2, 1) := by decide +kernel
theorem dX9_ofDiner_26 : decode cX9_ofDiner 26 = .ok (.iconst 5, 1) := by decide +kernel
theorem dX9_ofDiner_27 : decode cX9_ofDiner 27 = .ok (.if_icmp .ge 12, 3) := by decide +kernel
theorem dX9_ofDiner_30 : decode cX9_ofDiner 30 = .ok (.aload_n 0, 1) := by decide +kernel
theorem dX9_ofDiner_31 : decode cX9_ofDiner 31 = .ok (.iload_n 1, 1) := by decide +kernel
theorem dX9_ofDiner_32 : decode cX9_ofDiner 32 = .ok (.iload_n 2, 1) := by decide +kernel
theorem dX9_ofDiner_33 : decode cX9_ofDiner 33 = .ok (.invokevirtual 85, 3) := by decide +kernel
theorem dX9_ofDiner_36 : decode cX9_ofDiner 36 = .ok (.goto 25, 3) := by decide +kernel
theorem dX9_ofDiner_39 : decode cX9_ofDiner 39 = .ok (.iload_n 2, 1) := by decide +kernel
theorem dX9_ofDiner_40 : decode cX9_ofDiner 40 = .ok (.iconst 5, 1) := by decide +kernel
theorem dX9_ofDiner_41 : decode cX9_ofDiner 41 = .ok (.if_icmp .ne 11, 3) := by decide +kernel
theorem dX9_ofDiner_44 : decode cX9_ofDiner 44 = .ok (.aload_n 0, 1) := by decide +kernel
theorem dX9_ofDiner_45 : decode cX9_ofDiner 45 = .ok (.iload_n 1, 1) := by decide +kernel
theorem dX9_ofDiner_46 : decode cX9_ofDiner 46 = .ok (.invokevirtual 88, 3) := by decide +kernel
theorem dX9_ofDiner_49 : decode cX9_ofDiner 49 = .ok (.goto 12, 3) := by decide +kernel
theorem dX9_ofDiner_52 : decode cX9_ofDiner 52 = .ok (.aload_n 0, 1) := by decide +kernel
theorem dX9_ofDiner_53 : decode cX9_ofDiner 53 = .ok (.iload_n 1, 1) := by decide +kernel
theorem dX9_ofDiner_54 : decode cX9_ofDiner 54 = .ok (.iload_n 2, 1) := by decide +kernel
theorem dX9_ofDiner_55 : decode cX9_ofDiner 55 = .ok (.bipush 6, 2) := by decide +kernel
theorem dX9_ofDiner_57 : decode cX9_ofDiner 57 = .ok (.isub, 1) := by decide +kernel
theorem dX9_ofDiner_58 : decode cX9_ofDiner 58 = .ok (.invokevirtual 91, 3) := by decide +kernel
theorem dX9_ofDiner_61 : decode cX9_ofDiner 61 = .ok (.ireturn, 1) := by decide +kernel
theorem dX9_change_0 : decode cX9_change 0 = .ok (.iload_n 2, 1) := by decide +kernel
theorem dX9_change_1 : decode cX9_change 1 = .ok (.ifCond .ne 13, 3) := by decide +kernel
theorem dX9_change_4 : decode cX9_change 4 = .ok (.iload_n 3, 1) := by decide +kernel
theorem dX9_change_5 : decode cX9_change 5 = .ok (.iconst 0, 1) := by decide +kernel
theorem dX9_change_6 : decode cX9_change 6 = .ok (.bipush 9, 2) := by decide +kernel
theorem dX9_change_8 : decode cX9_change 8 = .ok (.invokestatic 53, 3) := by decide +kernel
theorem dX9_change_11 : decode cX9_change 11 = .ok (.goto 38, 3) := by decide +kernel
theorem dX9_change_14 : decode cX9_change 14 = .ok (.iload_n 2, 1) := by decide +kernel
theorem dX9_change_15 : decode cX9_change 15 = .ok (.iconst 1, 1) := by decide +kernel
theorem dX9_change_16 : decode cX9_change 16 = .ok (.if_icmp .ne 13, 3) := by decide +kernel
theorem dX9_change_19 : decode cX9_change 19 = .ok (.iload_n 3, 1) := by decide +kernel
theorem dX9_change_20 : decode cX9_change 20 = .ok (.iconst 0, 1) := by decide +kernel
theorem dX9_change_21 : decode cX9_change 21 = .ok (.bipush 7, 2) := by decide +kernel
theorem dX9_change_23 : decode cX9_change 23 = .ok (.invokestatic 53, 3) := by decide +kernel
theorem dX9_change_26 : decode cX9_change 26 = .ok (.goto 23, 3) := by decide +kernel
theorem dX9_change_29 : decode cX9_change 29 = .ok (.iload_n 2, 1) := by decide +kernel
theorem dX9_change_30 : decode cX9_change 30 = .ok (.iconst 2, 1) := by decide +kernel
theorem dX9_change_31 : decode cX9_change 31 = .ok (.if_icmp .ne 17, 3) := by decide +kernel
theorem dX9_change_34 : decode cX9_change 34 = .ok (.iload_n 3, 1) := by decide +kernel
theorem dX9_change_35 : decode cX9_change 35 = .ok (.iconst 0, 1) := by decide +kernel
theorem dX9_change_36 : decode cX9_change 36 = .ok (.bipush 99, 2) := by decide +kernel
theorem dX9_change_38 : decode cX9_change 38 = .ok (.invokestatic 53, 3) := by decide +kernel
theorem dX9_change_41 : decode cX9_change 41 = .ok (.ifCond .eq 7, 3) := by decide +kernel
theorem dX9_change_44 : decode cX9_change 44 = .ok (.iconst 1, 1) := by decide +kernel
theorem dX9_change_45 : decode cX9_change 45 = .ok (.goto 4, 3) := by decide +kernel
theorem dX9_change_48 : decode cX9_change 48 = .ok (.iconst 0, 1) := by decide +kernel
theorem dX9_change_49 : decode cX9_change 49 = .ok (.istore 4, 2) := by decide +kernel
theorem dX9_change_51 : decode cX9_change 51 = .ok (.aload_n 0, 1) := by decide +kernel
theorem dX9_change_52 : decode cX9_change 52 = .ok (.iload_n 1, 1) := by decide +kernel
theorem dX9_change_53 : decode cX9_change 53 = .ok (.invokevirtual 82, 3) := by decide +kernel
theorem dX9_change_56 : decode cX9_change 56 = .ok (.ifCond .eq 26, 3) := by decide +kernel
theorem dX9_change_59 : decode cX9_change 59 = .ok (.iload 4, 2) := by decide +kernel
theorem dX9_change_61 : decode cX9_change 61 = .ok (.ifCond .eq 21, 3) := by decide +kernel
theorem dX9_change_64 : decode cX9_change 64 = .ok (.aload_n 0, 1) := by decide +kernel
theorem dX9_change_65 : decode cX9_change 65 = .ok (.bipush 47, 2) := by decide +kernel
theorem dX9_change_67 : decode cX9_change 67 = .ok (.iconst 5, 1) := by decide +kernel
theorem dX9_change_68 : decode cX9_change 68 = .ok (.iload_n 1, 1) := by decide +kernel
theorem dX9_change_69 : decode cX9_change 69 = .ok (.imul, 1) := by decide +kernel
theorem dX9_change_70 : decode cX9_change 70 = .ok (.iadd, 1) := by decide +kernel
theorem dX9_change_71 : decode cX9_change 71 = .ok (.iconst 2, 1) := by decide +kernel
theorem dX9_change_72 : decode cX9_change 72 = .ok (.iadd, 1) := by decide +kernel
theorem dX9_change_73 : decode cX9_change 73 = .ok (.iload_n 2, 1) := by decide +kernel
theorem dX9_change_74 : decode cX9_change 74 = .ok (.iadd, 1) := by decide +kernel
theorem dX9_change_75 : decode cX9_change 75 = .ok (.iload_n 3, 1) := by decide +kernel
theorem dX9_change_76 : decode cX9_change 76 = .ok (.invokevirtual 61, 3) := by decide +kernel
theorem dX9_change_79 : decode cX9_change 79 = .ok (.goto 9, 3) := by decide +kernel
theorem dX9_change_82 : decode cX9_change 82 = .ok (.aload_n 0, 1) := by decide +kernel
theorem dX9_change_83 : decode cX9_change 83 = .ok (.ldc 65, 2) := by decide +kernel
theorem dX9_change_85 : decode cX9_change 85 = .ok (.invokevirtual 66, 3) := by decide +kernel
theorem dX9_change_88 : decode cX9_change 88 = .ok (.ireturn, 1) := by decide +kernel
theorem dX9_become_0 : decode cX9_become 0 = .ok (.aload_n 0, 1) := by decide +kernel
theorem dX9_become_1 : decode cX9_become 1 = .ok (.iload_n 1, 1) := by decide +kernel
theorem dX9_become_2 : decode cX9_become 2 = .ok (.invokevirtual 82, 3) := by decide +kernel
theorem dX9_become_5 : decode cX9_become 5 = .ok (.ifCond .eq 13, 3) := by decide +kernel
theorem dX9_become_8 : decode cX9_become 8 = .ok (.iload_n 2, 1) := by decide +kernel
theorem dX9_become_9 : decode cX9_become 9 = .ok (.iconst 0, 1) := by decide +kernel
theorem dX9_become_10 : decode cX9_become 10 = .ok (.bipush 69, 2) := by decide +kernel
theorem dX9_become_12 : decode cX9_become 12 = .ok (.invokestatic 53, 3) := by decide +kernel
theorem dX9_become_15 : decode cX9_become 15 = .ok (.ifCond .ne 10, 3) := by decide +kernel
theorem dX9_become_18 : decode cX9_become 18 = .ok (.aload_n 0, 1) := by decide +kernel
theorem dX9_become_19 : decode cX9_become 19 = .ok (.ldc 65, 2) := by decide +kernel
theorem dX9_become_21 : decode cX9_become 21 = .ok (.invokevirtual 66, 3) := by decide +kernel
theorem dX9_become_24 : decode cX9_become 24 = .ok (.ireturn, 1) := by decide +kernel
theorem dX9_become_25 : decode cX9_become 25 = .ok (.aload_n 0, 1) := by decide +kernel
theorem dX9_become_26 : decode cX9_become 26 = .ok (.iload_n 1, 1) := by decide +kernel
theorem dX9_become_27 : decode cX9_become 27 = .ok (.iconst 1, 1) := by decide +kernel
theorem dX9_become_28 : decode cX9_become 28 = .ok (.iload_n 2, 1) := by decide +kernel
theorem dX9_become_29 : decode cX9_become 29 = .ok (.bipush 10, 2) := by decide +kernel
theorem dX9_become_31 : decode cX9_become 31 = .ok (.irem, 1) := by decide +kernel
theorem dX9_become_32 : decode cX9_become 32 = .ok (.invokevirtual 78, 3) := by decide +kernel
theorem dX9_become_35 : decode cX9_become 35 = .ok (.aload_n 0, 1) := by decide +kernel
theorem dX9_become_36 : decode cX9_become 36 = .ok (.bipush 47, 2) := by decide +kernel
theorem dX9_become_38 : decode cX9_become 38 = .ok (.iconst 5, 1) := by decide +kernel
theorem dX9_become_39 : decode cX9_become 39 = .ok (.iload_n 1, 1) := by decide +kernel
theorem dX9_become_40 : decode cX9_become 40 = .ok (.imul, 1) := by decide +kernel
theorem dX9_become_41 : decode cX9_become 41 = .ok (.iadd, 1) := by decide +kernel
theorem dX9_become_42 : decode cX9_become 42 = .ok (.iload_n 2, 1) := by decide +kernel
theorem dX9_become_43 : decode cX9_become 43 = .ok (.bipush 10, 2) := by decide +kernel
theorem dX9_become_45 : decode cX9_become 45 = .ok (.idiv, 1) := by decide +kernel
theorem dX9_become_46 : decode cX9_become 46 = .ok (.invokevirtual 61, 3) := by decide +kernel
theorem dX9_become_49 : decode cX9_become 49 = .ok (.ireturn, 1) := by decide +kernel
theorem dX9_above_0 : decode cX9_above 0 = .ok (.iload_n 0, 1) := by decide +kernel
theorem dX9_above_1 : decode cX9_above 1 = .ok (.ifCond .ne 7, 3) := by decide +kernel
theorem dX9_above_4 : decode cX9_above 4 = .ok (.iconst (-1), 1) := by decide +kernel
theorem dX9_above_5 : decode cX9_above 5 = .ok (.goto 15, 3) := by decide +kernel
theorem dX9_above_8 : decode cX9_above 8 = .ok (.iload_n 0, 1) := by decide +kernel
theorem dX9_above_9 : decode cX9_above 9 = .ok (.iconst 3, 1) := by decide +kernel
theorem dX9_above_10 : decode cX9_above 10 = .ok (.if_icmp .le 9, 3) := by decide +kernel
theorem dX9_above_13 : decode cX9_above 13 = .ok (.iload_n 0, 1) := by decide +kernel
theorem dX9_above_14 : decode cX9_above 14 = .ok (.iconst 3, 1) := by decide +kernel
theorem dX9_above_15 : decode cX9_above 15 = .ok (.isub, 1) := by decide +kernel
theorem dX9_above_16 : decode cX9_above 16 = .ok (.goto 4, 3) := by decide +kernel
theorem dX9_above_19 : decode cX9_above 19 = .ok (.iconst 0, 1) := by decide +kernel
theorem dX9_above_20 : decode cX9_above 20 = .ok (.ireturn, 1) := by decide +kernel
theorem dX9_as_0 : decode cX9_as 0 = .ok (.aload_n 0, 1) := by decide +kernel
theorem dX9_as_1 : decode cX9_as 1 = .ok (.iload_n 1, 1) := by decide +kernel
theorem dX9_as_2 : decode cX9_as 2 = .ok (.invokevirtual 82, 3) := by decide +kernel
theorem dX9_as_5 : decode cX9_as 5 = .ok (.ifCond .eq 13, 3) := by decide +kernel
theorem dX9_as_8 : decode cX9_as 8 = .ok (.iload_n 2, 1) := by decide +kernel
theorem dX9_as_9 : decode cX9_as 9 = .ok (.iconst 0, 1) := by decide +kernel
theorem dX9_as_10 : decode cX9_as 10 = .ok (.bipush 6, 2) := by decide +kernel
theorem dX9_as_12 : decode cX9_as 12 = .ok (.invokestatic 53, 3) := by decide +kernel
theorem dX9_as_15 : decode cX9_as 15 = .ok (.ifCond .ne 10, 3) := by decide +kernel
theorem dX9_as_18 : decode cX9_as 18 = .ok (.aload_n 0, 1) := by decide +kernel
theorem dX9_as_19 : decode cX9_as 19 = .ok (.ldc 65, 2) := by decide +kernel
theorem dX9_as_21 : decode cX9_as 21 = .ok (.invokevirtual 66, 3) := by decide +kernel
theorem dX9_as_24 : decode cX9_as 24 = .ok (.ireturn, 1) := by decide +kernel
theorem dX9_as_25 : decode cX9_as 25 = .ok (.aload_n 0, 1) := by decide +kernel
theorem dX9_as_26 : decode cX9_as 26 = .ok (.iload_n 1, 1) := by decide +kernel
theorem dX9_as_27 : decode cX9_as 27 = .ok (.iconst 0, 1) := by decide +kernel
theorem dX9_as_28 : decode cX9_as 28 = .ok (.invokevirtual 85, 3) := by decide +kernel
theorem dX9_as_31 : decode cX9_as 31 = .ok (.istore_n 3, 1) := by decide +kernel
theorem dX9_as_32 : decode cX9_as 32 = .ok (.iload_n 3, 1) := by decide +kernel
theorem dX9_as_33 : decode cX9_as 33 = .ok (.ifCond .lt 16, 3) := by decide +kernel
theorem dX9_as_36 : decode cX9_as 36 = .ok (.iload_n 3, 1) := by decide +kernel
theorem dX9_as_37 : decode cX9_as 37 = .ok (.iload_n 2, 1) := by decide +kernel
theorem dX9_as_38 : decode cX9_as 38 = .ok (.if_icmp .eq 11, 3) := by decide +kernel
theorem dX9_as_41 : decode cX9_as 41 = .ok (.iload_n 3, 1) := by decide +kernel
theorem dX9_as_42 : decode cX9_as 42 = .ok (.invokestatic 94, 3) := by decide +kernel
theorem dX9_as_45 : decode cX9_as 45 = .ok (.istore_n 3, 1) := by decide +kernel
theorem dX9_as_46 : decode cX9_as 46 = .ok (.goto (-14), 3) := by decide +kernel
theorem dX9_as_49 : decode cX9_as 49 = .ok (.iload_n 3, 1) := by decide +kernel
theorem dX9_as_50 : decode cX9_as 50 = .ok (.ifCond .ge 12, 3) := by decide +kernel
theorem dX9_as_53 : decode cX9_as 53 = .ok (.aload_n 0, 1) := by decide +kernel
theorem dX9_as_54 : decode cX9_as 54 = .ok (.ldc 97, 2) := by decide +kernel
theorem dX9_as_56 : decode cX9_as 56 = .ok (.invokevirtual 66, 3) := by decide +kernel
theorem dX9_as_59 : decode cX9_as 59 = .ok (.goto 9, 3) := by decide +kernel
theorem dX9_as_62 : decode cX9_as 62 = .ok (.aload_n 0, 1) := by decide +kernel
theorem dX9_as_63 : decode cX9_as 63 = .ok (.iload_n 1, 1) := by decide +kernel
theorem dX9_as_64 : decode cX9_as 64 = .ok (.iconst 1, 1) := by decide +kernel
theorem dX9_as_65 : decode cX9_as 65 = .ok (.invokevirtual 85, 3) := by decide +kernel
theorem dX9_as_68 : decode cX9_as 68 = .ok (.ireturn, 1) := by decide +kernel
theorem dX9_byteAt_0 : decode cX9_byteAt 0 = .ok (.iload_n 1, 1) := by decide +kernel
theorem dX9_byteAt_1 : decode cX9_byteAt 1 = .ok (.aload_n 0, 1) := by decide +kernel
theorem dX9_byteAt_2 : decode cX9_byteAt 2 = .ok (.getfield 98, 3) := by decide +kernel
theorem dX9_byteAt_5 : decode cX9_byteAt 5 = .ok (.if_icmp .ge 24, 3) := by decide +kernel
theorem dX9_byteAt_8 : decode cX9_byteAt 8 = .ok (.aload_n 0, 1) := by decide +kernel
theorem dX9_byteAt_9 : decode cX9_byteAt 9 = .ok (.getfield 7, 3) := by decide +kernel
theorem dX9_byteAt_12 : decode cX9_byteAt 12 = .ok (.sipush 157, 3) := by decide +kernel
theorem dX9_byteAt_15 : decode cX9_byteAt 15 = .ok (.bipush 50, 2) := by decide +kernel
theorem dX9_byteAt_17 : decode cX9_byteAt 17 = .ok (.aload_n 0, 1) := by decide +kernel
theorem dX9_byteAt_18 : decode cX9_byteAt 18 = .ok (.getfield 102, 3) := by decide +kernel
theorem dX9_byteAt_21 : decode cX9_byteAt 21 = .ok (.imul, 1) := by decide +kernel
theorem dX9_byteAt_22 : decode cX9_byteAt 22 = .ok (.iadd, 1) := by decide +kernel
theorem dX9_byteAt_23 : decode cX9_byteAt 23 = .ok (.iload_n 1, 1) := by decide +kernel
theorem dX9_byteAt_24 : decode cX9_byteAt 24 = .ok (.iadd, 1) := by decide +kernel
theorem dX9_byteAt_25 : decode cX9_byteAt 25 = .ok (.iaload, 1) := by decide +kernel
theorem dX9_byteAt_26 : decode cX9_byteAt 26 = .ok (.goto 4, 3) := by decide +kernel
theorem dX9_byteAt_29 : decode cX9_byteAt 29 = .ok (.iconst (-1), 1) := by decide +kernel
theorem dX9_byteAt_30 : decode cX9_byteAt 30 = .ok (.ireturn, 1) := by decide +kernel
theorem dX9_isDigit_0 : decode cX9_isDigit 0 = .ok (.iload_n 0, 1) := by decide +kernel
theorem dX9_isDigit_1 : decode cX9_isDigit 1 = .ok (.bipush 48, 2) := by decide +kernel
theorem dX9_isDigit_3 : decode cX9_isDigit 3 = .ok (.bipush 57, 2) := by decide +kernel
theorem dX9_isDigit_5 : decode cX9_isDigit 5 = .ok (.invokestatic 53, 3) := by decide +kernel
theorem dX9_isDigit_8 : decode cX9_isDigit 8 = .ok (.ireturn, 1) := by decide +kernel
theorem dX9_fails_0 : decode cX9_fails 0 = .ok (.aload_n 0, 1) := by decide +kernel
theorem dX9_fails_1 : decode cX9_fails 1 = .ok (.iconst 0, 1) := by decide +kernel
theorem dX9_fails_2 : decode cX9_fails 2 = .ok (.putfield 105, 3) := by decide +kernel
theorem dX9_fails_5 : decode cX9_fails 5 = .ok (.iconst 0, 1) := by decide +kernel
theorem dX9_fails_6 : decode cX9_fails 6 = .ok (.ireturn, 1) := by decide +kernel
theorem dX9_number_0 : decode cX9_number 0 = .ok (.iconst 0, 1) := by decide +kernel
theorem dX9_number_1 : decode cX9_number 1 = .ok (.istore_n 1, 1) := by decide +kernel
theorem dX9_number_2 : decode cX9_number 2 = .ok (.iconst 0, 1) := by decide +kernel
theorem dX9_number_3 : decode cX9_number 3 = .ok (.istore_n 2, 1) := by decide +kernel
theorem dX9_number_4 : decode cX9_number 4 = .ok (.iload_n 2, 1) := by decide +kernel
theorem dX9_number_5 : decode cX9_number 5 = .ok (.iconst 4, 1) := by decide +kernel
theorem dX9_number_6 : decode cX9_number 6 = .ok (.if_icmp .ge 50, 3) := by decide +kernel
theorem dX9_number_9 : decode cX9_number 9 = .ok (.aload_n 0, 1) := by decide +kernel
theorem dX9_number_10 : decode cX9_number 10 = .ok (.aload_n 0, 1) := by decide +kernel
theorem dX9_number_11 : decode cX9_number 11 = .ok (.getfield 109, 3) := by decide +kernel
theorem dX9_number_14 : decode cX9_number 14 = .ok (.invokevirtual 112, 3) := by decide +kernel
theorem dX9_number_17 : decode cX9_number 17 = .ok (.invokestatic 115, 3) := by decide +kernel
theorem dX9_number_20 : decode cX9_number 20 = .ok (.ifCond .eq 36, 3) := by decide +kernel
theorem dX9_number_23 : decode cX9_number 23 = .ok (.bipush 10, 2) := by decide +kernel
theorem dX9_number_25 : decode cX9_number 25 = .ok (.iload_n 1, 1) := by decide +kernel
theorem dX9_number_26 : decode cX9_number 26 = .ok (.imul, 1) := by decide +kernel
theorem dX9_number_27 : decode cX9_number 27 = .ok (.aload_n 0, 1) := by decide +kernel
theorem dX9_number_28 : decode cX9_number 28 = .ok (.aload_n 0, 1) := by decide +kernel
theorem dX9_number_29 : decode cX9_number 29 = .ok (.getfield 109, 3) := by decide +kernel
theorem dX9_number_32 : decode cX9_number 32 = .ok (.invokevirtual 112, 3) := by decide +kernel
theorem dX9_number_35 : decode cX9_number 35 = .ok (.iadd, 1) := by decide +kernel
theorem dX9_number_36 : decode cX9_number 36 = .ok (.bipush 48, 2) := by decide +kernel
theorem dX9_number_38 : decode cX9_number 38 = .ok (.isub, 1) := by decide +kernel
theorem dX9_number_39 : decode cX9_number 39 = .ok (.istore_n 1, 1) := by decide +kernel
theorem dX9_number_40 : decode cX9_number 40 = .ok (.aload_n 0, 1) := by decide +kernel
theorem dX9_number_41 : decode cX9_number 41 = .ok (.dup, 1) := by decide +kernel
theorem dX9_number_42 : decode cX9_number 42 = .ok (.getfield 109, 3) := by decide +kernel
theorem dX9_number_45 : decode cX9_number 45 = .ok (.iconst 1, 1) := by decide +kernel
theorem dX9_number_46 : decode cX9_number 46 = .ok (.iadd, 1) := by decide +kernel
theorem dX9_number_47 : decode cX9_number 47 = .ok (.putfield 109, 3) := by decide +kernel
theorem dX9_number_50 : decode cX9_number 50 = .ok (.iinc 2 1, 3) := by decide +kernel
theorem dX9_number_53 : decode cX9_number 53 = .ok (.goto (-49), 3) := by decide +kernel
theorem dX9_number_56 : decode cX9_number 56 = .ok (.iload_n 1, 1) := by decide +kernel
theorem dX9_number_57 : decode cX9_number 57 = .ok (.ireturn, 1) := by decide +kernel
theorem dX9_named_0 : decode cX9_named 0 = .ok (.iload_n 1, 1) := by decide +kernel
theorem dX9_named_1 : decode cX9_named 1 = .ok (.aload_n 0, 1) := by decide +kernel
theorem dX9_named_2 : decode cX9_named 2 = .ok (.getfield 102, 3) := by decide +kernel
theorem dX9_named_5 : decode cX9_named 5 = .ok (.ifCond .ne 8, 3) := by decide +kernel
theorem dX9_named_8 : decode cX9_named 8 = .ok (.bipush 108, 2) := by decide +kernel
theorem dX9_named_10 : decode cX9_named 10 = .ok (.goto 5, 3) := by decide +kernel
theorem dX9_named_13 : decode cX9_named 13 = .ok (.bipush 101, 2) := by decide +kernel
theorem dX9_named_15 : decode cX9_named 15 = .ok (.if_icmp .ne 7, 3) := by decide +kernel
theorem dX9_named_18 : decode cX9_named 18 = .ok (.iconst 1, 1) := by decide +kernel
theorem dX9_named_19 : decode cX9_named 19 = .ok (.goto 4, 3) := by decide +kernel
theorem dX9_named_22 : decode cX9_named 22 = .ok (.iconst 0, 1) := by decide +kernel
theorem dX9_named_23 : decode cX9_named 23 = .ok (.istore_n 2, 1) := by decide +kernel
theorem dX9_named_24 : decode cX9_named 24 = .ok (.iload_n 1, 1) := by decide +kernel
theorem dX9_named_25 : decode cX9_named 25 = .ok (.bipush 115, 2) := by decide +kernel
theorem dX9_named_27 : decode cX9_named 27 = .ok (.if_icmp .ne 7, 3) := by decide +kernel
theorem dX9_named_30 : decode cX9_named 30 = .ok (.iconst 1, 1) := by decide +kernel
theorem dX9_named_31 : decode cX9_named 31 = .ok (.goto 4, 3) := by decide +kernel
theorem dX9_named_34 : decode cX9_named 34 = .ok (.iconst 0, 1) := by decide +kernel
theorem dX9_named_35 : decode cX9_named 35 = .ok (.istore_n 3, 1) := by decide +kernel
theorem dX9_named_36 : decode cX9_named 36 = .ok (.iload_n 1, 1) := by decide +kernel
theorem dX9_named_37 : decode cX9_named 37 = .ok (.bipush 103, 2) := by decide +kernel
theorem dX9_named_39 : decode cX9_named 39 = .ok (.if_icmp .ne 7, 3) := by decide +kernel
theorem dX9_named_42 : decode cX9_named 42 = .ok (.iconst 1, 1) := by decide +kernel
theorem dX9_named_43 : decode cX9_named 43 = .ok (.goto 4, 3) := by decide +kernel
theorem dX9_named_46 : decode cX9_named 46 = .ok (.iconst 0, 1) := by decide +kernel
theorem dX9_named_47 : decode cX9_named 47 = .ok (.istore 4, 2) := by decide +kernel
theorem dX9_named_49 : decode cX9_named 49 = .ok (.iload_n 2, 1) := by decide +kernel
theorem dX9_named_50 : decode cX9_named 50 = .ok (.ifCond .ne 17, 3) := by decide +kernel
theorem dX9_named_53 : decode cX9_named 53 = .ok (.iload_n 3, 1) := by decide +kernel
theorem dX9_named_54 : decode cX9_named 54 = .ok (.ifCond .ne 13, 3) := by decide +kernel
theorem dX9_named_57 : decode cX9_named 57 = .ok (.iload 4, 2) := by decide +kernel
theorem dX9_named_59 : decode cX9_named 59 = .ok (.ifCond .ne 8, 3) := by decide +kernel
theorem dX9_named_62 : decode cX9_named 62 = .ok (.aload_n 0, 1) := by decide +kernel
theorem dX9_named_63 : decode cX9_named 63 = .ok (.invokevirtual 118, 3) := by decide +kernel
theorem dX9_named_66 : decode cX9_named 66 = .ok (.ireturn, 1) := by decide +kernel
theorem dX9_named_67 : decode cX9_named 67 = .ok (.aload_n 0, 1) := by decide +kernel
theorem dX9_named_68 : decode cX9_named 68 = .ok (.dup, 1) := by decide +kernel
theorem dX9_named_69 : decode cX9_named 69 = .ok (.getfield 109, 3) := by decide +kernel
theorem dX9_named_72 : decode cX9_named 72 = .ok (.iconst 1, 1) := by decide +kernel
theorem dX9_named_73 : decode cX9_named 73 = .ok (.iadd, 1) := by decide +kernel
theorem dX9_named_74 : decode cX9_named 74 = .ok (.putfield 109, 3) := by decide +kernel
theorem dX9_named_77 : decode cX9_named 77 = .ok (.iload_n 2, 1) := by decide +kernel
theorem dX9_named_78 : decode cX9_named 78 = .ok (.ifCond .eq 10, 3) := by decide +kernel
theorem dX9_named_81 : decode cX9_named 81 = .ok (.aload_n 0, 1) := by decide +kernel
theorem dX9_named_82 : decode cX9_named 82 = .ok (.getfield 122, 3) := by decide +kernel
theorem dX9_named_85 : decode cX9_named 85 = .ok (.goto 18, 3) := by decide +kernel
theorem dX9_named_88 : decode cX9_named 88 = .ok (.iload_n 3, 1) := by decide +kernel
theorem dX9_named_89 : decode cX9_named 89 = .ok (.ifCond .eq 10, 3) := by decide +kernel
theorem dX9_named_92 : decode cX9_named 92 = .ok (.aload_n 0, 1) := by decide +kernel
theorem dX9_named_93 : decode cX9_named 93 = .ok (.getfield 125, 3) := by decide +kernel
theorem dX9_named_96 : decode cX9_named 96 = .ok (.goto 7, 3) := by decide +kernel
theorem dX9_named_99 : decode cX9_named 99 = .ok (.aload_n 0, 1) := by decide +kernel
theorem dX9_named_100 : decode cX9_named 100 = .ok (.getfield 128, 3) := by decide +kernel
theorem dX9_named_103 : decode cX9_named 103 = .ok (.ireturn, 1) := by decide +kernel
theorem dX9_factor_0 : decode cX9_factor 0 = .ok (.aload_n 0, 1) := by decide +kernel
theorem dX9_factor_1 : decode cX9_factor 1 = .ok (.aload_n 0, 1) := by decide +kernel
theorem dX9_factor_2 : decode cX9_factor 2 = .ok (.getfield 109, 3) := by decide +kernel
theorem dX9_factor_5 : decode cX9_factor 5 = .ok (.invokevirtual 112, 3) := by decide +kernel
theorem dX9_factor_8 : decode cX9_factor 8 = .ok (.istore_n 1, 1) := by decide +kernel
theorem dX9_factor_9 : decode cX9_factor 9 = .ok (.iload_n 1, 1) := by decide +kernel
theorem dX9_factor_10 : decode cX9_factor 10 = .ok (.invokestatic 115, 3) := by decide +kernel
theorem dX9_factor_13 : decode cX9_factor 13 = .ok (.ifCond .eq 8, 3) := by decide +kernel
theorem dX9_factor_16 : decode cX9_factor 16 = .ok (.aload_n 0, 1) := by decide +kernel
theorem dX9_factor_17 : decode cX9_factor 17 = .ok (.invokevirtual 131, 3) := by decide +kernel
theorem dX9_factor_20 : decode cX9_factor 20 = .ok (.ireturn, 1) := by decide +kernel
theorem dX9_factor_21 : decode cX9_factor 21 = .ok (.iload_n 1, 1) := by decide +kernel
theorem dX9_factor_22 : decode cX9_factor 22 = .ok (.bipush 33, 2) := by decide +kernel
theorem dX9_factor_24 : decode cX9_factor 24 = .ok (.if_icmp .eq 15, 3) := by decide +kernel
theorem dX9_factor_27 : decode cX9_factor 27 = .ok (.iload_n 1, 1) := by decide +kernel
theorem dX9_factor_28 : decode cX9_factor 28 = .ok (.bipush 40, 2) := by decide +kernel
theorem dX9_factor_30 : decode cX9_factor 30 = .ok (.if_icmp .eq 9, 3) := by decide +kernel
theorem dX9_factor_33 : decode cX9_factor 33 = .ok (.aload_n 0, 1) := by decide +kernel
theorem dX9_factor_34 : decode cX9_factor 34 = .ok (.iload_n 1, 1) := by decide +kernel
theorem dX9_factor_35 : decode cX9_factor 35 = .ok (.invokevirtual 134, 3) := by decide +kernel
theorem dX9_factor_38 : decode cX9_factor 38 = .ok (.ireturn, 1) := by decide +kernel
theorem dX9_factor_39 : decode cX9_factor 39 = .ok (.aload_n 0, 1) := by decide +kernel
theorem dX9_factor_40 : decode cX9_factor 40 = .ok (.getfield 137, 3) := by decide +kernel
theorem dX9_factor_43 : decode cX9_factor 43 = .ok (.iconst 5, 1) := by decide +kernel
theorem dX9_factor_44 : decode cX9_factor 44 = .ok (.if_icmp .ne 8, 3) := by decide +kernel
theorem dX9_factor_47 : decode cX9_factor 47 = .ok (.aload_n 0, 1) := by decide +kernel
theorem dX9_factor_48 : decode cX9_factor 48 = .ok (.invokevirtual 118, 3) := by decide +kernel
theorem dX9_factor_51 : decode cX9_factor 51 = .ok (.ireturn, 1) := by decide +kernel
theorem dX9_factor_52 : decode cX9_factor 52 = .ok (.aload_n 0, 1) := by decide +kernel
theorem dX9_factor_53 : decode cX9_factor 53 = .ok (.dup, 1) := by decide +kernel
theorem dX9_factor_54 : decode cX9_factor 54 = .ok (.getfield 137, 3) := by decide +kernel
theorem dX9_factor_57 : decode cX9_factor 57 = .ok (.iconst 1, 1) := by decide +kernel
theorem dX9_factor_58 : decode cX9_factor 58 = .ok (.iadd, 1) := by decide +kernel
theorem dX9_factor_59 : decode cX9_factor 59 = .ok (.putfield 137, 3) := by decide +kernel
theorem dX9_factor_62 : decode cX9_factor 62 = .ok (.aload_n 0, 1) := by decide +kernel
theorem dX9_factor_63 : decode cX9_factor 63 = .ok (.dup, 1) := by decide +kernel
theorem dX9_factor_64 : decode cX9_factor 64 = .ok (.getfield 109, 3) := by decide +kernel
theorem dX9_factor_67 : decode cX9_factor 67 = .ok (.iconst 1, 1) := by decide +kernel
theorem dX9_factor_68 : decode cX9_factor 68 = .ok (.iadd, 1) := by decide +kernel
theorem dX9_factor_69 : decode cX9_factor 69 = .ok (.putfield 109, 3) := by decide +kernel
theorem dX9_factor_72 : decode cX9_factor 72 = .ok (.iload_n 1, 1) := by decide +kernel
theorem dX9_factor_73 : decode cX9_factor 73 = .ok (.bipush 33, 2) := by decide +kernel
theorem dX9_factor_75 : decode cX9_factor 75 = .ok (.if_icmp .ne 10, 3) := by decide +kernel
theorem dX9_factor_78 : decode cX9_factor 78 = .ok (.aload_n 0, 1) := by decide +kernel
theorem dX9_factor_79 : decode cX9_factor 79 = .ok (.invokevirtual 140, 3) := by decide +kernel
theorem dX9_factor_82 : decode cX9_factor 82 = .ok (.goto 7, 3) := by decide +kernel
theorem dX9_factor_85 : decode cX9_factor 85 = .ok (.aload_n 0, 1) := by decide +kernel
theorem dX9_factor_86 : decode cX9_factor 86 = .ok (.invokevirtual 143, 3) := by decide +kernel
theorem dX9_factor_89 : decode cX9_factor 89 = .ok (.istore_n 2, 1) := by decide +kernel
theorem dX9_factor_90 : decode cX9_factor 90 = .ok (.aload_n 0, 1) := by decide +kernel
theorem dX9_factor_91 : decode cX9_factor 91 = .ok (.dup, 1) := by decide +kernel
theorem dX9_factor_92 : decode cX9_factor 92 = .ok (.getfield 137, 3) := by decide +kernel
theorem dX9_factor_95 : decode cX9_factor 95 = .ok (.iconst 1, 1) := by decide +kernel
theorem dX9_factor_96 : decode cX9_factor 96 = .ok (.isub, 1) := by decide +kernel
theorem dX9_factor_97 : decode cX9_factor 97 = .ok (.putfield 137, 3) := by decide +kernel
theorem dX9_factor_100 : decode cX9_factor 100 = .ok (.iload_n 1, 1) := by decide +kernel
theorem dX9_factor_101 : decode cX9_factor 101 = .ok (.bipush 33, 2) := by decide +kernel
theorem dX9_factor_103 : decode cX9_factor 103 = .ok (.if_icmp .ne 13, 3) := by decide +kernel
theorem dX9_factor_106 : decode cX9_factor 106 = .ok (.iload_n 2, 1) := by decide +kernel
theorem dX9_factor_107 : decode cX9_factor 107 = .ok (.ifCond .ne 7, 3) := by decide +kernel
theorem dX9_factor_110 : decode cX9_factor 110 = .ok (.iconst 1, 1) := by decide +kernel
theorem dX9_factor_111 : decode cX9_factor 111 = .ok (.goto 4, 3) := by decide +kernel
