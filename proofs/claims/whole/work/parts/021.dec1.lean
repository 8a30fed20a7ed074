theorem dX7_fails_28 : decode cX7_fails 28 = .ok (.getfield 23, 3) := by decide +kernel
theorem dX7_fails_31 : decode cX7_fails 31 = .ok (.aload_n 0, 1) := by decide +kernel
theorem dX7_fails_32 : decode cX7_fails 32 = .ok (.getfield 19, 3) := by decide +kernel
theorem dX7_fails_35 : decode cX7_fails 35 = .ok (.invokevirtual 163, 3) := by decide +kernel
theorem dX7_fails_38 : decode cX7_fails 38 = .ok (.iconst 0, 1) := by decide +kernel
theorem dX7_fails_39 : decode cX7_fails 39 = .ok (.istore_n 2, 1) := by decide +kernel
theorem dX7_fails_40 : decode cX7_fails 40 = .ok (.iload_n 2, 1) := by decide +kernel
theorem dX7_fails_41 : decode cX7_fails 41 = .ok (.bipush 20, 2) := by decide +kernel
theorem dX7_fails_43 : decode cX7_fails 43 = .ok (.if_icmp .gt 29, 3) := by decide +kernel
theorem dX7_fails_46 : decode cX7_fails 46 = .ok (.aload_n 0, 1) := by decide +kernel
theorem dX7_fails_47 : decode cX7_fails 47 = .ok (.getfield 23, 3) := by decide +kernel
theorem dX7_fails_50 : decode cX7_fails 50 = .ok (.iload_n 1, 1) := by decide +kernel
theorem dX7_fails_51 : decode cX7_fails 51 = .ok (.invokevirtual 172, 3) := by decide +kernel
theorem dX7_fails_54 : decode cX7_fails 54 = .ok (.ifCond .eq 5, 3) := by decide +kernel
theorem dX7_fails_57 : decode cX7_fails 57 = .ok (.iload_n 2, 1) := by decide +kernel
theorem dX7_fails_58 : decode cX7_fails 58 = .ok (.ireturn, 1) := by decide +kernel
theorem dX7_fails_59 : decode cX7_fails 59 = .ok (.aload_n 0, 1) := by decide +kernel
theorem dX7_fails_60 : decode cX7_fails 60 = .ok (.getfield 23, 3) := by decide +kernel
theorem dX7_fails_63 : decode cX7_fails 63 = .ok (.invokevirtual 126, 3) := by decide +kernel
theorem dX7_fails_66 : decode cX7_fails 66 = .ok (.iinc 2 1, 3) := by decide +kernel
theorem dX7_fails_69 : decode cX7_fails 69 = .ok (.goto (-29), 3) := by decide +kernel
theorem dX7_fails_72 : decode cX7_fails 72 = .ok (.bipush (-9), 2) := by decide +kernel
theorem dX7_fails_74 : decode cX7_fails 74 = .ok (.ireturn, 1) := by decide +kernel
theorem dX7_stuff_0 : decode cX7_stuff 0 = .ok (.aload_n 0, 1) := by decide +kernel
theorem dX7_stuff_1 : decode cX7_stuff 1 = .ok (.getfield 19, 3) := by decide +kernel
theorem dX7_stuff_4 : decode cX7_stuff 4 = .ok (.iload_n 1, 1) := by decide +kernel
theorem dX7_stuff_5 : decode cX7_stuff 5 = .ok (.invokevirtual 107, 3) := by decide +kernel
theorem dX7_stuff_8 : decode cX7_stuff 8 = .ok (.ifCond .ne 5, 3) := by decide +kernel
theorem dX7_stuff_11 : decode cX7_stuff 11 = .ok (.iconst (-1), 1) := by decide +kernel
theorem dX7_stuff_12 : decode cX7_stuff 12 = .ok (.ireturn, 1) := by decide +kernel
theorem dX7_stuff_13 : decode cX7_stuff 13 = .ok (.iload_n 2, 1) := by decide +kernel
theorem dX7_stuff_14 : decode cX7_stuff 14 = .ok (.iconst 1, 1) := by decide +kernel
theorem dX7_stuff_15 : decode cX7_stuff 15 = .ok (.if_icmp .lt 27, 3) := by decide +kernel
theorem dX7_stuff_18 : decode cX7_stuff 18 = .ok (.iload_n 2, 1) := by decide +kernel
theorem dX7_stuff_19 : decode cX7_stuff 19 = .ok (.bipush 12, 2) := by decide +kernel
theorem dX7_stuff_21 : decode cX7_stuff 21 = .ok (.if_icmp .gt 21, 3) := by decide +kernel
theorem dX7_stuff_24 : decode cX7_stuff 24 = .ok (.iload_n 3, 1) := by decide +kernel
theorem dX7_stuff_25 : decode cX7_stuff 25 = .ok (.invokestatic 169, 3) := by decide +kernel
theorem dX7_stuff_28 : decode cX7_stuff 28 = .ok (.ifCond .eq 14, 3) := by decide +kernel
theorem dX7_stuff_31 : decode cX7_stuff 31 = .ok (.iload 4, 2) := by decide +kernel
theorem dX7_stuff_33 : decode cX7_stuff 33 = .ok (.ifCond .lt 9, 3) := by decide +kernel
theorem dX7_stuff_36 : decode cX7_stuff 36 = .ok (.iload 4, 2) := by decide +kernel
theorem dX7_stuff_38 : decode cX7_stuff 38 = .ok (.iconst 1, 1) := by decide +kernel
theorem dX7_stuff_39 : decode cX7_stuff 39 = .ok (.if_icmp .le 6, 3) := by decide +kernel
theorem dX7_stuff_42 : decode cX7_stuff 42 = .ok (.bipush (-2), 2) := by decide +kernel
theorem dX7_stuff_44 : decode cX7_stuff 44 = .ok (.ireturn, 1) := by decide +kernel
theorem dX7_stuff_45 : decode cX7_stuff 45 = .ok (.aload_n 0, 1) := by decide +kernel
theorem dX7_stuff_46 : decode cX7_stuff 46 = .ok (.getfield 19, 3) := by decide +kernel
theorem dX7_stuff_49 : decode cX7_stuff 49 = .ok (.iload_n 1, 1) := by decide +kernel
theorem dX7_stuff_50 : decode cX7_stuff 50 = .ok (.invokevirtual 152, 3) := by decide +kernel
theorem dX7_stuff_53 : decode cX7_stuff 53 = .ok (.ifCond .ne 6, 3) := by decide +kernel
theorem dX7_stuff_56 : decode cX7_stuff 56 = .ok (.bipush (-3), 2) := by decide +kernel
theorem dX7_stuff_58 : decode cX7_stuff 58 = .ok (.ireturn, 1) := by decide +kernel
theorem dX7_stuff_59 : decode cX7_stuff 59 = .ok (.iconst 0, 1) := by decide +kernel
theorem dX7_stuff_60 : decode cX7_stuff 60 = .ok (.istore 5, 2) := by decide +kernel
theorem dX7_stuff_62 : decode cX7_stuff 62 = .ok (.aload_n 0, 1) := by decide +kernel
theorem dX7_stuff_63 : decode cX7_stuff 63 = .ok (.iload_n 1, 1) := by decide +kernel
theorem dX7_stuff_64 : decode cX7_stuff 64 = .ok (.iconst 0, 1) := by decide +kernel
theorem dX7_stuff_65 : decode cX7_stuff 65 = .ok (.iload_n 2, 1) := by decide +kernel
theorem dX7_stuff_66 : decode cX7_stuff 66 = .ok (.iload_n 3, 1) := by decide +kernel
theorem dX7_stuff_67 : decode cX7_stuff 67 = .ok (.invokevirtual 175, 3) := by decide +kernel
theorem dX7_stuff_70 : decode cX7_stuff 70 = .ok (.istore 6, 2) := by decide +kernel
theorem dX7_stuff_72 : decode cX7_stuff 72 = .ok (.iconst 1, 1) := by decide +kernel
theorem dX7_stuff_73 : decode cX7_stuff 73 = .ok (.istore 7, 2) := by decide +kernel
theorem dX7_stuff_75 : decode cX7_stuff 75 = .ok (.iload 7, 2) := by decide +kernel
theorem dX7_stuff_77 : decode cX7_stuff 77 = .ok (.iconst 4, 1) := by decide +kernel
theorem dX7_stuff_78 : decode cX7_stuff 78 = .ok (.if_icmp .ge 35, 3) := by decide +kernel
theorem dX7_stuff_81 : decode cX7_stuff 81 = .ok (.aload_n 0, 1) := by decide +kernel
theorem dX7_stuff_82 : decode cX7_stuff 82 = .ok (.iload_n 1, 1) := by decide +kernel
theorem dX7_stuff_83 : decode cX7_stuff 83 = .ok (.iload 7, 2) := by decide +kernel
theorem dX7_stuff_85 : decode cX7_stuff 85 = .ok (.iload_n 2, 1) := by decide +kernel
theorem dX7_stuff_86 : decode cX7_stuff 86 = .ok (.iload_n 3, 1) := by decide +kernel
theorem dX7_stuff_87 : decode cX7_stuff 87 = .ok (.invokevirtual 175, 3) := by decide +kernel
theorem dX7_stuff_90 : decode cX7_stuff 90 = .ok (.istore 8, 2) := by decide +kernel
theorem dX7_stuff_92 : decode cX7_stuff 92 = .ok (.iload 8, 2) := by decide +kernel
theorem dX7_stuff_94 : decode cX7_stuff 94 = .ok (.iload 6, 2) := by decide +kernel
theorem dX7_stuff_96 : decode cX7_stuff 96 = .ok (.if_icmp .ge 11, 3) := by decide +kernel
theorem dX7_stuff_99 : decode cX7_stuff 99 = .ok (.iload 7, 2) := by decide +kernel
theorem dX7_stuff_101 : decode cX7_stuff 101 = .ok (.istore 5, 2) := by decide +kernel
theorem dX7_stuff_103 : decode cX7_stuff 103 = .ok (.iload 8, 2) := by decide +kernel
theorem dX7_stuff_105 : decode cX7_stuff 105 = .ok (.istore 6, 2) := by decide +kernel
theorem dX7_stuff_107 : decode cX7_stuff 107 = .ok (.iinc 7 1, 3) := by decide +kernel
theorem dX7_stuff_110 : decode cX7_stuff 110 = .ok (.goto (-35), 3) := by decide +kernel
theorem dX7_stuff_113 : decode cX7_stuff 113 = .ok (.iload 4, 2) := by decide +kernel
theorem dX7_stuff_115 : decode cX7_stuff 115 = .ok (.ifCond .ne 8, 3) := by decide +kernel
theorem dX7_stuff_118 : decode cX7_stuff 118 = .ok (.iload 5, 2) := by decide +kernel
theorem dX7_stuff_120 : decode cX7_stuff 120 = .ok (.goto 5, 3) := by decide +kernel
theorem dX7_stuff_123 : decode cX7_stuff 123 = .ok (.iload 6, 2) := by decide +kernel
theorem dX7_stuff_125 : decode cX7_stuff 125 = .ok (.ireturn, 1) := by decide +kernel
theorem dX7_distanceIn_0 : decode cX7_distanceIn 0 = .ok (.aload_n 0, 1) := by decide +kernel
theorem dX7_distanceIn_1 : decode cX7_distanceIn 1 = .ok (.getfield 23, 3) := by decide +kernel
theorem dX7_distanceIn_4 : decode cX7_distanceIn 4 = .ok (.aload_n 0, 1) := by decide +kernel
theorem dX7_distanceIn_5 : decode cX7_distanceIn 5 = .ok (.getfield 19, 3) := by decide +kernel
theorem dX7_distanceIn_8 : decode cX7_distanceIn 8 = .ok (.invokevirtual 163, 3) := by decide +kernel
theorem dX7_distanceIn_11 : decode cX7_distanceIn 11 = .ok (.aload_n 0, 1) := by decide +kernel
theorem dX7_distanceIn_12 : decode cX7_distanceIn 12 = .ok (.getfield 23, 3) := by decide +kernel
theorem dX7_distanceIn_15 : decode cX7_distanceIn 15 = .ok (.iload_n 1, 1) := by decide +kernel
theorem dX7_distanceIn_16 : decode cX7_distanceIn 16 = .ok (.iload_n 2, 1) := by decide +kernel
theorem dX7_distanceIn_17 : decode cX7_distanceIn 17 = .ok (.invokevirtual 149, 3) := by decide +kernel
theorem dX7_distanceIn_20 : decode cX7_distanceIn 20 = .ok (.aload_n 0, 1) := by decide +kernel
theorem dX7_distanceIn_21 : decode cX7_distanceIn 21 = .ok (.getfield 23, 3) := by decide +kernel
theorem dX7_distanceIn_24 : decode cX7_distanceIn 24 = .ok (.iload_n 3, 1) := by decide +kernel
theorem dX7_distanceIn_25 : decode cX7_distanceIn 25 = .ok (.invokevirtual 166, 3) := by decide +kernel
theorem dX7_distanceIn_28 : decode cX7_distanceIn 28 = .ok (.aload_n 0, 1) := by decide +kernel
theorem dX7_distanceIn_29 : decode cX7_distanceIn 29 = .ok (.getfield 23, 3) := by decide +kernel
theorem dX7_distanceIn_32 : decode cX7_distanceIn 32 = .ok (.iload_n 1, 1) := by decide +kernel
theorem dX7_distanceIn_33 : decode cX7_distanceIn 33 = .ok (.iconst 1, 1) := by decide +kernel
theorem dX7_distanceIn_34 : decode cX7_distanceIn 34 = .ok (.invokevirtual 113, 3) := by decide +kernel
theorem dX7_distanceIn_37 : decode cX7_distanceIn 37 = .ok (.iload 4, 2) := by decide +kernel
theorem dX7_distanceIn_39 : decode cX7_distanceIn 39 = .ok (.isub, 1) := by decide +kernel
theorem dX7_distanceIn_40 : decode cX7_distanceIn 40 = .ok (.invokestatic 179, 3) := by decide +kernel
theorem dX7_distanceIn_43 : decode cX7_distanceIn 43 = .ok (.ireturn, 1) := by decide +kernel
theorem dX7_row_0 : decode cX7_row 0 = .ok (.aload_n 0, 1) := by decide +kernel
theorem dX7_row_1 : decode cX7_row 1 = .ok (.getfield 23, 3) := by decide +kernel
theorem dX7_row_4 : decode cX7_row 4 = .ok (.aload_n 0, 1) := by decide +kernel
theorem dX7_row_5 : decode cX7_row 5 = .ok (.getfield 19, 3) := by decide +kernel
theorem dX7_row_8 : decode cX7_row 8 = .ok (.invokevirtual 163, 3) := by decide +kernel
theorem dX7_row_11 : decode cX7_row 11 = .ok (.aload_n 0, 1) := by decide +kernel
theorem dX7_row_12 : decode cX7_row 12 = .ok (.getfield 50, 3) := by decide +kernel
theorem dX7_row_15 : decode cX7_row 15 = .ok (.aload_n 0, 1) := by decide +kernel
theorem dX7_row_16 : decode cX7_row 16 = .ok (.getfield 23, 3) := by decide +kernel
theorem dX7_row_19 : decode cX7_row 19 = .ok (.invokevirtual 184, 3) := by decide +kernel
theorem dX7_row_22 : decode cX7_row 22 = .ok (.iload_n 1, 1) := by decide +kernel
theorem dX7_row_23 : decode cX7_row 23 = .ok (.ifCond .eq 13, 3) := by decide +kernel
theorem dX7_row_26 : decode cX7_row 26 = .ok (.aload_n 0, 1) := by decide +kernel
theorem dX7_row_27 : decode cX7_row 27 = .ok (.getfield 50, 3) := by decide +kernel
theorem dX7_row_30 : decode cX7_row 30 = .ok (.invokevirtual 187, 3) := by decide +kernel
theorem dX7_row_33 : decode cX7_row 33 = .ok (.goto 10, 3) := by decide +kernel
theorem dX7_row_36 : decode cX7_row 36 = .ok (.aload_n 0, 1) := by decide +kernel
theorem dX7_row_37 : decode cX7_row 37 = .ok (.getfield 50, 3) := by decide +kernel
theorem dX7_row_40 : decode cX7_row 40 = .ok (.invokevirtual 190, 3) := by decide +kernel
theorem dX7_row_43 : decode cX7_row 43 = .ok (.ireturn, 1) := by decide +kernel
theorem dX7_judge_0 : decode cX7_judge 0 = .ok (.iload_n 1, 1) := by decide +kernel
theorem dX7_judge_1 : decode cX7_judge 1 = .ok (.iconst 1, 1) := by decide +kernel
theorem dX7_judge_2 : decode cX7_judge 2 = .ok (.if_icmp .lt 24, 3) := by decide +kernel
theorem dX7_judge_5 : decode cX7_judge 5 = .ok (.iload_n 1, 1) := by decide +kernel
theorem dX7_judge_6 : decode cX7_judge 6 = .ok (.iconst 4, 1) := by decide +kernel
theorem dX7_judge_7 : decode cX7_judge 7 = .ok (.if_icmp .gt 19, 3) := by decide +kernel
theorem dX7_judge_10 : decode cX7_judge 10 = .ok (.lload_n 2, 1) := by decide +kernel
theorem dX7_judge_11 : decode cX7_judge 11 = .ok (.lconst 0, 1) := by decide +kernel
theorem dX7_judge_12 : decode cX7_judge 12 = .ok (.lcmp, 1) := by decide +kernel
theorem dX7_judge_13 : decode cX7_judge 13 = .ok (.ifCond .lt 13, 3) := by decide +kernel
theorem dX7_judge_16 : decode cX7_judge 16 = .ok (.lload_n 2, 1) := by decide +kernel
theorem dX7_judge_17 : decode cX7_judge 17 = .ok (.iload_n 1, 1) := by decide +kernel
theorem dX7_judge_18 : decode cX7_judge 18 = .ok (.invokestatic 193, 3) := by decide +kernel
theorem dX7_judge_21 : decode cX7_judge 21 = .ok (.lconst 0, 1) := by decide +kernel
theorem dX7_judge_22 : decode cX7_judge 22 = .ok (.lcmp, 1) := by decide +kernel
theorem dX7_judge_23 : decode cX7_judge 23 = .ok (.ifCond .eq 6, 3) := by decide +kernel
theorem dX7_judge_26 : decode cX7_judge 26 = .ok (.bipush (-2), 2) := by decide +kernel
theorem dX7_judge_28 : decode cX7_judge 28 = .ok (.ireturn, 1) := by decide +kernel
theorem dX7_judge_29 : decode cX7_judge 29 = .ok (.aload_n 0, 1) := by decide +kernel
theorem dX7_judge_30 : decode cX7_judge 30 = .ok (.getfield 23, 3) := by decide +kernel
theorem dX7_judge_33 : decode cX7_judge 33 = .ok (.aload_n 0, 1) := by decide +kernel
theorem dX7_judge_34 : decode cX7_judge 34 = .ok (.getfield 19, 3) := by decide +kernel
theorem dX7_judge_37 : decode cX7_judge 37 = .ok (.invokevirtual 163, 3) := by decide +kernel
theorem dX7_judge_40 : decode cX7_judge 40 = .ok (.iconst 0, 1) := by decide +kernel
theorem dX7_judge_41 : decode cX7_judge 41 = .ok (.istore 4, 2) := by decide +kernel
theorem dX7_judge_43 : decode cX7_judge 43 = .ok (.iload 4, 2) := by decide +kernel
theorem dX7_judge_45 : decode cX7_judge 45 = .ok (.iload_n 1, 1) := by decide +kernel
theorem dX7_judge_46 : decode cX7_judge 46 = .ok (.if_icmp .ge 54, 3) := by decide +kernel
theorem dX7_judge_49 : decode cX7_judge 49 = .ok (.lload_n 2, 1) := by decide +kernel
theorem dX7_judge_50 : decode cX7_judge 50 = .ok (.iload_n 1, 1) := by decide +kernel
theorem dX7_judge_51 : decode cX7_judge 51 = .ok (.iconst 1, 1) := by decide +kernel
theorem dX7_judge_52 : decode cX7_judge 52 = .ok (.isub, 1) := by decide +kernel
theorem dX7_judge_53 : decode cX7_judge 53 = .ok (.iload 4, 2) := by decide +kernel
theorem dX7_judge_55 : decode cX7_judge 55 = .ok (.isub, 1) := by decide +kernel
theorem dX7_judge_56 : decode cX7_judge 56 = .ok (.invokestatic 193, 3) := by decide +kernel
theorem dX7_judge_59 : decode cX7_judge 59 = .ok (.ldc2_w 197, 3) := by decide +kernel
theorem dX7_judge_62 : decode cX7_judge 62 = .ok (.lrem, 1) := by decide +kernel
theorem dX7_judge_63 : decode cX7_judge 63 = .ok (.l2i, 1) := by decide +kernel
theorem dX7_judge_64 : decode cX7_judge 64 = .ok (.istore 5, 2) := by decide +kernel
theorem dX7_judge_66 : decode cX7_judge 66 = .ok (.aload_n 0, 1) := by decide +kernel
theorem dX7_judge_67 : decode cX7_judge 67 = .ok (.iload 5, 2) := by decide +kernel
theorem dX7_judge_69 : decode cX7_judge 69 = .ok (.bipush 100, 2) := by decide +kernel
theorem dX7_judge_71 : decode cX7_judge 71 = .ok (.idiv, 1) := by decide +kernel
theorem dX7_judge_72 : decode cX7_judge 72 = .ok (.iload 5, 2) := by decide +kernel
theorem dX7_judge_74 : decode cX7_judge 74 = .ok (.bipush 10, 2) := by decide +kernel
theorem dX7_judge_76 : decode cX7_judge 76 = .ok (.idiv, 1) := by decide +kernel
theorem dX7_judge_77 : decode cX7_judge 77 = .ok (.bipush 10, 2) := by decide +kernel
theorem dX7_judge_79 : decode cX7_judge 79 = .ok (.irem, 1) := by decide +kernel
theorem dX7_judge_80 : decode cX7_judge 80 = .ok (.iload 5, 2) := by decide +kernel
theorem dX7_judge_82 : decode cX7_judge 82 = .ok (.bipush 10, 2) := by decide +kernel
theorem dX7_judge_84 : decode cX7_judge 84 = .ok (.irem, 1) := by decide +kernel
theorem dX7_judge_85 : decode cX7_judge 85 = .ok (.invokevirtual 199, 3) := by decide +kernel
theorem dX7_judge_88 : decode cX7_judge 88 = .ok (.ifCond .ne 6, 3) := by decide +kernel
theorem dX7_judge_91 : decode cX7_judge 91 = .ok (.iload 4, 2) := by decide +kernel
theorem dX7_judge_93 : decode cX7_judge 93 = .ok (.ireturn, 1) := by decide +kernel
theorem dX7_judge_94 : decode cX7_judge 94 = .ok (.iinc 4 1, 3) := by decide +kernel
theorem dX7_judge_97 : decode cX7_judge 97 = .ok (.goto (-54), 3) := by decide +kernel
theorem dX7_judge_100 : decode cX7_judge 100 = .ok (.bipush (-9), 2) := by decide +kernel
theorem dX7_judge_102 : decode cX7_judge 102 = .ok (.ireturn, 1) := by decide +kernel
theorem dX7_without_0 : decode cX7_without 0 = .ok (.lload_n 0, 1) := by decide +kernel
theorem dX7_without_1 : decode cX7_without 1 = .ok (.lstore_n 3, 1) := by decide +kernel
theorem dX7_without_2 : decode cX7_without 2 = .ok (.iconst 0, 1) := by decide +kernel
theorem dX7_without_3 : decode cX7_without 3 = .ok (.istore 5, 2) := by decide +kernel
theorem dX7_without_5 : decode cX7_without 5 = .ok (.iload 5, 2) := by decide +kernel
theorem dX7_without_7 : decode cX7_without 7 = .ok (.iload_n 2, 1) := by decide +kernel
theorem dX7_without_8 : decode cX7_without 8 = .ok (.if_icmp .ge 15, 3) := by decide +kernel
theorem dX7_without_11 : decode cX7_without 11 = .ok (.lload_n 3, 1) := by decide +kernel
theorem dX7_without_12 : decode cX7_without 12 = .ok (.ldc2_w 197, 3) := by decide +kernel
theorem dX7_without_15 : decode cX7_without 15 = .ok (.ldiv, 1) := by decide +kernel
theorem dX7_without_16 : decode cX7_without 16 = .ok (.lstore_n 3, 1) := by decide +kernel
theorem dX7_without_17 : decode cX7_without 17 = .ok (.iinc 5 1, 3) := by decide +kernel
theorem dX7_without_20 : decode cX7_without 20 = .ok (.goto (-15), 3) := by decide +kernel
theorem dX7_without_23 : decode cX7_without 23 = .ok (.lload_n 3, 1) := by decide +kernel
theorem dX7_without_24 : decode cX7_without 24 = .ok (.lreturn, 1) := by decide +kernel
theorem dX7_trialDoes_0 : decode cX7_trialDoes 0 = .ok (.iload_n 1, 1) := by decide +kernel
theorem dX7_trialDoes_1 : decode cX7_trialDoes 1 = .ok (.tableswitch 191 0 6 #[43, 67, 91, 101, 111, 132, 161], 43) := by decide +kernel
theorem dX7_trialDoes_44 : decode cX7_trialDoes 44 = .ok (.iload_n 2, 1) := by decide +kernel
theorem dX7_trialDoes_45 : decode cX7_trialDoes 45 = .ok (.ifCond .ne 21, 3) := by decide +kernel
theorem dX7_trialDoes_48 : decode cX7_trialDoes 48 = .ok (.iload_n 3, 1) := by decide +kernel
theorem dX7_trialDoes_49 : decode cX7_trialDoes 49 = .ok (.ifCond .ne 17, 3) := by decide +kernel
theorem dX7_trialDoes_52 : decode cX7_trialDoes 52 = .ok (.aload_n 0, 1) := by decide +kernel
theorem dX7_trialDoes_53 : decode cX7_trialDoes 53 = .ok (.getfield 23, 3) := by decide +kernel
theorem dX7_trialDoes_56 : decode cX7_trialDoes 56 = .ok (.invokevirtual 203, 3) := by decide +kernel
theorem dX7_trialDoes_59 : decode cX7_trialDoes 59 = .ok (.ifCond .eq 7, 3) := by decide +kernel
theorem dX7_trialDoes_62 : decode cX7_trialDoes 62 = .ok (.iconst 1, 1) := by decide +kernel
theorem dX7_trialDoes_63 : decode cX7_trialDoes 63 = .ok (.goto 4, 3) := by decide +kernel
theorem dX7_trialDoes_66 : decode cX7_trialDoes 66 = .ok (.iconst 0, 1) := by decide +kernel
theorem dX7_trialDoes_67 : decode cX7_trialDoes 67 = .ok (.ireturn, 1) := by decide +kernel
theorem dX7_trialDoes_68 : decode cX7_trialDoes 68 = .ok (.iload_n 2, 1) := by decide +kernel
theorem dX7_trialDoes_69 : decode cX7_trialDoes 69 = .ok (.ifCond .ne 21, 3) := by decide +kernel
theorem dX7_trialDoes_72 : decode cX7_trialDoes 72 = .ok (.iload_n 3, 1) := by decide +kernel
theorem dX7_trialDoes_73 : decode cX7_trialDoes 73 = .ok (.ifCond .ne 17, 3) := by decide +kernel
theorem dX7_trialDoes_76 : decode cX7_trialDoes 76 = .ok (.aload_n 0, 1) := by decide +kernel
theorem dX7_trialDoes_77 : decode cX7_trialDoes 77 = .ok (.getfield 23, 3) := by decide +kernel
theorem dX7_trialDoes_80 : decode cX7_trialDoes 80 = .ok (.invokevirtual 207, 3) := by decide +kernel
theorem dX7_trialDoes_83 : decode cX7_trialDoes 83 = .ok (.ifCond .eq 7, 3) := by decide +kernel
theorem dX7_trialDoes_86 : decode cX7_trialDoes 86 = .ok (.iconst 1, 1) := by decide +kernel
theorem dX7_trialDoes_87 : decode cX7_trialDoes 87 = .ok (.goto 4, 3) := by decide +kernel
theorem dX7_trialDoes_90 : decode cX7_trialDoes 90 = .ok (.iconst 0, 1) := by decide +kernel
theorem dX7_trialDoes_91 : decode cX7_trialDoes 91 = .ok (.ireturn, 1) := by decide +kernel
theorem dX7_trialDoes_92 : decode cX7_trialDoes 92 = .ok (.aload_n 0, 1) := by decide +kernel
theorem dX7_trialDoes_93 : decode cX7_trialDoes 93 = .ok (.getfield 23, 3) := by decide +kernel
theorem dX7_trialDoes_96 : decode cX7_trialDoes 96 = .ok (.iload_n 2, 1) := by decide +kernel
theorem dX7_trialDoes_97 : decode cX7_trialDoes 97 = .ok (.iload_n 3, 1) := by decide +kernel
theorem dX7_trialDoes_98 : decode cX7_trialDoes 98 = .ok (.invokevirtual 210, 3) := by decide +kernel
theorem dX7_trialDoes_101 : decode cX7_trialDoes 101 = .ok (.ireturn, 1) := by decide +kernel
theorem dX7_trialDoes_102 : decode cX7_trialDoes 102 = .ok (.aload_n 0, 1) := by decide +kernel
theorem dX7_trialDoes_103 : decode cX7_trialDoes 103 = .ok (.getfield 23, 3) := by decide +kernel
theorem dX7_trialDoes_106 : decode cX7_trialDoes 106 = .ok (.iload_n 2, 1) := by decide +kernel
theorem dX7_trialDoes_107 : decode cX7_trialDoes 107 = .ok (.iload_n 3, 1) := by decide +kernel
theorem dX7_trialDoes_108 : decode cX7_trialDoes 108 = .ok (.invokevirtual 213, 3) := by decide +kernel
theorem dX7_trialDoes_111 : decode cX7_trialDoes 111 = .ok (.ireturn, 1) := by decide +kernel
theorem dX7_trialDoes_112 : decode cX7_trialDoes 112 = .ok (.iload_n 2, 1) := by decide +kernel
theorem dX7_trialDoes_113 : decode cX7_trialDoes 113 = .ok (.ifCond .ne 18, 3) := by decide +kernel
theorem dX7_trialDoes_116 : decode cX7_trialDoes 116 = .ok (.aload_n 0, 1) := by decide +kernel
theorem dX7_trialDoes_117 : decode cX7_trialDoes 117 = .ok (.getfield 23, 3) := by decide +kernel
theorem dX7_trialDoes_120 : decode cX7_trialDoes 120 = .ok (.iload_n 3, 1) := by decide +kernel
theorem dX7_trialDoes_121 : decode cX7_trialDoes 121 = .ok (.invokevirtual 216, 3) := by decide +kernel
theorem dX7_trialDoes_124 : decode cX7_trialDoes 124 = .ok (.ifCond .eq 7, 3) := by decide +kernel
theorem dX7_trialDoes_127 : decode cX7_trialDoes 127 = .ok (.iconst 1, 1) := by decide +kernel
theorem dX7_trialDoes_128 : decode cX7_trialDoes 128 = .ok (.goto 4, 3) := by decide +kernel
theorem dX7_trialDoes_131 : decode cX7_trialDoes 131 = .ok (.iconst 0, 1) := by decide +kernel
theorem dX7_trialDoes_132 : decode cX7_trialDoes 132 = .ok (.ireturn, 1) := by decide +kernel
theorem dX7_trialDoes_133 : decode cX7_trialDoes 133 = .ok (.aload_n 0, 1) := by decide +kernel
theorem dX7_trialDoes_134 : decode cX7_trialDoes 134 = .ok (.getfield 23, 3) := by decide +kernel
theorem dX7_trialDoes_137 : decode cX7_trialDoes 137 = .ok (.iload_n 3, 1) := by decide +kernel
theorem dX7_trialDoes_138 : decode cX7_trialDoes 138 = .ok (.invokevirtual 107, 3) := by decide +kernel
theorem dX7_trialDoes_141 : decode cX7_trialDoes 141 = .ok (.ifCond .eq 19, 3) := by decide +kernel
theorem dX7_trialDoes_144 : decode cX7_trialDoes 144 = .ok (.aload_n 0, 1) := by decide +kernel
theorem dX7_trialDoes_145 : decode cX7_trialDoes 145 = .ok (.getfield 23, 3) := by decide +kernel
theorem dX7_trialDoes_148 : decode cX7_trialDoes 148 = .ok (.iload_n 2, 1) := by decide +kernel
theorem dX7_trialDoes_149 : decode cX7_trialDoes 149 = .ok (.invokevirtual 110, 3) := by decide +kernel
theorem dX7_trialDoes_152 : decode cX7_trialDoes 152 = .ok (.iload_n 3, 1) := by decide +kernel
theorem dX7_trialDoes_153 : decode cX7_trialDoes 153 = .ok (.if_icmp .ne 7, 3) := by decide +kernel
theorem dX7_trialDoes_156 : decode cX7_trialDoes 156 = .ok (.iconst 1, 1) := by decide +kernel
theorem dX7_trialDoes_157 : decode cX7_trialDoes 157 = .ok (.goto 4, 3) := by decide +kernel
theorem dX7_trialDoes_160 : decode cX7_trialDoes 160 = .ok (.iconst 0, 1) := by decide +kernel
theorem dX7_trialDoes_161 : decode cX7_trialDoes 161 = .ok (.ireturn, 1) := by decide +kernel
theorem dX7_trialDoes_162 : decode cX7_trialDoes 162 = .ok (.aload_n 0, 1) := by decide +kernel
theorem dX7_trialDoes_163 : decode cX7_trialDoes 163 = .ok (.getfield 23, 3) := by decide +kernel
theorem dX7_trialDoes_166 : decode cX7_trialDoes 166 = .ok (.iload_n 2, 1) := by decide +kernel
theorem dX7_trialDoes_167 : decode cX7_trialDoes 167 = .ok (.invokevirtual 152, 3) := by decide +kernel
theorem dX7_trialDoes_170 : decode cX7_trialDoes 170 = .ok (.ifCond .eq 20, 3) := by decide +kernel
theorem dX7_trialDoes_173 : decode cX7_trialDoes 173 = .ok (.aload_n 0, 1) := by decide +kernel
theorem dX7_trialDoes_174 : decode cX7_trialDoes 174 = .ok (.getfield 23, 3) := by decide +kernel
theorem dX7_trialDoes_177 : decode cX7_trialDoes 177 = .ok (.iload_n 2, 1) := by decide +kernel
theorem dX7_trialDoes_178 : decode cX7_trialDoes 178 = .ok (.iconst 1, 1) := by decide +kernel
theorem dX7_trialDoes_179 : decode cX7_trialDoes 179 = .ok (.invokevirtual 113, 3) := by decide +kernel
theorem dX7_trialDoes_182 : decode cX7_trialDoes 182 = .ok (.iload_n 3, 1) := by decide +kernel
theorem dX7_trialDoes_183 : decode cX7_trialDoes 183 = .ok (.if_icmp .ne 7, 3) := by decide +kernel
theorem dX7_trialDoes_186 : decode cX7_trialDoes 186 = .ok (.iconst 1, 1) := by decide +kernel
theorem dX7_trialDoes_187 : decode cX7_trialDoes 187 = .ok (.goto 4, 3) := by decide +kernel
theorem dX7_trialDoes_190 : decode cX7_trialDoes 190 = .ok (.iconst 0, 1) := by decide +kernel
theorem dX7_trialDoes_191 : decode cX7_trialDoes 191 = .ok (.ireturn, 1) := by decide +kernel
theorem dX7_trialDoes_192 : decode cX7_trialDoes 192 = .ok (.iconst 0, 1) := by decide +kernel
theorem dX7_trialDoes_193 : decode cX7_trialDoes 193 = .ok (.ireturn, 1) := by decide +kernel
theorem dX7_share_0 : decode cX7_share 0 = .ok (.aload_n 0, 1) := by decide +kernel
theorem dX7_share_1 : decode cX7_share 1 = .ok (.getfield 19, 3) := by decide +kernel
theorem dX7_share_4 : decode cX7_share 4 = .ok (.iload_n 1, 1) := by decide +kernel
theorem dX7_share_5 : decode cX7_share 5 = .ok (.invokevirtual 107, 3) := by decide +kernel
theorem dX7_share_8 : decode cX7_share 8 = .ok (.ifCond .ne 5, 3) := by decide +kernel
theorem dX7_share_11 : decode cX7_share 11 = .ok (.iconst (-1), 1) := by decide +kernel
theorem dX7_share_12 : decode cX7_share 12 = .ok (.ireturn, 1) := by decide +kernel
theorem dX7_share_13 : decode cX7_share 13 = .ok (.aload_n 0, 1) := by decide +kernel
theorem dX7_share_14 : decode cX7_share 14 = .ok (.getfield 19, 3) := by decide +kernel
theorem dX7_share_17 : decode cX7_share 17 = .ok (.invokevirtual 87, 3) := by decide +kernel
theorem dX7_share_20 : decode cX7_share 20 = .ok (.istore_n 3, 1) := by decide +kernel
theorem dX7_share_21 : decode cX7_share 21 = .ok (.iconst 1, 1) := by decide +kernel
theorem dX7_share_22 : decode cX7_share 22 = .ok (.iload_n 3, 1) := by decide +kernel
theorem dX7_share_23 : decode cX7_share 23 = .ok (.ishl, 1) := by decide +kernel
theorem dX7_share_24 : decode cX7_share 24 = .ok (.iconst 1, 1) := by decide +kernel
theorem dX7_share_25 : decode cX7_share 25 = .ok (.isub, 1) := by decide +kernel
theorem dX7_share_26 : decode cX7_share 26 = .ok (.istore 4, 2) := by decide +kernel
theorem dX7_share_28 : decode cX7_share 28 = .ok (.iconst 1, 1) := by decide +kernel
theorem dX7_share_29 : decode cX7_share 29 = .ok (.iload_n 1, 1) := by decide +kernel
theorem dX7_share_30 : decode cX7_share 30 = .ok (.ishl, 1) := by decide +kernel
theorem dX7_share_31 : decode cX7_share 31 = .ok (.istore 5, 2) := by decide +kernel
theorem dX7_share_33 : decode cX7_share 33 = .ok (.iconst 0, 1) := by decide +kernel
theorem dX7_share_34 : decode cX7_share 34 = .ok (.istore 6, 2) := by decide +kernel
theorem dX7_share_36 : decode cX7_share 36 = .ok (.iconst 0, 1) := by decide +kernel
theorem dX7_share_37 : decode cX7_share 37 = .ok (.istore 7, 2) := by decide +kernel
theorem dX7_share_39 : decode cX7_share 39 = .ok (.iload 7, 2) := by decide +kernel
theorem dX7_share_41 : decode cX7_share 41 = .ok (.iload 4, 2) := by decide +kernel
theorem dX7_share_43 : decode cX7_share 43 = .ok (.if_icmp .gt 65, 3) := by decide +kernel
theorem dX7_share_46 : decode cX7_share 46 = .ok (.iload 7, 2) := by decide +kernel
theorem dX7_share_48 : decode cX7_share 48 = .ok (.iload 5, 2) := by decide +kernel
theorem dX7_share_50 : decode cX7_share 50 = .ok (.iand, 1) := by decide +kernel
theorem dX7_share_51 : decode cX7_share 51 = .ok (.ifCond .ne 51, 3) := by decide +kernel
theorem dX7_share_54 : decode cX7_share 54 = .ok (.iload 7, 2) := by decide +kernel
theorem dX7_share_56 : decode cX7_share 56 = .ok (.invokestatic 219, 3) := by decide +kernel
theorem dX7_share_59 : decode cX7_share 59 = .ok (.istore 8, 2) := by decide +kernel
theorem dX7_share_61 : decode cX7_share 61 = .ok (.aload_n 0, 1) := by decide +kernel
theorem dX7_share_62 : decode cX7_share 62 = .ok (.iload 7, 2) := by decide +kernel
theorem dX7_share_64 : decode cX7_share 64 = .ok (.iload 5, 2) := by decide +kernel
theorem dX7_share_66 : decode cX7_share 66 = .ok (.ior, 1) := by decide +kernel
theorem dX7_share_67 : decode cX7_share 67 = .ok (.invokevirtual 224, 3) := by decide +kernel
theorem dX7_share_70 : decode cX7_share 70 = .ok (.aload_n 0, 1) := by decide +kernel
theorem dX7_share_71 : decode cX7_share 71 = .ok (.iload 7, 2) := by decide +kernel
theorem dX7_share_73 : decode cX7_share 73 = .ok (.invokevirtual 224, 3) := by decide +kernel
theorem dX7_share_76 : decode cX7_share 76 = .ok (.isub, 1) := by decide +kernel
theorem dX7_share_77 : decode cX7_share 77 = .ok (.istore 9, 2) := by decide +kernel
theorem dX7_share_79 : decode cX7_share 79 = .ok (.iload 6, 2) := by decide +kernel
theorem dX7_share_81 : decode cX7_share 81 = .ok (.iload 9, 2) := by decide +kernel
theorem dX7_share_83 : decode cX7_share 83 = .ok (.iload 8, 2) := by decide +kernel
theorem dX7_share_85 : decode cX7_share 85 = .ok (.invokestatic 227, 3) := by decide +kernel
theorem dX7_share_88 : decode cX7_share 88 = .ok (.imul, 1) := by decide +kernel
theorem dX7_share_89 : decode cX7_share 89 = .ok (.iload_n 3, 1) := by decide +kernel
theorem dX7_share_90 : decode cX7_share 90 = .ok (.iconst 1, 1) := by decide +kernel
theorem dX7_share_91 : decode cX7_share 91 = .ok (.isub, 1) := by decide +kernel
theorem dX7_share_92 : decode cX7_share 92 = .ok (.iload 8, 2) := by decide +kernel
theorem dX7_share_94 : decode cX7_share 94 = .ok (.isub, 1) := by decide +kernel
theorem dX7_share_95 : decode cX7_share 95 = .ok (.invokestatic 227, 3) := by decide +kernel
theorem dX7_share_98 : decode cX7_share 98 = .ok (.imul, 1) := by decide +kernel
theorem dX7_share_99 : decode cX7_share 99 = .ok (.iadd, 1) := by decide +kernel
theorem dX7_share_100 : decode cX7_share 100 = .ok (.istore 6, 2) := by decide +kernel
theorem dX7_share_102 : decode cX7_share 102 = .ok (.iinc 7 1, 3) := by decide +kernel
theorem dX7_share_105 : decode cX7_share 105 = .ok (.goto (-66), 3) := by decide +kernel
theorem dX7_share_108 : decode cX7_share 108 = .ok (.aload_n 0, 1) := by decide +kernel
theorem dX7_share_109 : decode cX7_share 109 = .ok (.getfield 57, 3) := by decide +kernel
theorem dX7_share_112 : decode cX7_share 112 = .ok (.iload 6, 2) := by decide +kernel
theorem dX7_share_114 : decode cX7_share 114 = .ok (.iload_n 3, 1) := by decide +kernel
theorem dX7_share_115 : decode cX7_share 115 = .ok (.invokestatic 227, 3) := by decide +kernel
theorem dX7_share_118 : decode cX7_share 118 = .ok (.invokevirtual 230, 3) := by decide +kernel
theorem dX7_share_121 : decode cX7_share 121 = .ok (.aload_n 0, 1) := by decide +kernel
theorem dX7_share_122 : decode cX7_share 122 = .ok (.getfield 57, 3) := by decide +kernel
theorem dX7_share_125 : decode cX7_share 125 = .ok (.iload_n 2, 1) := by decide +kernel
theorem dX7_share_126 : decode cX7_share 126 = .ok (.invokevirtual 233, 3) := by decide +kernel
theorem dX7_share_129 : decode cX7_share 129 = .ok (.ireturn, 1) := by decide +kernel
theorem dX7_seenAmong_0 : decode cX7_seenAmong 0 = .ok (.aload_n 0, 1) := by decide +kernel
theorem dX7_seenAmong_1 : decode cX7_seenAmong 1 = .ok (.getfield 23, 3) := by decide +kernel
theorem dX7_seenAmong_4 : decode cX7_seenAmong 4 = .ok (.aload_n 0, 1) := by decide +kernel
theorem dX7_seenAmong_5 : decode cX7_seenAmong 5 = .ok (.getfield 19, 3) := by decide +kernel
theorem dX7_seenAmong_8 : decode cX7_seenAmong 8 = .ok (.iload_n 1, 1) := by decide +kernel
theorem dX7_seenAmong_9 : decode cX7_seenAmong 9 = .ok (.iconst (-1), 1) := by decide +kernel
theorem dX7_seenAmong_10 : decode cX7_seenAmong 10 = .ok (.ixor, 1) := by decide +kernel
theorem dX7_seenAmong_11 : decode cX7_seenAmong 11 = .ok (.invokevirtual 237, 3) := by decide +kernel
theorem dX7_seenAmong_14 : decode cX7_seenAmong 14 = .ok (.aload_n 0, 1) := by decide +kernel
theorem dX7_seenAmong_15 : decode cX7_seenAmong 15 = .ok (.getfield 23, 3) := by decide +kernel
theorem dX7_seenAmong_18 : decode cX7_seenAmong 18 = .ok (.invokevirtual 241, 3) := by decide +kernel
theorem dX7_seenAmong_21 : decode cX7_seenAmong 21 = .ok (.ireturn, 1) := by decide +kernel
theorem dX7_taste_0 : decode cX7_taste 0 = .ok (.iload_n 1, 1) := by decide +kernel
theorem dX7_taste_1 : decode cX7_taste 1 = .ok (.invokestatic 169, 3) := by decide +kernel
theorem dX7_taste_4 : decode cX7_taste 4 = .ok (.ifCond .eq 10, 3) := by decide +kernel
theorem dX7_taste_7 : decode cX7_taste 7 = .ok (.iload_n 2, 1) := by decide +kernel
theorem dX7_taste_8 : decode cX7_taste 8 = .ok (.invokestatic 169, 3) := by decide +kernel
theorem dX7_taste_11 : decode cX7_taste 11 = .ok (.ifCond .ne 6, 3) := by decide +kernel
theorem dX7_taste_14 : decode cX7_taste 14 = .ok (.bipush (-2), 2) := by decide +kernel
theorem dX7_taste_16 : decode cX7_taste 16 = .ok (.ireturn, 1) := by decide +kernel
theorem dX7_taste_17 : decode cX7_taste 17 = .ok (.aload_n 0, 1) := by decide +kernel
theorem dX7_taste_18 : decode cX7_taste 18 = .ok (.getfield 43, 3) := by decide +kernel
theorem dX7_taste_21 : decode cX7_taste 21 = .ok (.iload_n 1, 1) := by decide +kernel
theorem dX7_taste_22 : decode cX7_taste 22 = .ok (.iload_n 2, 1) := by decide +kernel
theorem dX7_taste_23 : decode cX7_taste 23 = .ok (.invokevirtual 244, 3) := by decide +kernel
theorem dX7_taste_26 : decode cX7_taste 26 = .ok (.ifCond .eq 13, 3) := by decide +kernel
theorem dX7_taste_29 : decode cX7_taste 29 = .ok (.aload_n 0, 1) := by decide +kernel
theorem dX7_taste_30 : decode cX7_taste 30 = .ok (.getfield 43, 3) := by decide +kernel
theorem dX7_taste_33 : decode cX7_taste 33 = .ok (.invokevirtual 106, 3) := by decide +kernel
theorem dX7_taste_36 : decode cX7_taste 36 = .ok (.goto 5, 3) := by decide +kernel
theorem dX7_taste_39 : decode cX7_taste 39 = .ok (.bipush (-4), 2) := by decide +kernel
theorem dX7_taste_41 : decode cX7_taste 41 = .ok (.ireturn, 1) := by decide +kernel
theorem dX7_untaste_0 : decode cX7_untaste 0 = .ok (.aload_n 0, 1) := by decide +kernel
theorem dX7_untaste_1 : decode cX7_untaste 1 = .ok (.getfield 43, 3) := by decide +kernel
theorem dX7_untaste_4 : decode cX7_untaste 4 = .ok (.invokevirtual 106, 3) := by decide +kernel
theorem dX7_untaste_7 : decode cX7_untaste 7 = .ok (.istore_n 1, 1) := by decide +kernel
theorem dX7_untaste_8 : decode cX7_untaste 8 = .ok (.aload_n 0, 1) := by decide +kernel
theorem dX7_untaste_9 : decode cX7_untaste 9 = .ok (.getfield 43, 3) := by decide +kernel
theorem dX7_untaste_12 : decode cX7_untaste 12 = .ok (.invokevirtual 246, 3) := by decide +kernel
theorem dX7_untaste_15 : decode cX7_untaste 15 = .ok (.iload_n 1, 1) := by decide +kernel
theorem dX7_untaste_16 : decode cX7_untaste 16 = .ok (.ireturn, 1) := by decide +kernel
theorem dX7_kept_0 : decode cX7_kept 0 = .ok (.iload_n 1, 1) := by decide +kernel
theorem dX7_kept_1 : decode cX7_kept 1 = .ok (.ifCond .lt 8, 3) := by decide +kernel
theorem dX7_kept_4 : decode cX7_kept 4 = .ok (.iload_n 1, 1) := by decide +kernel
theorem dX7_kept_5 : decode cX7_kept 5 = .ok (.iconst 1, 1) := by decide +kernel
theorem dX7_kept_6 : decode cX7_kept 6 = .ok (.if_icmp .le 6, 3) := by decide +kernel
theorem dX7_kept_9 : decode cX7_kept 9 = .ok (.bipush (-2), 2) := by decide +kernel
theorem dX7_kept_11 : decode cX7_kept 11 = .ok (.ireturn, 1) := by decide +kernel
theorem dX7_kept_12 : decode cX7_kept 12 = .ok (.iload_n 1, 1) := by decide +kernel
theorem dX7_kept_13 : decode cX7_kept 13 = .ok (.ifCond .ne 13, 3) := by decide +kernel
theorem dX7_kept_16 : decode cX7_kept 16 = .ok (.aload_n 0, 1) := by decide +kernel
theorem dX7_kept_17 : decode cX7_kept 17 = .ok (.getfield 43, 3) := by decide +kernel
theorem dX7_kept_20 : decode cX7_kept 20 = .ok (.invokevirtual 247, 3) := by decide +kernel
theorem dX7_kept_23 : decode cX7_kept 23 = .ok (.goto 10, 3) := by decide +kernel
theorem dX7_kept_26 : decode cX7_kept 26 = .ok (.aload_n 0, 1) := by decide +kernel
theorem dX7_kept_27 : decode cX7_kept 27 = .ok (.getfield 43, 3) := by decide +kernel
theorem dX7_kept_30 : decode cX7_kept 30 = .ok (.invokevirtual 250, 3) := by decide +kernel
theorem dX7_kept_33 : decode cX7_kept 33 = .ok (.ireturn, 1) := by decide +kernel
theorem dX7_rests_0 : decode cX7_rests 0 = .ok (.aload_n 0, 1) := by decide +kernel
theorem dX7_rests_1 : decode cX7_rests 1 = .ok (.getfield 19, 3) := by decide +kernel
theorem dX7_rests_4 : decode cX7_rests 4 = .ok (.iload_n 1, 1) := by decide +kernel
theorem dX7_rests_5 : decode cX7_rests 5 = .ok (.invokevirtual 107, 3) := by decide +kernel
theorem dX7_rests_8 : decode cX7_rests 8 = .ok (.ifCond .eq 14, 3) := by decide +kernel
theorem dX7_rests_11 : decode cX7_rests 11 = .ok (.aload_n 0, 1) := by decide +kernel
theorem dX7_rests_12 : decode cX7_rests 12 = .ok (.getfield 19, 3) := by decide +kernel
theorem dX7_rests_15 : decode cX7_rests 15 = .ok (.iload_n 2, 1) := by decide +kernel
theorem dX7_rests_16 : decode cX7_rests 16 = .ok (.invokevirtual 107, 3) := by decide +kernel
theorem dX7_rests_19 : decode cX7_rests 19 = .ok (.ifCond .ne 5, 3) := by decide +kernel
theorem dX7_rests_22 : decode cX7_rests 22 = .ok (.iconst (-1), 1) := by decide +kernel
theorem dX7_rests_23 : decode cX7_rests 23 = .ok (.ireturn, 1) := by decide +kernel
theorem dX7_rests_24 : decode cX7_rests 24 = .ok (.iload_n 1, 1) := by decide +kernel
theorem dX7_rests_25 : decode cX7_rests 25 = .ok (.iload_n 2, 1) := by decide +kernel
theorem dX7_rests_26 : decode cX7_rests 26 = .ok (.if_icmp .eq 12, 3) := by decide +kernel
theorem dX7_rests_29 : decode cX7_rests 29 = .ok (.iload_n 3, 1) := by decide +kernel
theorem dX7_rests_30 : decode cX7_rests 30 = .ok (.ifCond .lt 8, 3) := by decide +kernel
theorem dX7_rests_33 : decode cX7_rests 33 = .ok (.iload_n 3, 1) := by decide +kernel
theorem dX7_rests_34 : decode cX7_rests 34 = .ok (.iconst 1, 1) := by decide +kernel
theorem dX7_rests_35 : decode cX7_rests 35 = .ok (.if_icmp .le 6, 3) := by decide +kernel
theorem dX7_rests_38 : decode cX7_rests 38 = .ok (.bipush (-2), 2) := by decide +kernel
theorem dX7_rests_40 : decode cX7_rests 40 = .ok (.ireturn, 1) := by decide +kernel
theorem dX7_rests_41 : decode cX7_rests 41 = .ok (.aload_n 0, 1) := by decide +kernel
theorem dX7_rests_42 : decode cX7_rests 42 = .ok (.getfield 19, 3) := by decide +kernel
theorem dX7_rests_45 : decode cX7_rests 45 = .ok (.iload_n 1, 1) := by decide +kernel
theorem dX7_rests_46 : decode cX7_rests 46 = .ok (.invokevirtual 152, 3) := by decide +kernel
theorem dX7_rests_49 : decode cX7_rests 49 = .ok (.ifCond .eq 14, 3) := by decide +kernel
theorem dX7_rests_52 : decode cX7_rests 52 = .ok (.aload_n 0, 1) := by decide +kernel
theorem dX7_rests_53 : decode cX7_rests 53 = .ok (.getfield 19, 3) := by decide +kernel
theorem dX7_rests_56 : decode cX7_rests 56 = .ok (.iload_n 2, 1) := by decide +kernel
theorem dX7_rests_57 : decode cX7_rests 57 = .ok (.invokevirtual 152, 3) := by decide +kernel
theorem dX7_rests_60 : decode cX7_rests 60 = .ok (.ifCond .ne 6, 3) := by decide +kernel
theorem dX7_rests_63 : decode cX7_rests 63 = .ok (.bipush (-3), 2) := by decide +kernel
theorem dX7_rests_65 : decode cX7_rests 65 = .ok (.ireturn, 1) := by decide +kernel
theorem dX7_rests_66 : decode cX7_rests 66 = .ok (.aload_n 0, 1) := by decide +kernel
theorem dX7_rests_67 : decode cX7_rests 67 = .ok (.iload_n 1, 1) := by decide +kernel
theorem dX7_rests_68 : decode cX7_rests 68 = .ok (.iload_n 2, 1) := by decide +kernel
theorem dX7_rests_69 : decode cX7_rests 69 = .ok (.invokevirtual 253, 3) := by decide +kernel
theorem dX7_rests_72 : decode cX7_rests 72 = .ok (.istore 4, 2) := by decide +kernel
theorem dX7_rests_74 : decode cX7_rests 74 = .ok (.aload_n 0, 1) := by decide +kernel
theorem dX7_rests_75 : decode cX7_rests 75 = .ok (.iload_n 2, 1) := by decide +kernel
theorem dX7_rests_76 : decode cX7_rests 76 = .ok (.iload_n 1, 1) := by decide +kernel
theorem dX7_rests_77 : decode cX7_rests 77 = .ok (.invokevirtual 253, 3) := by decide +kernel
theorem dX7_rests_80 : decode cX7_rests 80 = .ok (.istore 5, 2) := by decide +kernel
theorem dX7_rests_82 : decode cX7_rests 82 = .ok (.iconst 0, 1) := by decide +kernel
theorem dX7_rests_83 : decode cX7_rests 83 = .ok (.istore 6, 2) := by decide +kernel
theorem dX7_rests_85 : decode cX7_rests 85 = .ok (.bipush (-9), 2) := by decide +kernel
theorem dX7_rests_87 : decode cX7_rests 87 = .ok (.istore 7, 2) := by decide +kernel
theorem dX7_rests_89 : decode cX7_rests 89 = .ok (.iconst 0, 1) := by decide +kernel
theorem dX7_rests_90 : decode cX7_rests 90 = .ok (.istore 8, 2) := by decide +kernel
theorem dX7_rests_92 : decode cX7_rests 92 = .ok (.iload 8, 2) := by decide +kernel
theorem dX7_rests_94 : decode cX7_rests 94 = .ok (.bipush 16, 2) := by decide +kernel
theorem dX7_rests_96 : decode cX7_rests 96 = .ok (.if_icmp .ge 78, 3) := by decide +kernel
theorem dX7_rests_99 : decode cX7_rests 99 = .ok (.iload 8, 2) := by decide +kernel
theorem dX7_rests_101 : decode cX7_rests 101 = .ok (.iconst 4, 1) := by decide +kernel
theorem dX7_rests_102 : decode cX7_rests 102 = .ok (.idiv, 1) := by decide +kernel
theorem dX7_rests_103 : decode cX7_rests 103 = .ok (.istore 9, 2) := by decide +kernel
theorem dX7_rests_105 : decode cX7_rests 105 = .ok (.iload 8, 2) := by decide +kernel
theorem dX7_rests_107 : decode cX7_rests 107 = .ok (.iconst 4, 1) := by decide +kernel
theorem dX7_rests_108 : decode cX7_rests 108 = .ok (.irem, 1) := by decide +kernel
theorem dX7_rests_109 : decode cX7_rests 109 = .ok (.istore 10, 2) := by decide +kernel
theorem dX7_rests_111 : decode cX7_rests 111 = .ok (.iload 4, 2) := by decide +kernel
theorem dX7_rests_113 : decode cX7_rests 113 = .ok (.iload 9, 2) := by decide +kernel
theorem dX7_rests_115 : decode cX7_rests 115 = .ok (.iload 5, 2) := by decide +kernel
theorem dX7_rests_117 : decode cX7_rests 117 = .ok (.iload 10, 2) := by decide +kernel
theorem dX7_rests_119 : decode cX7_rests 119 = .ok (.invokestatic 256, 3) := by decide +kernel
theorem dX7_rests_122 : decode cX7_rests 122 = .ok (.invokestatic 259, 3) := by decide +kernel
theorem dX7_rests_125 : decode cX7_rests 125 = .ok (.ifCond .eq 43, 3) := by decide +kernel
theorem dX7_rests_128 : decode cX7_rests 128 = .ok (.iload 5, 2) := by decide +kernel
theorem dX7_rests_130 : decode cX7_rests 130 = .ok (.iload 10, 2) := by decide +kernel
theorem dX7_rests_132 : decode cX7_rests 132 = .ok (.iload 4, 2) := by decide +kernel
theorem dX7_rests_134 : decode cX7_rests 134 = .ok (.iload 9, 2) := by decide +kernel
theorem dX7_rests_136 : decode cX7_rests 136 = .ok (.invokestatic 256, 3) := by decide +kernel
theorem dX7_rests_139 : decode cX7_rests 139 = .ok (.invokestatic 259, 3) := by decide +kernel
theorem dX7_rests_142 : decode cX7_rests 142 = .ok (.ifCond .eq 26, 3) := by decide +kernel
theorem dX7_rests_145 : decode cX7_rests 145 = .ok (.iload 6, 2) := by decide +kernel
theorem dX7_rests_147 : decode cX7_rests 147 = .ok (.ifCond .ne 14, 3) := by decide +kernel
theorem dX7_rests_150 : decode cX7_rests 150 = .ok (.bipush 10, 2) := by decide +kernel
theorem dX7_rests_152 : decode cX7_rests 152 = .ok (.iload 9, 2) := by decide +kernel
theorem dX7_rests_154 : decode cX7_rests 154 = .ok (.imul, 1) := by decide +kernel
theorem dX7_rests_155 : decode cX7_rests 155 = .ok (.iload 10, 2) := by decide +kernel
theorem dX7_rests_157 : decode cX7_rests 157 = .ok (.iadd, 1) := by decide +kernel
theorem dX7_rests_158 : decode cX7_rests 158 = .ok (.goto 5, 3) := by decide +kernel
theorem dX7_rests_161 : decode cX7_rests 161 = .ok (.iload 7, 2) := by decide +kernel
theorem dX7_rests_163 : decode cX7_rests 163 = .ok (.istore 7, 2) := by decide +kernel
theorem dX7_rests_165 : decode cX7_rests 165 = .ok (.iinc 6 1, 3) := by decide +kernel
theorem dX7_rests_168 : decode cX7_rests 168 = .ok (.iinc 8 1, 3) := by decide +kernel
theorem dX7_rests_171 : decode cX7_rests 171 = .ok (.goto (-79), 3) := by decide +kernel
theorem dX7_rests_174 : decode cX7_rests 174 = .ok (.iload_n 3, 1) := by decide +kernel
theorem dX7_rests_175 : decode cX7_rests 175 = .ok (.ifCond .ne 8, 3) := by decide +kernel
theorem dX7_rests_178 : decode cX7_rests 178 = .ok (.iload 6, 2) := by decide +kernel
theorem dX7_rests_180 : decode cX7_rests 180 = .ok (.goto 5, 3) := by decide +kernel
theorem dX7_rests_183 : decode cX7_rests 183 = .ok (.iload 7, 2) := by decide +kernel
theorem dX7_rests_185 : decode cX7_rests 185 = .ok (.ireturn, 1) := by decide +kernel
theorem dX7_looksThatSee_0 : decode cX7_looksThatSee 0 = .ok (.iconst 0, 1) := by decide +kernel
theorem dX7_looksThatSee_1 : decode cX7_looksThatSee 1 = .ok (.istore_n 3, 1) := by decide +kernel
theorem dX7_looksThatSee_2 : decode cX7_looksThatSee 2 = .ok (.aload_n 0, 1) := by decide +kernel
theorem dX7_looksThatSee_3 : decode cX7_looksThatSee 3 = .ok (.getfield 23, 3) := by decide +kernel
theorem dX7_looksThatSee_6 : decode cX7_looksThatSee 6 = .ok (.aload_n 0, 1) := by decide +kernel
theorem dX7_looksThatSee_7 : decode cX7_looksThatSee 7 = .ok (.getfield 19, 3) := by decide +kernel
theorem dX7_looksThatSee_10 : decode cX7_looksThatSee 10 = .ok (.invokevirtual 163, 3) := by decide +kernel
theorem dX7_looksThatSee_13 : decode cX7_looksThatSee 13 = .ok (.iconst 0, 1) := by decide +kernel
theorem dX7_looksThatSee_14 : decode cX7_looksThatSee 14 = .ok (.istore 4, 2) := by decide +kernel
theorem dX7_looksThatSee_16 : decode cX7_looksThatSee 16 = .ok (.iload 4, 2) := by decide +kernel
theorem dX7_looksThatSee_18 : decode cX7_looksThatSee 18 = .ok (.iconst 4, 1) := by decide +kernel
theorem dX7_looksThatSee_19 : decode cX7_looksThatSee 19 = .ok (.if_icmp .ge 38, 3) := by decide +kernel
theorem dX7_looksThatSee_22 : decode cX7_looksThatSee 22 = .ok (.aload_n 0, 1) := by decide +kernel
theorem dX7_looksThatSee_23 : decode cX7_looksThatSee 23 = .ok (.getfield 23, 3) := by decide +kernel
theorem dX7_looksThatSee_26 : decode cX7_looksThatSee 26 = .ok (.iload_n 1, 1) := by decide +kernel
theorem dX7_looksThatSee_27 : decode cX7_looksThatSee 27 = .ok (.iload 4, 2) := by decide +kernel
theorem dX7_looksThatSee_29 : decode cX7_looksThatSee 29 = .ok (.invokevirtual 263, 3) := by decide +kernel
theorem dX7_looksThatSee_32 : decode cX7_looksThatSee 32 = .ok (.aload_n 0, 1) := by decide +kernel
theorem dX7_looksThatSee_33 : decode cX7_looksThatSee 33 = .ok (.getfield 23, 3) := by decide +kernel
theorem dX7_looksThatSee_36 : decode cX7_looksThatSee 36 = .ok (.iload_n 1, 1) := by decide +kernel
theorem dX7_looksThatSee_37 : decode cX7_looksThatSee 37 = .ok (.invokevirtual 110, 3) := by decide +kernel
theorem dX7_looksThatSee_40 : decode cX7_looksThatSee 40 = .ok (.iload_n 2, 1) := by decide +kernel
theorem dX7_looksThatSee_41 : decode cX7_looksThatSee 41 = .ok (.if_icmp .ne 10, 3) := by decide +kernel
theorem dX7_looksThatSee_44 : decode cX7_looksThatSee 44 = .ok (.iload_n 3, 1) := by decide +kernel
theorem dX7_looksThatSee_45 : decode cX7_looksThatSee 45 = .ok (.iconst 1, 1) := by decide +kernel
theorem dX7_looksThatSee_46 : decode cX7_looksThatSee 46 = .ok (.iload 4, 2) := by decide +kernel
theorem dX7_looksThatSee_48 : decode cX7_looksThatSee 48 = .ok (.ishl, 1) := by decide +kernel
theorem dX7_looksThatSee_49 : decode cX7_looksThatSee 49 = .ok (.ior, 1) := by decide +kernel
theorem dX7_looksThatSee_50 : decode cX7_looksThatSee 50 = .ok (.istore_n 3, 1) := by decide +kernel
theorem dX7_looksThatSee_51 : decode cX7_looksThatSee 51 = .ok (.iinc 4 1, 3) := by decide +kernel
theorem dX7_looksThatSee_54 : decode cX7_looksThatSee 54 = .ok (.goto (-38), 3) := by decide +kernel
theorem dX7_looksThatSee_57 : decode cX7_looksThatSee 57 = .ok (.iload_n 3, 1) := by decide +kernel
theorem dX7_looksThatSee_58 : decode cX7_looksThatSee 58 = .ok (.ireturn, 1) := by decide +kernel
theorem dX7_isBest_0 : decode cX7_isBest 0 = .ok (.iload_n 0, 1) := by decide +kernel
theorem dX7_isBest_1 : decode cX7_isBest 1 = .ok (.iload_n 1, 1) := by decide +kernel
theorem dX7_isBest_2 : decode cX7_isBest 2 = .ok (.invokestatic 256, 3) := by decide +kernel
theorem dX7_isBest_5 : decode cX7_isBest 5 = .ok (.iload_n 2, 1) := by decide +kernel
theorem dX7_isBest_6 : decode cX7_isBest 6 = .ok (.iload_n 1, 1) := by decide +kernel
theorem dX7_isBest_7 : decode cX7_isBest 7 = .ok (.invokestatic 266, 3) := by decide +kernel
theorem dX7_isBest_10 : decode cX7_isBest 10 = .ok (.istore_n 3, 1) := by decide +kernel
theorem dX7_isBest_11 : decode cX7_isBest 11 = .ok (.iconst 0, 1) := by decide +kernel
theorem dX7_isBest_12 : decode cX7_isBest 12 = .ok (.istore 4, 2) := by decide +kernel
theorem dX7_isBest_14 : decode cX7_isBest 14 = .ok (.iload 4, 2) := by decide +kernel
theorem dX7_isBest_16 : decode cX7_isBest 16 = .ok (.iconst 4, 1) := by decide +kernel
theorem dX7_isBest_17 : decode cX7_isBest 17 = .ok (.if_icmp .ge 27, 3) := by decide +kernel
theorem dX7_isBest_20 : decode cX7_isBest 20 = .ok (.iload_n 0, 1) := by decide +kernel
theorem dX7_isBest_21 : decode cX7_isBest 21 = .ok (.iload 4, 2) := by decide +kernel
theorem dX7_isBest_23 : decode cX7_isBest 23 = .ok (.invokestatic 256, 3) := by decide +kernel
theorem dX7_isBest_26 : decode cX7_isBest 26 = .ok (.iload_n 2, 1) := by decide +kernel
theorem dX7_isBest_27 : decode cX7_isBest 27 = .ok (.iload 4, 2) := by decide +kernel
theorem dX7_isBest_29 : decode cX7_isBest 29 = .ok (.invokestatic 266, 3) := by decide +kernel
theorem dX7_isBest_32 : decode cX7_isBest 32 = .ok (.iload_n 3, 1) := by decide +kernel
theorem dX7_isBest_33 : decode cX7_isBest 33 = .ok (.if_icmp .le 5, 3) := by decide +kernel
theorem dX7_isBest_36 : decode cX7_isBest 36 = .ok (.iconst 0, 1) := by decide +kernel
theorem dX7_isBest_37 : decode cX7_isBest 37 = .ok (.ireturn, 1) := by decide +kernel
theorem dX7_isBest_38 : decode cX7_isBest 38 = .ok (.iinc 4 1, 3) := by decide +kernel
theorem dX7_isBest_41 : decode cX7_isBest 41 = .ok (.goto (-27), 3) := by decide +kernel
theorem dX7_isBest_44 : decode cX7_isBest 44 = .ok (.iconst 1, 1) := by decide +kernel
theorem dX7_isBest_45 : decode cX7_isBest 45 = .ok (.ireturn, 1) := by decide +kernel
theorem dX7_points_0 : decode cX7_points 0 = .ok (.iload_n 0, 1) := by decide +kernel
theorem dX7_points_1 : decode cX7_points 1 = .ok (.ifCond .eq 7, 3) := by decide +kernel
theorem dX7_points_4 : decode cX7_points 4 = .ok (.iconst 3, 1) := by decide +kernel
theorem dX7_points_5 : decode cX7_points 5 = .ok (.goto 4, 3) := by decide +kernel
theorem dX7_points_8 : decode cX7_points 8 = .ok (.iconst 0, 1) := by decide +kernel
theorem dX7_points_9 : decode cX7_points 9 = .ok (.iload_n 1, 1) := by decide +kernel
theorem dX7_points_10 : decode cX7_points 10 = .ok (.ifCond .eq 7, 3) := by decide +kernel
theorem dX7_points_13 : decode cX7_points 13 = .ok (.iconst 0, 1) := by decide +kernel
theorem dX7_points_14 : decode cX7_points 14 = .ok (.goto 4, 3) := by decide +kernel
theorem dX7_points_17 : decode cX7_points 17 = .ok (.iconst 1, 1) := by decide +kernel
theorem dX7_points_18 : decode cX7_points 18 = .ok (.iadd, 1) := by decide +kernel
theorem dX7_points_19 : decode cX7_points 19 = .ok (.iload_n 2, 1) := by decide +kernel
theorem dX7_points_20 : decode cX7_points 20 = .ok (.iconst 1, 1) := by decide +kernel
theorem dX7_points_21 : decode cX7_points 21 = .ok (.if_icmp .ne 7, 3) := by decide +kernel
theorem dX7_points_24 : decode cX7_points 24 = .ok (.iconst 1, 1) := by decide +kernel
theorem dX7_points_25 : decode cX7_points 25 = .ok (.goto 4, 3) := by decide +kernel
theorem dX7_points_28 : decode cX7_points 28 = .ok (.iconst 0, 1) := by decide +kernel
theorem dX7_points_29 : decode cX7_points 29 = .ok (.iadd, 1) := by decide +kernel
theorem dX7_points_30 : decode cX7_points 30 = .ok (.ireturn, 1) := by decide +kernel
theorem dX7_papers_0 : decode cX7_papers 0 = .ok (.iload_n 1, 1) := by decide +kernel
theorem dX7_papers_1 : decode cX7_papers 1 = .ok (.ifCond .lt 18, 3) := by decide +kernel
theorem dX7_papers_4 : decode cX7_papers 4 = .ok (.iload_n 1, 1) := by decide +kernel
theorem dX7_papers_5 : decode cX7_papers 5 = .ok (.iconst 3, 1) := by decide +kernel
theorem dX7_papers_6 : decode cX7_papers 6 = .ok (.if_icmp .gt 13, 3) := by decide +kernel
theorem dX7_papers_9 : decode cX7_papers 9 = .ok (.iload_n 2, 1) := by decide +kernel
theorem dX7_papers_10 : decode cX7_papers 10 = .ok (.ifCond .lt 9, 3) := by decide +kernel
theorem dX7_papers_13 : decode cX7_papers 13 = .ok (.iload_n 2, 1) := by decide +kernel
theorem dX7_papers_14 : decode cX7_papers 14 = .ok (.bipush 10, 2) := by decide +kernel
theorem dX7_papers_16 : decode cX7_papers 16 = .ok (.if_icmp .le 6, 3) := by decide +kernel
theorem dX7_papers_19 : decode cX7_papers 19 = .ok (.bipush (-2), 2) := by decide +kernel
theorem dX7_papers_21 : decode cX7_papers 21 = .ok (.ireturn, 1) := by decide +kernel
theorem dX7_papers_22 : decode cX7_papers 22 = .ok (.aload_n 0, 1) := by decide +kernel
theorem dX7_papers_23 : decode cX7_papers 23 = .ok (.getfield 19, 3) := by decide +kernel
theorem dX7_papers_26 : decode cX7_papers 26 = .ok (.iconst 0, 1) := by decide +kernel
theorem dX7_papers_27 : decode cX7_papers 27 = .ok (.invokevirtual 93, 3) := by decide +kernel
theorem dX7_papers_30 : decode cX7_papers 30 = .ok (.istore 4, 2) := by decide +kernel
theorem dX7_papers_32 : decode cX7_papers 32 = .ok (.iload 4, 2) := by decide +kernel
theorem dX7_papers_34 : decode cX7_papers 34 = .ok (.invokestatic 219, 3) := by decide +kernel
theorem dX7_papers_37 : decode cX7_papers 37 = .ok (.istore 5, 2) := by decide +kernel
theorem dX7_papers_39 : decode cX7_papers 39 = .ok (.iconst 0, 1) := by decide +kernel
theorem dX7_papers_40 : decode cX7_papers 40 = .ok (.istore 6, 2) := by decide +kernel
theorem dX7_papers_42 : decode cX7_papers 42 = .ok (.iconst 0, 1) := by decide +kernel
theorem dX7_papers_43 : decode cX7_papers 43 = .ok (.istore 7, 2) := by decide +kernel
theorem dX7_papers_45 : decode cX7_papers 45 = .ok (.iload 7, 2) := by decide +kernel
theorem dX7_papers_47 : decode cX7_papers 47 = .ok (.iload 4, 2) := by decide +kernel
theorem dX7_papers_49 : decode cX7_papers 49 = .ok (.if_icmp .gt 60, 3) := by decide +kernel
theorem dX7_papers_52 : decode cX7_papers 52 = .ok (.iload 7, 2) := by decide +kernel
theorem dX7_papers_54 : decode cX7_papers 54 = .ok (.iload 4, 2) := by decide +kernel
theorem dX7_papers_56 : decode cX7_papers 56 = .ok (.iconst (-1), 1) := by decide +kernel
theorem dX7_papers_57 : decode cX7_papers 57 = .ok (.ixor, 1) := by decide +kernel
theorem dX7_papers_58 : decode cX7_papers 58 = .ok (.iand, 1) := by decide +kernel
theorem dX7_papers_59 : decode cX7_papers 59 = .ok (.ifCond .ne 44, 3) := by decide +kernel
theorem dX7_papers_62 : decode cX7_papers 62 = .ok (.aload_n 0, 1) := by decide +kernel
theorem dX7_papers_63 : decode cX7_papers 63 = .ok (.iload 7, 2) := by decide +kernel
theorem dX7_papers_65 : decode cX7_papers 65 = .ok (.invokevirtual 270, 3) := by decide +kernel
theorem dX7_papers_68 : decode cX7_papers 68 = .ok (.iload_n 1, 1) := by decide +kernel
theorem dX7_papers_69 : decode cX7_papers 69 = .ok (.if_icmp .lt 34, 3) := by decide +kernel
theorem dX7_papers_72 : decode cX7_papers 72 = .ok (.iload 7, 2) := by decide +kernel
theorem dX7_papers_74 : decode cX7_papers 74 = .ok (.invokestatic 219, 3) := by decide +kernel
theorem dX7_papers_77 : decode cX7_papers 77 = .ok (.istore 8, 2) := by decide +kernel
theorem dX7_papers_79 : decode cX7_papers 79 = .ok (.iload 6, 2) := by decide +kernel
theorem dX7_papers_81 : decode cX7_papers 81 = .ok (.iload_n 2, 1) := by decide +kernel
theorem dX7_papers_82 : decode cX7_papers 82 = .ok (.iload 8, 2) := by decide +kernel
theorem dX7_papers_84 : decode cX7_papers 84 = .ok (.invokestatic 273, 3) := by decide +kernel
theorem dX7_papers_87 : decode cX7_papers 87 = .ok (.bipush 10, 2) := by decide +kernel
theorem dX7_papers_89 : decode cX7_papers 89 = .ok (.iload_n 2, 1) := by decide +kernel
theorem dX7_papers_90 : decode cX7_papers 90 = .ok (.isub, 1) := by decide +kernel
theorem dX7_papers_91 : decode cX7_papers 91 = .ok (.iload 5, 2) := by decide +kernel
theorem dX7_papers_93 : decode cX7_papers 93 = .ok (.iload 8, 2) := by decide +kernel
theorem dX7_papers_95 : decode cX7_papers 95 = .ok (.isub, 1) := by decide +kernel
theorem dX7_papers_96 : decode cX7_papers 96 = .ok (.invokestatic 273, 3) := by decide +kernel
theorem dX7_papers_99 : decode cX7_papers 99 = .ok (.imul, 1) := by decide +kernel
theorem dX7_papers_100 : decode cX7_papers 100 = .ok (.iadd, 1) := by decide +kernel
theorem dX7_papers_101 : decode cX7_papers 101 = .ok (.istore 6, 2) := by decide +kernel
theorem dX7_papers_103 : decode cX7_papers 103 = .ok (.iinc 7 1, 3) := by decide +kernel
theorem dX7_papers_106 : decode cX7_papers 106 = .ok (.goto (-61), 3) := by decide +kernel
theorem dX7_papers_109 : decode cX7_papers 109 = .ok (.aload_n 0, 1) := by decide +kernel
theorem dX7_papers_110 : decode cX7_papers 110 = .ok (.getfield 57, 3) := by decide +kernel
theorem dX7_papers_113 : decode cX7_papers 113 = .ok (.iload 6, 2) := by decide +kernel
theorem dX7_papers_115 : decode cX7_papers 115 = .ok (.bipush 10, 2) := by decide +kernel
theorem dX7_papers_117 : decode cX7_papers 117 = .ok (.iload 5, 2) := by decide +kernel
theorem dX7_papers_119 : decode cX7_papers 119 = .ok (.invokestatic 273, 3) := by decide +kernel
theorem dX7_papers_122 : decode cX7_papers 122 = .ok (.invokevirtual 230, 3) := by decide +kernel
theorem dX7_papers_125 : decode cX7_papers 125 = .ok (.aload_n 0, 1) := by decide +kernel
theorem dX7_papers_126 : decode cX7_papers 126 = .ok (.getfield 57, 3) := by decide +kernel
theorem dX7_papers_129 : decode cX7_papers 129 = .ok (.iload_n 3, 1) := by decide +kernel
theorem dX7_papers_130 : decode cX7_papers 130 = .ok (.invokevirtual 233, 3) := by decide +kernel
theorem dX7_papers_133 : decode cX7_papers 133 = .ok (.ireturn, 1) := by decide +kernel
theorem dX7_pairsWithout_0 : decode cX7_pairsWithout 0 = .ok (.aload_n 0, 1) := by decide +kernel
theorem dX7_pairsWithout_1 : decode cX7_pairsWithout 1 = .ok (.getfield 23, 3) := by decide +kernel
theorem dX7_pairsWithout_4 : decode cX7_pairsWithout 4 = .ok (.aload_n 0, 1) := by decide +kernel
theorem dX7_pairsWithout_5 : decode cX7_pairsWithout 5 = .ok (.getfield 19, 3) := by decide +kernel
theorem dX7_pairsWithout_8 : decode cX7_pairsWithout 8 = .ok (.iload_n 1, 1) := by decide +kernel
theorem dX7_pairsWithout_9 : decode cX7_pairsWithout 9 = .ok (.invokevirtual 237, 3) := by decide +kernel
theorem dX7_pairsWithout_12 : decode cX7_pairsWithout 12 = .ok (.aload_n 0, 1) := by decide +kernel
theorem dX7_pairsWithout_13 : decode cX7_pairsWithout 13 = .ok (.getfield 23, 3) := by decide +kernel
theorem dX7_pairsWithout_16 : decode cX7_pairsWithout 16 = .ok (.invokevirtual 100, 3) := by decide +kernel
theorem dX7_pairsWithout_19 : decode cX7_pairsWithout 19 = .ok (.ireturn, 1) := by decide +kernel
theorem dX7_seed_0 : decode cX7_seed 0 = .ok (.aload_n 0, 1) := by decide +kernel
theorem dX7_seed_1 : decode cX7_seed 1 = .ok (.getfield 61, 3) := by decide +kernel
theorem dX7_seed_4 : decode cX7_seed 4 = .ok (.lstore_n 3, 1) := by decide +kernel
theorem dX7_seed_5 : decode cX7_seed 5 = .ok (.aload_n 0, 1) := by decide +kernel
theorem dX7_seed_6 : decode cX7_seed 6 = .ok (.lload_n 1, 1) := by decide +kernel
theorem dX7_seed_7 : decode cX7_seed 7 = .ok (.putfield 61, 3) := by decide +kernel
theorem dX7_seed_10 : decode cX7_seed 10 = .ok (.lload_n 3, 1) := by decide +kernel
theorem dX7_seed_11 : decode cX7_seed 11 = .ok (.lreturn, 1) := by decide +kernel
theorem dX7_years_0 : decode cX7_years 0 = .ok (.iload_n 1, 1) := by decide +kernel
theorem dX7_years_1 : decode cX7_years 1 = .ok (.iconst 1, 1) := by decide +kernel
theorem dX7_years_2 : decode cX7_years 2 = .ok (.if_icmp .lt 9, 3) := by decide +kernel
theorem dX7_years_5 : decode cX7_years 5 = .ok (.iload_n 1, 1) := by decide +kernel
theorem dX7_years_6 : decode cX7_years 6 = .ok (.bipush 30, 2) := by decide +kernel
theorem dX7_years_8 : decode cX7_years 8 = .ok (.if_icmp .le 6, 3) := by decide +kernel
theorem dX7_years_11 : decode cX7_years 11 = .ok (.bipush (-2), 2) := by decide +kernel
theorem dX7_years_13 : decode cX7_years 13 = .ok (.ireturn, 1) := by decide +kernel
theorem dX7_years_14 : decode cX7_years 14 = .ok (.aload_n 0, 1) := by decide +kernel
theorem dX7_years_15 : decode cX7_years 15 = .ok (.getfield 23, 3) := by decide +kernel
theorem dX7_years_18 : decode cX7_years 18 = .ok (.aload_n 0, 1) := by decide +kernel
theorem dX7_years_19 : decode cX7_years 19 = .ok (.getfield 19, 3) := by decide +kernel
theorem dX7_years_22 : decode cX7_years 22 = .ok (.invokevirtual 163, 3) := by decide +kernel
theorem dX7_years_25 : decode cX7_years 25 = .ok (.iconst 0, 1) := by decide +kernel
theorem dX7_years_26 : decode cX7_years 26 = .ok (.istore_n 2, 1) := by decide +kernel
theorem dX7_years_27 : decode cX7_years 27 = .ok (.iconst 0, 1) := by decide +kernel
theorem dX7_years_28 : decode cX7_years 28 = .ok (.istore_n 3, 1) := by decide +kernel
theorem dX7_years_29 : decode cX7_years 29 = .ok (.iload_n 3, 1) := by decide +kernel
theorem dX7_years_30 : decode cX7_years 30 = .ok (.iload_n 1, 1) := by decide +kernel
theorem dX7_years_31 : decode cX7_years 31 = .ok (.if_icmp .ge 51, 3) := by decide +kernel
theorem dX7_years_34 : decode cX7_years 34 = .ok (.aload_n 0, 1) := by decide +kernel
theorem dX7_years_35 : decode cX7_years 35 = .ok (.aload_n 0, 1) := by decide +kernel
theorem dX7_years_36 : decode cX7_years 36 = .ok (.getfield 61, 3) := by decide +kernel
theorem dX7_years_39 : decode cX7_years 39 = .ok (.ldc2_w 276, 3) := by decide +kernel
theorem dX7_years_42 : decode cX7_years 42 = .ok (.lmul, 1) := by decide +kernel
theorem dX7_years_43 : decode cX7_years 43 = .ok (.ldc2_w 278, 3) := by decide +kernel
theorem dX7_years_46 : decode cX7_years 46 = .ok (.ladd, 1) := by decide +kernel
theorem dX7_years_47 : decode cX7_years 47 = .ok (.putfield 61, 3) := by decide +kernel
theorem dX7_years_50 : decode cX7_years 50 = .ok (.aload_n 0, 1) := by decide +kernel
theorem dX7_years_51 : decode cX7_years 51 = .ok (.aload_n 0, 1) := by decide +kernel
theorem dX7_years_52 : decode cX7_years 52 = .ok (.getfield 61, 3) := by decide +kernel
theorem dX7_years_55 : decode cX7_years 55 = .ok (.bipush 33, 2) := by decide +kernel
theorem dX7_years_57 : decode cX7_years 57 = .ok (.lushr, 1) := by decide +kernel
theorem dX7_years_58 : decode cX7_years 58 = .ok (.ldc2_w 280, 3) := by decide +kernel
theorem dX7_years_61 : decode cX7_years 61 = .ok (.lrem, 1) := by decide +kernel
theorem dX7_years_62 : decode cX7_years 62 = .ok (.l2i, 1) := by decide +kernel
theorem dX7_years_63 : decode cX7_years 63 = .ok (.invokevirtual 282, 3) := by decide +kernel
theorem dX7_years_66 : decode cX7_years 66 = .ok (.iload_n 2, 1) := by decide +kernel
theorem dX7_years_67 : decode cX7_years 67 = .ok (.aload_n 0, 1) := by decide +kernel
theorem dX7_years_68 : decode cX7_years 68 = .ok (.getfield 23, 3) := by decide +kernel
theorem dX7_years_71 : decode cX7_years 71 = .ok (.invokevirtual 129, 3) := by decide +kernel
theorem dX7_years_74 : decode cX7_years 74 = .ok (.iadd, 1) := by decide +kernel
theorem dX7_years_75 : decode cX7_years 75 = .ok (.istore_n 2, 1) := by decide +kernel
theorem dX7_years_76 : decode cX7_years 76 = .ok (.iinc 3 1, 3) := by decide +kernel
theorem dX7_years_79 : decode cX7_years 79 = .ok (.goto (-50), 3) := by decide +kernel
theorem dX7_years_82 : decode cX7_years 82 = .ok (.iload_n 2, 1) := by decide +kernel
theorem dX7_years_83 : decode cX7_years 83 = .ok (.ireturn, 1) := by decide +kernel
theorem dX7_trialByChance_0 : decode cX7_trialByChance 0 = .ok (.iload_n 1, 1) := by decide +kernel
theorem dX7_trialByChance_1 : decode cX7_trialByChance 1 = .ok (.bipush 24, 2) := by decide +kernel
theorem dX7_trialByChance_3 : decode cX7_trialByChance 3 = .ok (.if_icmp .ge 20, 3) := by decide +kernel
theorem dX7_trialByChance_6 : decode cX7_trialByChance 6 = .ok (.aload_n 0, 1) := by decide +kernel
theorem dX7_trialByChance_7 : decode cX7_trialByChance 7 = .ok (.getfield 23, 3) := by decide +kernel
theorem dX7_trialByChance_10 : decode cX7_trialByChance 10 = .ok (.iload_n 1, 1) := by decide +kernel
theorem dX7_trialByChance_11 : decode cX7_trialByChance 11 = .ok (.iconst 4, 1) := by decide +kernel
theorem dX7_trialByChance_12 : decode cX7_trialByChance 12 = .ok (.idiv, 1) := by decide +kernel
theorem dX7_trialByChance_13 : decode cX7_trialByChance 13 = .ok (.iload_n 1, 1) := by decide +kernel
theorem dX7_trialByChance_14 : decode cX7_trialByChance 14 = .ok (.iconst 4, 1) := by decide +kernel
theorem dX7_trialByChance_15 : decode cX7_trialByChance 15 = .ok (.irem, 1) := by decide +kernel
theorem dX7_trialByChance_16 : decode cX7_trialByChance 16 = .ok (.invokevirtual 213, 3) := by decide +kernel
theorem dX7_trialByChance_19 : decode cX7_trialByChance 19 = .ok (.pop, 1) := by decide +kernel
theorem dX7_trialByChance_20 : decode cX7_trialByChance 20 = .ok (.goto 27, 3) := by decide +kernel
theorem dX7_trialByChance_23 : decode cX7_trialByChance 23 = .ok (.iload_n 1, 1) := by decide +kernel
theorem dX7_trialByChance_24 : decode cX7_trialByChance 24 = .ok (.bipush 24, 2) := by decide +kernel
theorem dX7_trialByChance_26 : decode cX7_trialByChance 26 = .ok (.if_icmp .ne 14, 3) := by decide +kernel
theorem dX7_trialByChance_29 : decode cX7_trialByChance 29 = .ok (.aload_n 0, 1) := by decide +kernel
theorem dX7_trialByChance_30 : decode cX7_trialByChance 30 = .ok (.getfield 23, 3) := by decide +kernel
theorem dX7_trialByChance_33 : decode cX7_trialByChance 33 = .ok (.invokevirtual 132, 3) := by decide +kernel
theorem dX7_trialByChance_36 : decode cX7_trialByChance 36 = .ok (.pop, 1) := by decide +kernel
theorem dX7_trialByChance_37 : decode cX7_trialByChance 37 = .ok (.goto 10, 3) := by decide +kernel
theorem dX7_trialByChance_40 : decode cX7_trialByChance 40 = .ok (.aload_n 0, 1) := by decide +kernel
theorem dX7_trialByChance_41 : decode cX7_trialByChance 41 = .ok (.getfield 23, 3) := by decide +kernel
theorem dX7_trialByChance_44 : decode cX7_trialByChance 44 = .ok (.invokevirtual 126, 3) := by decide +kernel
theorem dX7_trialByChance_47 : decode cX7_trialByChance 47 = .ok (.return_, 1) := by decide +kernel
theorem dX7_keep_0 : decode cX7_keep 0 = .ok (.iload_n 1, 1) := by decide +kernel
theorem dX7_keep_1 : decode cX7_keep 1 = .ok (.ifCond .lt 8, 3) := by decide +kernel
theorem dX7_keep_4 : decode cX7_keep 4 = .ok (.iload_n 1, 1) := by decide +kernel
theorem dX7_keep_5 : decode cX7_keep 5 = .ok (.iconst 2, 1) := by decide +kernel
theorem dX7_keep_6 : decode cX7_keep 6 = .ok (.if_icmp .lt 5, 3) := by decide +kernel
theorem dX7_keep_9 : decode cX7_keep 9 = .ok (.iconst (-1), 1) := by decide +kernel
theorem dX7_keep_10 : decode cX7_keep 10 = .ok (.ireturn, 1) := by decide +kernel
theorem dX7_keep_11 : decode cX7_keep 11 = .ok (.aload_n 0, 1) := by decide +kernel
theorem dX7_keep_12 : decode cX7_keep 12 = .ok (.getfield 36, 3) := by decide +kernel
theorem dX7_keep_15 : decode cX7_keep 15 = .ok (.iload_n 1, 1) := by decide +kernel
theorem dX7_keep_16 : decode cX7_keep 16 = .ok (.aload_n 0, 1) := by decide +kernel
theorem dX7_keep_17 : decode cX7_keep 17 = .ok (.getfield 19, 3) := by decide +kernel
theorem dX7_keep_20 : decode cX7_keep 20 = .ok (.invokevirtual 285, 3) := by decide +kernel
theorem dX7_keep_23 : decode cX7_keep 23 = .ok (.aload_n 0, 1) := by decide +kernel
theorem dX7_keep_24 : decode cX7_keep 24 = .ok (.getfield 19, 3) := by decide +kernel
theorem dX7_keep_27 : decode cX7_keep 27 = .ok (.invokevirtual 90, 3) := by decide +kernel
theorem dX7_keep_30 : decode cX7_keep 30 = .ok (.ireturn, 1) := by decide +kernel
theorem dX7_again_0 : decode cX7_again 0 = .ok (.iload_n 1, 1) := by decide +kernel
theorem dX7_again_1 : decode cX7_again 1 = .ok (.ifCond .lt 8, 3) := by decide +kernel
theorem dX7_again_4 : decode cX7_again 4 = .ok (.iload_n 1, 1) := by decide +kernel
theorem dX7_again_5 : decode cX7_again 5 = .ok (.iconst 2, 1) := by decide +kernel
theorem dX7_again_6 : decode cX7_again 6 = .ok (.if_icmp .lt 5, 3) := by decide +kernel
theorem dX7_again_9 : decode cX7_again 9 = .ok (.iconst (-1), 1) := by decide +kernel
theorem dX7_again_10 : decode cX7_again 10 = .ok (.ireturn, 1) := by decide +kernel
theorem dX7_again_11 : decode cX7_again 11 = .ok (.aload_n 0, 1) := by decide +kernel
theorem dX7_again_12 : decode cX7_again 12 = .ok (.getfield 36, 3) := by decide +kernel
theorem dX7_again_15 : decode cX7_again 15 = .ok (.iload_n 1, 1) := by decide +kernel
theorem dX7_again_16 : decode cX7_again 16 = .ok (.aload_n 0, 1) := by decide +kernel
theorem dX7_again_17 : decode cX7_again 17 = .ok (.getfield 19, 3) := by decide +kernel
theorem dX7_again_20 : decode cX7_again 20 = .ok (.invokevirtual 289, 3) := by decide +kernel
theorem dX7_again_23 : decode cX7_again 23 = .ok (.ifCond .ne 6, 3) := by decide +kernel
theorem dX7_again_26 : decode cX7_again 26 = .ok (.bipush (-3), 2) := by decide +kernel
theorem dX7_again_28 : decode cX7_again 28 = .ok (.ireturn, 1) := by decide +kernel
theorem dX7_again_29 : decode cX7_again 29 = .ok (.aload_n 0, 1) := by decide +kernel
theorem dX7_again_30 : decode cX7_again 30 = .ok (.getfield 29, 3) := by decide +kernel
theorem dX7_again_33 : decode cX7_again 33 = .ok (.invokevirtual 83, 3) := by decide +kernel
theorem dX7_again_36 : decode cX7_again 36 = .ok (.aload_n 0, 1) := by decide +kernel
theorem dX7_again_37 : decode cX7_again 37 = .ok (.getfield 19, 3) := by decide +kernel
theorem dX7_again_40 : decode cX7_again 40 = .ok (.invokevirtual 90, 3) := by decide +kernel
theorem dX7_again_43 : decode cX7_again 43 = .ok (.ireturn, 1) := by decide +kernel
theorem dX7_isFigure_0 : decode cX7_isFigure 0 = .ok (.iload_n 0, 1) := by decide +kernel
theorem dX7_isFigure_1 : decode cX7_isFigure 1 = .ok (.ifCond .lt 13, 3) := by decide +kernel
theorem dX7_isFigure_4 : decode cX7_isFigure 4 = .ok (.iload_n 0, 1) := by decide +kernel
theorem dX7_isFigure_5 : decode cX7_isFigure 5 = .ok (.bipush 9, 2) := by decide +kernel
theorem dX7_isFigure_7 : decode cX7_isFigure 7 = .ok (.if_icmp .gt 7, 3) := by decide +kernel
theorem dX7_isFigure_10 : decode cX7_isFigure 10 = .ok (.iconst 1, 1) := by decide +kernel
theorem dX7_isFigure_11 : decode cX7_isFigure 11 = .ok (.goto 4, 3) := by decide +kernel
theorem dX7_isFigure_14 : decode cX7_isFigure 14 = .ok (.iconst 0, 1) := by decide +kernel
theorem dX7_isFigure_15 : decode cX7_isFigure 15 = .ok (.ireturn, 1) := by decide +kernel
theorem dX7_isPlace_0 : decode cX7_isPlace 0 = .ok (.iload_n 0, 1) := by decide +kernel
theorem dX7_isPlace_1 : decode cX7_isPlace 1 = .ok (.ifCond .lt 13, 3) := by decide +kernel
theorem dX7_isPlace_4 : decode cX7_isPlace 4 = .ok (.iload_n 0, 1) := by decide +kernel
theorem dX7_isPlace_5 : decode cX7_isPlace 5 = .ok (.bipush 8, 2) := by decide +kernel
theorem dX7_isPlace_7 : decode cX7_isPlace 7 = .ok (.if_icmp .ge 7, 3) := by decide +kernel
theorem dX7_isPlace_10 : decode cX7_isPlace 10 = .ok (.iconst 1, 1) := by decide +kernel
theorem dX7_isPlace_11 : decode cX7_isPlace 11 = .ok (.goto 4, 3) := by decide +kernel
theorem dX7_isPlace_14 : decode cX7_isPlace 14 = .ok (.iconst 0, 1) := by decide +kernel
theorem dX7_isPlace_15 : decode cX7_isPlace 15 = .ok (.ireturn, 1) := by decide +kernel
theorem dX7_isStuff_0 : decode cX7_isStuff 0 = .ok (.iload_n 0, 1) := by decide +kernel
theorem dX7_isStuff_1 : decode cX7_isStuff 1 = .ok (.ifCond .lt 12, 3) := by decide +kernel
theorem dX7_isStuff_4 : decode cX7_isStuff 4 = .ok (.iload_n 0, 1) := by decide +kernel
theorem dX7_isStuff_5 : decode cX7_isStuff 5 = .ok (.iconst 4, 1) := by decide +kernel
theorem dX7_isStuff_6 : decode cX7_isStuff 6 = .ok (.if_icmp .ge 7, 3) := by decide +kernel
theorem dX7_isStuff_9 : decode cX7_isStuff 9 = .ok (.iconst 1, 1) := by decide +kernel
theorem dX7_isStuff_10 : decode cX7_isStuff 10 = .ok (.goto 4, 3) := by decide +kernel
theorem dX7_isStuff_13 : decode cX7_isStuff 13 = .ok (.iconst 0, 1) := by decide +kernel
theorem dX7_isStuff_14 : decode cX7_isStuff 14 = .ok (.ireturn, 1) := by decide +kernel
theorem dX7_isIn_0 : decode cX7_isIn 0 = .ok (.iload_n 0, 1) := by decide +kernel
theorem dX7_isIn_1 : decode cX7_isIn 1 = .ok (.iload_n 1, 1) := by decide +kernel
theorem dX7_isIn_2 : decode cX7_isIn 2 = .ok (.ishr, 1) := by decide +kernel
theorem dX7_isIn_3 : decode cX7_isIn 3 = .ok (.iconst 1, 1) := by decide +kernel
theorem dX7_isIn_4 : decode cX7_isIn 4 = .ok (.iand, 1) := by decide +kernel
theorem dX7_isIn_5 : decode cX7_isIn 5 = .ok (.ifCond .eq 7, 3) := by decide +kernel
theorem dX7_isIn_8 : decode cX7_isIn 8 = .ok (.iconst 1, 1) := by decide +kernel
theorem dX7_isIn_9 : decode cX7_isIn 9 = .ok (.goto 4, 3) := by decide +kernel
theorem dX7_isIn_12 : decode cX7_isIn 12 = .ok (.iconst 0, 1) := by decide +kernel
theorem dX7_isIn_13 : decode cX7_isIn 13 = .ok (.ireturn, 1) := by decide +kernel
theorem dX7_ordersOf_0 : decode cX7_ordersOf 0 = .ok (.iload_n 0, 1) := by decide +kernel
theorem dX7_ordersOf_1 : decode cX7_ordersOf 1 = .ok (.ifCond .lt 19, 3) := by decide +kernel
theorem dX7_ordersOf_4 : decode cX7_ordersOf 4 = .ok (.iload_n 0, 1) := by decide +kernel
theorem dX7_ordersOf_5 : decode cX7_ordersOf 5 = .ok (.getstatic 293, 3) := by decide +kernel
theorem dX7_ordersOf_8 : decode cX7_ordersOf 8 = .ok (.arraylength, 1) := by decide +kernel
theorem dX7_ordersOf_9 : decode cX7_ordersOf 9 = .ok (.if_icmp .ge 11, 3) := by decide +kernel
theorem dX7_ordersOf_12 : decode cX7_ordersOf 12 = .ok (.getstatic 293, 3) := by decide +kernel
theorem dX7_ordersOf_15 : decode cX7_ordersOf 15 = .ok (.iload_n 0, 1) := by decide +kernel
theorem dX7_ordersOf_16 : decode cX7_ordersOf 16 = .ok (.iaload, 1) := by decide +kernel
theorem dX7_ordersOf_17 : decode cX7_ordersOf 17 = .ok (.goto 4, 3) := by decide +kernel
theorem dX7_ordersOf_20 : decode cX7_ordersOf 20 = .ok (.iconst 0, 1) := by decide +kernel
theorem dX7_ordersOf_21 : decode cX7_ordersOf 21 = .ok (.ireturn, 1) := by decide +kernel
theorem dX7_power_0 : decode cX7_power 0 = .ok (.iconst 1, 1) := by decide +kernel
theorem dX7_power_1 : decode cX7_power 1 = .ok (.istore_n 2, 1) := by decide +kernel
theorem dX7_power_2 : decode cX7_power 2 = .ok (.iconst 0, 1) := by decide +kernel
theorem dX7_power_3 : decode cX7_power 3 = .ok (.istore_n 3, 1) := by decide +kernel
theorem dX7_power_4 : decode cX7_power 4 = .ok (.iload_n 3, 1) := by decide +kernel
theorem dX7_power_5 : decode cX7_power 5 = .ok (.iload_n 1, 1) := by decide +kernel
theorem dX7_power_6 : decode cX7_power 6 = .ok (.if_icmp .ge 13, 3) := by decide +kernel
theorem dX7_power_9 : decode cX7_power 9 = .ok (.iload_n 2, 1) := by decide +kernel
theorem dX7_power_10 : decode cX7_power 10 = .ok (.iload_n 0, 1) := by decide +kernel
theorem dX7_power_11 : decode cX7_power 11 = .ok (.imul, 1) := by decide +kernel
theorem dX7_power_12 : decode cX7_power 12 = .ok (.istore_n 2, 1) := by decide +kernel
theorem dX7_power_13 : decode cX7_power 13 = .ok (.iinc 3 1, 3) := by decide +kernel
theorem dX7_power_16 : decode cX7_power 16 = .ok (.goto (-12), 3) := by decide +kernel
theorem dX7_power_19 : decode cX7_power 19 = .ok (.iload_n 2, 1) := by decide +kernel
theorem dX7_power_20 : decode cX7_power 20 = .ok (.ireturn, 1) := by decide +kernel
theorem dX7_ripened_0 : decode cX7_ripened 0 = .ok (.iload_n 1, 1) := by decide +kernel
theorem dX7_ripened_1 : decode cX7_ripened 1 = .ok (.tableswitch 52 0 2 #[27, 36, 44], 27) := by decide +kernel
theorem dX7_ripened_28 : decode cX7_ripened 28 = .ok (.iload_n 0, 1) := by decide +kernel
theorem dX7_ripened_29 : decode cX7_ripened 29 = .ok (.iconst 1, 1) := by decide +kernel
theorem dX7_ripened_30 : decode cX7_ripened 30 = .ok (.iadd, 1) := by decide +kernel
theorem dX7_ripened_31 : decode cX7_ripened 31 = .ok (.bipush 9, 2) := by decide +kernel
theorem dX7_ripened_33 : decode cX7_ripened 33 = .ok (.invokestatic 297, 3) := by decide +kernel
theorem dX7_ripened_36 : decode cX7_ripened 36 = .ok (.ireturn, 1) := by decide +kernel
theorem dX7_ripened_37 : decode cX7_ripened 37 = .ok (.iload_n 0, 1) := by decide +kernel
theorem dX7_ripened_38 : decode cX7_ripened 38 = .ok (.iconst 1, 1) := by decide +kernel
theorem dX7_ripened_39 : decode cX7_ripened 39 = .ok (.isub, 1) := by decide +kernel
theorem dX7_ripened_40 : decode cX7_ripened 40 = .ok (.iconst 0, 1) := by decide +kernel
theorem dX7_ripened_41 : decode cX7_ripened 41 = .ok (.invokestatic 300, 3) := by decide +kernel
theorem dX7_ripened_44 : decode cX7_ripened 44 = .ok (.ireturn, 1) := by decide +kernel
theorem dX7_ripened_45 : decode cX7_ripened 45 = .ok (.iload_n 0, 1) := by decide +kernel
theorem dX7_ripened_46 : decode cX7_ripened 46 = .ok (.iconst 5, 1) := by decide +kernel
theorem dX7_ripened_47 : decode cX7_ripened 47 = .ok (.iload_n 0, 1) := by decide +kernel
theorem dX7_ripened_48 : decode cX7_ripened 48 = .ok (.invokestatic 303, 3) := by decide +kernel
theorem dX7_ripened_51 : decode cX7_ripened 51 = .ok (.iadd, 1) := by decide +kernel
theorem dX7_ripened_52 : decode cX7_ripened 52 = .ok (.ireturn, 1) := by decide +kernel
theorem dX7_ripened_53 : decode cX7_ripened 53 = .ok (.iload_n 0, 1) := by decide +kernel
theorem dX7_ripened_54 : decode cX7_ripened 54 = .ok (.ireturn, 1) := by decide +kernel
theorem dX8_init_0 : decode cX8_init 0 = .ok (.aload_n 0, 1) := by decide +kernel
theorem dX8_init_1 : decode cX8_init 1 = .ok (.invokespecial 1, 3) := by decide +kernel
theorem dX8_init_4 : decode cX8_init 4 = .ok (.aload_n 0, 1) := by decide +kernel
theorem dX8_init_5 : decode cX8_init 5 = .ok (.bipush 48, 2) := by decide +kernel
theorem dX8_init_7 : decode cX8_init 7 = .ok (.newarray .int, 2) := by decide +kernel
theorem dX8_init_9 : decode cX8_init 9 = .ok (.putfield 7, 3) := by decide +kernel
theorem dX8_init_12 : decode cX8_init 12 = .ok (.aload_n 0, 1) := by decide +kernel
theorem dX8_init_13 : decode cX8_init 13 = .ok (.bipush 6, 2) := by decide +kernel
theorem dX8_init_15 : decode cX8_init 15 = .ok (.newarray .int, 2) := by decide +kernel
theorem dX8_init_17 : decode cX8_init 17 = .ok (.putfield 13, 3) := by decide +kernel
theorem dX8_init_20 : decode cX8_init 20 = .ok (.aload_n 0, 1) := by decide +kernel
theorem dX8_init_21 : decode cX8_init 21 = .ok (.bipush 6, 2) := by decide +kernel
theorem dX8_init_23 : decode cX8_init 23 = .ok (.newarray .int, 2) := by decide +kernel
theorem dX8_init_25 : decode cX8_init 25 = .ok (.putfield 16, 3) := by decide +kernel
theorem dX8_init_28 : decode cX8_init 28 = .ok (.aload_n 0, 1) := by decide +kernel
theorem dX8_init_29 : decode cX8_init 29 = .ok (.bipush 30, 2) := by decide +kernel
theorem dX8_init_31 : decode cX8_init 31 = .ok (.newarray .int, 2) := by decide +kernel
theorem dX8_init_33 : decode cX8_init 33 = .ok (.putfield 19, 3) := by decide +kernel
theorem dX8_init_36 : decode cX8_init 36 = .ok (.aload_n 0, 1) := by decide +kernel
theorem dX8_init_37 : decode cX8_init 37 = .ok (.bipush 37, 2) := by decide +kernel
theorem dX8_init_39 : decode cX8_init 39 = .ok (.newarray .int, 2) := by decide +kernel
theorem dX8_init_41 : decode cX8_init 41 = .ok (.putfield 22, 3) := by decide +kernel
theorem dX8_init_44 : decode cX8_init 44 = .ok (.aload_n 0, 1) := by decide +kernel
theorem dX8_init_45 : decode cX8_init 45 = .ok (.bipush 37, 2) := by decide +kernel
theorem dX8_init_47 : decode cX8_init 47 = .ok (.newarray .int, 2) := by decide +kernel
theorem dX8_init_49 : decode cX8_init 49 = .ok (.putfield 25, 3) := by decide +kernel
theorem dX8_init_52 : decode cX8_init 52 = .ok (.aload_n 0, 1) := by decide +kernel
theorem dX8_init_53 : decode cX8_init 53 = .ok (.sipush 518, 3) := by decide +kernel
theorem dX8_init_56 : decode cX8_init 56 = .ok (.newarray .int, 2) := by decide +kernel
theorem dX8_init_58 : decode cX8_init 58 = .ok (.putfield 28, 3) := by decide +kernel
theorem dX8_init_61 : decode cX8_init 61 = .ok (.aload_n 0, 1) := by decide +kernel
theorem dX8_init_62 : decode cX8_init 62 = .ok (.bipush 74, 2) := by decide +kernel
theorem dX8_init_64 : decode cX8_init 64 = .ok (.newarray .int, 2) := by decide +kernel
theorem dX8_init_66 : decode cX8_init 66 = .ok (.putfield 31, 3) := by decide +kernel
theorem dX8_init_69 : decode cX8_init 69 = .ok (.aload_n 0, 1) := by decide +kernel
theorem dX8_init_70 : decode cX8_init 70 = .ok (.iconst 2, 1) := by decide +kernel
theorem dX8_init_71 : decode cX8_init 71 = .ok (.newarray .boolean, 2) := by decide +kernel
theorem dX8_init_73 : decode cX8_init 73 = .ok (.putfield 34, 3) := by decide +kernel
theorem dX8_init_76 : decode cX8_init 76 = .ok (.aload_n 0, 1) := by decide +kernel
theorem dX8_init_77 : decode cX8_init 77 = .ok (.bipush 6, 2) := by decide +kernel
theorem dX8_init_79 : decode cX8_init 79 = .ok (.newarray .int, 2) := by decide +kernel
theorem dX8_init_81 : decode cX8_init 81 = .ok (.putfield 38, 3) := by decide +kernel
theorem dX8_init_84 : decode cX8_init 84 = .ok (.aload_n 0, 1) := by decide +kernel
theorem dX8_init_85 : decode cX8_init 85 = .ok (.bipush 6, 2) := by decide +kernel
theorem dX8_init_87 : decode cX8_init 87 = .ok (.newarray .int, 2) := by decide +kernel
theorem dX8_init_89 : decode cX8_init 89 = .ok (.putfield 41, 3) := by decide +kernel
theorem dX8_init_92 : decode cX8_init 92 = .ok (.aload_n 0, 1) := by decide +kernel
theorem dX8_init_93 : decode cX8_init 93 = .ok (.bipush 6, 2) := by decide +kernel
theorem dX8_init_95 : decode cX8_init 95 = .ok (.newarray .int, 2) := by decide +kernel
theorem dX8_init_97 : decode cX8_init 97 = .ok (.putfield 44, 3) := by decide +kernel
theorem dX8_init_100 : decode cX8_init 100 = .ok (.aload_n 0, 1) := by decide +kernel
theorem dX8_init_101 : decode cX8_init 101 = .ok (.bipush 6, 2) := by decide +kernel
theorem dX8_init_103 : decode cX8_init 103 = .ok (.newarray .int, 2) := by decide +kernel
theorem dX8_init_105 : decode cX8_init 105 = .ok (.putfield 47, 3) := by decide +kernel
theorem dX8_init_108 : decode cX8_init 108 = .ok (.aload_n 0, 1) := by decide +kernel
theorem dX8_init_109 : decode cX8_init 109 = .ok (.bipush 32, 2) := by decide +kernel
theorem dX8_init_111 : decode cX8_init 111 = .ok (.newarray .int, 2) := by decide +kernel
theorem dX8_init_113 : decode cX8_init 113 = .ok (.putfield 50, 3) := by decide +kernel
theorem dX8_init_116 : decode cX8_init 116 = .ok (.aload_n 0, 1) := by decide +kernel
theorem dX8_init_117 : decode cX8_init 117 = .ok (.bipush 64, 2) := by decide +kernel
theorem dX8_init_119 : decode cX8_init 119 = .ok (.newarray .int, 2) := by decide +kernel
theorem dX8_init_121 : decode cX8_init 121 = .ok (.putfield 53, 3) := by decide +kernel
theorem dX8_init_124 : decode cX8_init 124 = .ok (.return_, 1) := by decide +kernel
theorem dX8_in_0 : decode cX8_in 0 = .ok (.lload_n 0, 1) := by decide +kernel
theorem dX8_in_1 : decode cX8_in 1 = .ok (.lload_n 2, 1) := by decide +kernel
theorem dX8_in_2 : decode cX8_in 2 = .ok (.lcmp, 1) := by decide +kernel
theorem dX8_in_3 : decode cX8_in 3 = .ok (.ifCond .lt 14, 3) := by decide +kernel
theorem dX8_in_6 : decode cX8_in 6 = .ok (.lload_n 0, 1) := by decide +kernel
theorem dX8_in_7 : decode cX8_in 7 = .ok (.lload 4, 2) := by decide +kernel
theorem dX8_in_9 : decode cX8_in 9 = .ok (.lcmp, 1) := by decide +kernel
theorem dX8_in_10 : decode cX8_in 10 = .ok (.ifCond .gt 7, 3) := by decide +kernel
theorem dX8_in_13 : decode cX8_in 13 = .ok (.iconst 1, 1) := by decide +kernel
theorem dX8_in_14 : decode cX8_in 14 = .ok (.goto 4, 3) := by decide +kernel
theorem dX8_in_17 : decode cX8_in 17 = .ok (.iconst 0, 1) := by decide +kernel
theorem dX8_in_18 : decode cX8_in 18 = .ok (.ireturn, 1) := by decide +kernel
theorem dX8_has_0 : decode cX8_has 0 = .ok (.iload_n 0, 1) := by decide +kernel
theorem dX8_has_1 : decode cX8_has 1 = .ok (.iload_n 1, 1) := by decide +kernel
theorem dX8_has_2 : decode cX8_has 2 = .ok (.ishr, 1) := by decide +kernel
theorem dX8_has_3 : decode cX8_has 3 = .ok (.iconst 1, 1) := by decide +kernel
theorem dX8_has_4 : decode cX8_has 4 = .ok (.iand, 1) := by decide +kernel
theorem dX8_has_5 : decode cX8_has 5 = .ok (.iconst 1, 1) := by decide +kernel
theorem dX8_has_6 : decode cX8_has 6 = .ok (.if_icmp .ne 7, 3) := by decide +kernel
theorem dX8_has_9 : decode cX8_has 9 = .ok (.iconst 1, 1) := by decide +kernel
theorem dX8_has_10 : decode cX8_has 10 = .ok (.goto 4, 3) := by decide +kernel
theorem dX8_has_13 : decode cX8_has 13 = .ok (.iconst 0, 1) := by decide +kernel
theorem dX8_has_14 : decode cX8_has 14 = .ok (.ireturn, 1) := by decide +kernel
theorem dX8_many_0 : decode cX8_many 0 = .ok (.iconst 0, 1) := by decide +kernel
theorem dX8_many_1 : decode cX8_many 1 = .ok (.istore_n 1, 1) := by decide +kernel
theorem dX8_many_2 : decode cX8_many 2 = .ok (.iconst 0, 1) := by decide +kernel
theorem dX8_many_3 : decode cX8_many 3 = .ok (.istore_n 2, 1) := by decide +kernel
theorem dX8_many_4 : decode cX8_many 4 = .ok (.iload_n 2, 1) := by decide +kernel
theorem dX8_many_5 : decode cX8_many 5 = .ok (.bipush 8, 2) := by decide +kernel
theorem dX8_many_7 : decode cX8_many 7 = .ok (.if_icmp .ge 17, 3) := by decide +kernel
theorem dX8_many_10 : decode cX8_many 10 = .ok (.iload_n 1, 1) := by decide +kernel
theorem dX8_many_11 : decode cX8_many 11 = .ok (.iload_n 0, 1) := by decide +kernel
theorem dX8_many_12 : decode cX8_many 12 = .ok (.iload_n 2, 1) := by decide +kernel
theorem dX8_many_13 : decode cX8_many 13 = .ok (.ishr, 1) := by decide +kernel
theorem dX8_many_14 : decode cX8_many 14 = .ok (.iconst 1, 1) := by decide +kernel
theorem dX8_many_15 : decode cX8_many 15 = .ok (.iand, 1) := by decide +kernel
theorem dX8_many_16 : decode cX8_many 16 = .ok (.iadd, 1) := by decide +kernel
theorem dX8_many_17 : decode cX8_many 17 = .ok (.istore_n 1, 1) := by decide +kernel
theorem dX8_many_18 : decode cX8_many 18 = .ok (.iinc 2 1, 3) := by decide +kernel
theorem dX8_many_21 : decode cX8_many 21 = .ok (.goto (-17), 3) := by decide +kernel
theorem dX8_many_24 : decode cX8_many 24 = .ok (.iload_n 1, 1) := by decide +kernel
theorem dX8_many_25 : decode cX8_many 25 = .ok (.ireturn, 1) := by decide +kernel
theorem dX8_power_0 : decode cX8_power 0 = .ok (.iconst 1, 1) := by decide +kernel
theorem dX8_power_1 : decode cX8_power 1 = .ok (.istore_n 2, 1) := by decide +kernel
theorem dX8_power_2 : decode cX8_power 2 = .ok (.iconst 0, 1) := by decide +kernel
theorem dX8_power_3 : decode cX8_power 3 = .ok (.istore_n 3, 1) := by decide +kernel
theorem dX8_power_4 : decode cX8_power 4 = .ok (.iload_n 3, 1) := by decide +kernel
theorem dX8_power_5 : decode cX8_power 5 = .ok (.iload_n 1, 1) := by decide +kernel
theorem dX8_power_6 : decode cX8_power 6 = .ok (.if_icmp .ge 13, 3) := by decide +kernel
theorem dX8_power_9 : decode cX8_power 9 = .ok (.iload_n 2, 1) := by decide +kernel
theorem dX8_power_10 : decode cX8_power 10 = .ok (.iload_n 0, 1) := by decide +kernel
theorem dX8_power_11 : decode cX8_power 11 = .ok (.imul, 1) := by decide +kernel
theorem dX8_power_12 : decode cX8_power 12 = .ok (.istore_n 2, 1) := by decide +kernel
theorem dX8_power_13 : decode cX8_power 13 = .ok (.iinc 3 1, 3) := by decide +kernel
theorem dX8_power_16 : decode cX8_power 16 = .ok (.goto (-12), 3) := by decide +kernel
theorem dX8_power_19 : decode cX8_power 19 = .ok (.iload_n 2, 1) := by decide +kernel
theorem dX8_power_20 : decode cX8_power 20 = .ok (.ireturn, 1) := by decide +kernel
theorem dX8_noJar_0 : decode cX8_noJar 0 = .ok (.iload_n 1, 1) := by decide +kernel
theorem dX8_noJar_1 : decode cX8_noJar 1 = .ok (.i2l, 1) := by decide +kernel
theorem dX8_noJar_2 : decode cX8_noJar 2 = .ok (.lconst 0, 1) := by decide +kernel
theorem dX8_noJar_3 : decode cX8_noJar 3 = .ok (.aload_n 0, 1) := by decide +kernel
theorem dX8_noJar_4 : decode cX8_noJar 4 = .ok (.getfield 60, 3) := by decide +kernel
theorem dX8_noJar_7 : decode cX8_noJar 7 = .ok (.iconst 1, 1) := by decide +kernel
theorem dX8_noJar_8 : decode cX8_noJar 8 = .ok (.isub, 1) := by decide +kernel
theorem dX8_noJar_9 : decode cX8_noJar 9 = .ok (.i2l, 1) := by decide +kernel
theorem dX8_noJar_10 : decode cX8_noJar 10 = .ok (.invokestatic 63, 3) := by decide +kernel
theorem dX8_noJar_13 : decode cX8_noJar 13 = .ok (.ifCond .ne 7, 3) := by decide +kernel
theorem dX8_noJar_16 : decode cX8_noJar 16 = .ok (.iconst 1, 1) := by decide +kernel
theorem dX8_noJar_17 : decode cX8_noJar 17 = .ok (.goto 4, 3) := by decide +kernel
theorem dX8_noJar_20 : decode cX8_noJar 20 = .ok (.iconst 0, 1) := by decide +kernel
theorem dX8_noJar_21 : decode cX8_noJar 21 = .ok (.ireturn, 1) := by decide +kernel
theorem dX8_write_0 : decode cX8_write 0 = .ok (.aload_n 0, 1) := by decide +kernel
theorem dX8_write_1 : decode cX8_write 1 = .ok (.iconst 0, 1) := by decide +kernel
theorem dX8_write_2 : decode cX8_write 2 = .ok (.putfield 56, 3) := by decide +kernel
theorem dX8_write_5 : decode cX8_write 5 = .ok (.iload_n 1, 1) := by decide +kernel
theorem dX8_write_6 : decode cX8_write 6 = .ok (.i2l, 1) := by decide +kernel
theorem dX8_write_7 : decode cX8_write 7 = .ok (.lconst 0, 1) := by decide +kernel
theorem dX8_write_8 : decode cX8_write 8 = .ok (.ldc2_w 67, 3) := by decide +kernel
theorem dX8_write_11 : decode cX8_write 11 = .ok (.invokestatic 63, 3) := by decide +kernel
theorem dX8_write_14 : decode cX8_write 14 = .ok (.ifCond .ne 6, 3) := by decide +kernel
theorem dX8_write_17 : decode cX8_write 17 = .ok (.bipush (-2), 2) := by decide +kernel
theorem dX8_write_19 : decode cX8_write 19 = .ok (.ireturn, 1) := by decide +kernel
theorem dX8_write_20 : decode cX8_write 20 = .ok (.aload_n 0, 1) := by decide +kernel
theorem dX8_write_21 : decode cX8_write 21 = .ok (.getfield 69, 3) := by decide +kernel
theorem dX8_write_24 : decode cX8_write 24 = .ok (.bipush 48, 2) := by decide +kernel
theorem dX8_write_26 : decode cX8_write 26 = .ok (.if_icmp .ne 6, 3) := by decide +kernel
theorem dX8_write_29 : decode cX8_write 29 = .ok (.bipush (-4), 2) := by decide +kernel
theorem dX8_write_31 : decode cX8_write 31 = .ok (.ireturn, 1) := by decide +kernel
theorem dX8_write_32 : decode cX8_write 32 = .ok (.aload_n 0, 1) := by decide +kernel
theorem dX8_write_33 : decode cX8_write 33 = .ok (.getfield 7, 3) := by decide +kernel
theorem dX8_write_36 : decode cX8_write 36 = .ok (.aload_n 0, 1) := by decide +kernel
theorem dX8_write_37 : decode cX8_write 37 = .ok (.getfield 69, 3) := by decide +kernel
theorem dX8_write_40 : decode cX8_write 40 = .ok (.iload_n 1, 1) := by decide +kernel
theorem dX8_write_41 : decode cX8_write 41 = .ok (.iastore, 1) := by decide +kernel
theorem dX8_write_42 : decode cX8_write 42 = .ok (.aload_n 0, 1) := by decide +kernel
theorem dX8_write_43 : decode cX8_write 43 = .ok (.dup, 1) := by decide +kernel
theorem dX8_write_44 : decode cX8_write 44 = .ok (.getfield 69, 3) := by decide +kernel
theorem dX8_write_47 : decode cX8_write 47 = .ok (.iconst 1, 1) := by decide +kernel
theorem dX8_write_48 : decode cX8_write 48 = .ok (.iadd, 1) := by decide +kernel
theorem dX8_write_49 : decode cX8_write 49 = .ok (.putfield 69, 3) := by decide +kernel
theorem dX8_write_52 : decode cX8_write 52 = .ok (.aload_n 0, 1) := by decide +kernel
theorem dX8_write_53 : decode cX8_write 53 = .ok (.getfield 69, 3) := by decide +kernel
theorem dX8_write_56 : decode cX8_write 56 = .ok (.ireturn, 1) := by decide +kernel
theorem dX8_wipe_0 : decode cX8_wipe 0 = .ok (.aload_n 0, 1) := by decide +kernel
theorem dX8_wipe_1 : decode cX8_wipe 1 = .ok (.iconst 0, 1) := by decide +kernel
theorem dX8_wipe_2 : decode cX8_wipe 2 = .ok (.putfield 56, 3) := by decide +kernel
theorem dX8_wipe_5 : decode cX8_wipe 5 = .ok (.aload_n 0, 1) := by decide +kernel
theorem dX8_wipe_6 : decode cX8_wipe 6 = .ok (.getfield 69, 3) := by decide +kernel
theorem dX8_wipe_9 : decode cX8_wipe 9 = .ok (.istore_n 1, 1) := by decide +kernel
theorem dX8_wipe_10 : decode cX8_wipe 10 = .ok (.aload_n 0, 1) := by decide +kernel
theorem dX8_wipe_11 : decode cX8_wipe 11 = .ok (.iconst 0, 1) := by decide +kernel
theorem dX8_wipe_12 : decode cX8_wipe 12 = .ok (.putfield 69, 3) := by decide +kernel
theorem dX8_wipe_15 : decode cX8_wipe 15 = .ok (.iload_n 1, 1) := by decide +kernel
theorem dX8_wipe_16 : decode cX8_wipe 16 = .ok (.ireturn, 1) := by decide +kernel
theorem dX8_figure_0 : decode cX8_figure 0 = .ok (.aload_n 0, 1) := by decide +kernel
theorem dX8_figure_1 : decode cX8_figure 1 = .ok (.getfield 72, 3) := by decide +kernel
theorem dX8_figure_4 : decode cX8_figure 4 = .ok (.aload_n 0, 1) := by decide +kernel
theorem dX8_figure_5 : decode cX8_figure 5 = .ok (.getfield 69, 3) := by decide +kernel
theorem dX8_figure_8 : decode cX8_figure 8 = .ok (.if_icmp .eq 26, 3) := by decide +kernel
theorem dX8_figure_11 : decode cX8_figure 11 = .ok (.aload_n 0, 1) := by decide +kernel
theorem dX8_figure_12 : decode cX8_figure 12 = .ok (.getfield 7, 3) := by decide +kernel
theorem dX8_figure_15 : decode cX8_figure 15 = .ok (.aload_n 0, 1) := by decide +kernel
theorem dX8_figure_16 : decode cX8_figure 16 = .ok (.getfield 72, 3) := by decide +kernel
theorem dX8_figure_19 : decode cX8_figure 19 = .ok (.iaload, 1) := by decide +kernel
theorem dX8_figure_20 : decode cX8_figure 20 = .ok (.bipush 48, 2) := by decide +kernel
theorem dX8_figure_22 : decode cX8_figure 22 = .ok (.isub, 1) := by decide +kernel
theorem dX8_figure_23 : decode cX8_figure 23 = .ok (.i2l, 1) := by decide +kernel
theorem dX8_figure_24 : decode cX8_figure 24 = .ok (.iload_n 1, 1) := by decide +kernel
theorem dX8_figure_25 : decode cX8_figure 25 = .ok (.i2l, 1) := by decide +kernel
theorem dX8_figure_26 : decode cX8_figure 26 = .ok (.iload_n 2, 1) := by decide +kernel
theorem dX8_figure_27 : decode cX8_figure 27 = .ok (.i2l, 1) := by decide +kernel
theorem dX8_figure_28 : decode cX8_figure 28 = .ok (.invokestatic 63, 3) := by decide +kernel
theorem dX8_figure_31 : decode cX8_figure 31 = .ok (.ifCond .ne 6, 3) := by decide +kernel
theorem dX8_figure_34 : decode cX8_figure 34 = .ok (.bipush (-9), 2) := by decide +kernel
theorem dX8_figure_36 : decode cX8_figure 36 = .ok (.ireturn, 1) := by decide +kernel
theorem dX8_figure_37 : decode cX8_figure 37 = .ok (.aload_n 0, 1) := by decide +kernel
theorem dX8_figure_38 : decode cX8_figure 38 = .ok (.dup, 1) := by decide +kernel
theorem dX8_figure_39 : decode cX8_figure 39 = .ok (.getfield 72, 3) := by decide +kernel
theorem dX8_figure_42 : decode cX8_figure 42 = .ok (.iconst 1, 1) := by decide +kernel
theorem dX8_figure_43 : decode cX8_figure 43 = .ok (.iadd, 1) := by decide +kernel
theorem dX8_figure_44 : decode cX8_figure 44 = .ok (.putfield 72, 3) := by decide +kernel
theorem dX8_figure_47 : decode cX8_figure 47 = .ok (.aload_n 0, 1) := by decide +kernel
theorem dX8_figure_48 : decode cX8_figure 48 = .ok (.getfield 7, 3) := by decide +kernel
theorem dX8_figure_51 : decode cX8_figure 51 = .ok (.aload_n 0, 1) := by decide +kernel
theorem dX8_figure_52 : decode cX8_figure 52 = .ok (.getfield 72, 3) := by decide +kernel
theorem dX8_figure_55 : decode cX8_figure 55 = .ok (.iconst 1, 1) := by decide +kernel
theorem dX8_figure_56 : decode cX8_figure 56 = .ok (.isub, 1) := by decide +kernel
theorem dX8_figure_57 : decode cX8_figure 57 = .ok (.iaload, 1) := by decide +kernel
theorem dX8_figure_58 : decode cX8_figure 58 = .ok (.bipush 48, 2) := by decide +kernel
theorem dX8_figure_60 : decode cX8_figure 60 = .ok (.isub, 1) := by decide +kernel
theorem dX8_figure_61 : decode cX8_figure 61 = .ok (.ireturn, 1) := by decide +kernel
theorem dX8_readOneJar_0 : decode cX8_readOneJar 0 = .ok (.aload_n 0, 1) := by decide +kernel
theorem dX8_readOneJar_1 : decode cX8_readOneJar 1 = .ok (.getfield 7, 3) := by decide +kernel
theorem dX8_readOneJar_4 : decode cX8_readOneJar 4 = .ok (.aload_n 0, 1) := by decide +kernel
theorem dX8_readOneJar_5 : decode cX8_readOneJar 5 = .ok (.getfield 72, 3) := by decide +kernel
theorem dX8_readOneJar_8 : decode cX8_readOneJar 8 = .ok (.iaload, 1) := by decide +kernel
theorem dX8_readOneJar_9 : decode cX8_readOneJar 9 = .ok (.bipush 74, 2) := by decide +kernel
theorem dX8_readOneJar_11 : decode cX8_readOneJar 11 = .ok (.if_icmp .ne 12, 3) := by decide +kernel
theorem dX8_readOneJar_14 : decode cX8_readOneJar 14 = .ok (.aload_n 0, 1) := by decide +kernel
theorem dX8_readOneJar_15 : decode cX8_readOneJar 15 = .ok (.getfield 75, 3) := by decide +kernel
theorem dX8_readOneJar_18 : decode cX8_readOneJar 18 = .ok (.bipush 6, 2) := by decide +kernel
theorem dX8_readOneJar_20 : decode cX8_readOneJar 20 = .ok (.if_icmp .ne 5, 3) := by decide +kernel
theorem dX8_readOneJar_23 : decode cX8_readOneJar 23 = .ok (.iconst 0, 1) := by decide +kernel
theorem dX8_readOneJar_24 : decode cX8_readOneJar 24 = .ok (.ireturn, 1) := by decide +kernel
theorem dX8_readOneJar_25 : decode cX8_readOneJar 25 = .ok (.aload_n 0, 1) := by decide +kernel
theorem dX8_readOneJar_26 : decode cX8_readOneJar 26 = .ok (.dup, 1) := by decide +kernel
theorem dX8_readOneJar_27 : decode cX8_readOneJar 27 = .ok (.getfield 72, 3) := by decide +kernel
theorem dX8_readOneJar_30 : decode cX8_readOneJar 30 = .ok (.iconst 1, 1) := by decide +kernel
theorem dX8_readOneJar_31 : decode cX8_readOneJar 31 = .ok (.iadd, 1) := by decide +kernel
theorem dX8_readOneJar_32 : decode cX8_readOneJar 32 = .ok (.putfield 72, 3) := by decide +kernel
theorem dX8_readOneJar_35 : decode cX8_readOneJar 35 = .ok (.aload_n 0, 1) := by decide +kernel
theorem dX8_readOneJar_36 : decode cX8_readOneJar 36 = .ok (.getfield 72, 3) := by decide +kernel
theorem dX8_readOneJar_39 : decode cX8_readOneJar 39 = .ok (.aload_n 0, 1) := by decide +kernel
theorem dX8_readOneJar_40 : decode cX8_readOneJar 40 = .ok (.getfield 69, 3) := by decide +kernel
theorem dX8_readOneJar_43 : decode cX8_readOneJar 43 = .ok (.if_icmp .ge 18, 3) := by decide +kernel
theorem dX8_readOneJar_46 : decode cX8_readOneJar 46 = .ok (.aload_n 0, 1) := by decide +kernel
theorem dX8_readOneJar_47 : decode cX8_readOneJar 47 = .ok (.getfield 7, 3) := by decide +kernel
theorem dX8_readOneJar_50 : decode cX8_readOneJar 50 = .ok (.aload_n 0, 1) := by decide +kernel
theorem dX8_readOneJar_51 : decode cX8_readOneJar 51 = .ok (.getfield 72, 3) := by decide +kernel
theorem dX8_readOneJar_54 : decode cX8_readOneJar 54 = .ok (.iaload, 1) := by decide +kernel
theorem dX8_readOneJar_55 : decode cX8_readOneJar 55 = .ok (.bipush 48, 2) := by decide +kernel
theorem dX8_readOneJar_57 : decode cX8_readOneJar 57 = .ok (.isub, 1) := by decide +kernel
theorem dX8_readOneJar_58 : decode cX8_readOneJar 58 = .ok (.goto 5, 3) := by decide +kernel
theorem dX8_readOneJar_61 : decode cX8_readOneJar 61 = .ok (.bipush (-9), 2) := by decide +kernel
theorem dX8_readOneJar_63 : decode cX8_readOneJar 63 = .ok (.istore_n 1, 1) := by decide +kernel
theorem dX8_readOneJar_64 : decode cX8_readOneJar 64 = .ok (.iload_n 1, 1) := by decide +kernel
theorem dX8_readOneJar_65 : decode cX8_readOneJar 65 = .ok (.i2l, 1) := by decide +kernel
theorem dX8_readOneJar_66 : decode cX8_readOneJar 66 = .ok (.lconst 0, 1) := by decide +kernel
theorem dX8_readOneJar_67 : decode cX8_readOneJar 67 = .ok (.ldc2_w 78, 3) := by decide +kernel
theorem dX8_readOneJar_70 : decode cX8_readOneJar 70 = .ok (.invokestatic 63, 3) := by decide +kernel
theorem dX8_readOneJar_73 : decode cX8_readOneJar 73 = .ok (.ifCond .eq 14, 3) := by decide +kernel
theorem dX8_readOneJar_76 : decode cX8_readOneJar 76 = .ok (.aload_n 0, 1) := by decide +kernel
theorem dX8_readOneJar_77 : decode cX8_readOneJar 77 = .ok (.getfield 80, 3) := by decide +kernel
theorem dX8_readOneJar_80 : decode cX8_readOneJar 80 = .ok (.iload_n 1, 1) := by decide +kernel
theorem dX8_readOneJar_81 : decode cX8_readOneJar 81 = .ok (.invokestatic 83, 3) := by decide +kernel
theorem dX8_readOneJar_84 : decode cX8_readOneJar 84 = .ok (.ifCond .eq 5, 3) := by decide +kernel
theorem dX8_readOneJar_87 : decode cX8_readOneJar 87 = .ok (.iconst 0, 1) := by decide +kernel
theorem dX8_readOneJar_88 : decode cX8_readOneJar 88 = .ok (.ireturn, 1) := by decide +kernel
theorem dX8_readOneJar_89 : decode cX8_readOneJar 89 = .ok (.aload_n 0, 1) := by decide +kernel
theorem dX8_readOneJar_90 : decode cX8_readOneJar 90 = .ok (.dup, 1) := by decide +kernel
theorem dX8_readOneJar_91 : decode cX8_readOneJar 91 = .ok (.getfield 72, 3) := by decide +kernel
theorem dX8_readOneJar_94 : decode cX8_readOneJar 94 = .ok (.iconst 1, 1) := by decide +kernel
theorem dX8_readOneJar_95 : decode cX8_readOneJar 95 = .ok (.iadd, 1) := by decide +kernel
theorem dX8_readOneJar_96 : decode cX8_readOneJar 96 = .ok (.putfield 72, 3) := by decide +kernel
theorem dX8_readOneJar_99 : decode cX8_readOneJar 99 = .ok (.aload_n 0, 1) := by decide +kernel
theorem dX8_readOneJar_100 : decode cX8_readOneJar 100 = .ok (.iconst 0, 1) := by decide +kernel
theorem dX8_readOneJar_101 : decode cX8_readOneJar 101 = .ok (.bipush 9, 2) := by decide +kernel
theorem dX8_readOneJar_103 : decode cX8_readOneJar 103 = .ok (.invokevirtual 87, 3) := by decide +kernel
theorem dX8_readOneJar_106 : decode cX8_readOneJar 106 = .ok (.istore_n 2, 1) := by decide +kernel
theorem dX8_readOneJar_107 : decode cX8_readOneJar 107 = .ok (.iload_n 2, 1) := by decide +kernel
theorem dX8_readOneJar_108 : decode cX8_readOneJar 108 = .ok (.bipush (-9), 2) := by decide +kernel
theorem dX8_readOneJar_110 : decode cX8_readOneJar 110 = .ok (.if_icmp .ne 8, 3) := by decide +kernel
theorem dX8_readOneJar_113 : decode cX8_readOneJar 113 = .ok (.bipush (-9), 2) := by decide +kernel
theorem dX8_readOneJar_115 : decode cX8_readOneJar 115 = .ok (.goto 9, 3) := by decide +kernel
theorem dX8_readOneJar_118 : decode cX8_readOneJar 118 = .ok (.aload_n 0, 1) := by decide +kernel
theorem dX8_readOneJar_119 : decode cX8_readOneJar 119 = .ok (.iconst 0, 1) := by decide +kernel
theorem dX8_readOneJar_120 : decode cX8_readOneJar 120 = .ok (.iconst 3, 1) := by decide +kernel
theorem dX8_readOneJar_121 : decode cX8_readOneJar 121 = .ok (.invokevirtual 87, 3) := by decide +kernel
theorem dX8_readOneJar_124 : decode cX8_readOneJar 124 = .ok (.istore_n 3, 1) := by decide +kernel
theorem dX8_readOneJar_125 : decode cX8_readOneJar 125 = .ok (.iload_n 3, 1) := by decide +kernel
theorem dX8_readOneJar_126 : decode cX8_readOneJar 126 = .ok (.bipush (-9), 2) := by decide +kernel
theorem dX8_readOneJar_128 : decode cX8_readOneJar 128 = .ok (.if_icmp .ne 8, 3) := by decide +kernel
theorem dX8_readOneJar_131 : decode cX8_readOneJar 131 = .ok (.bipush (-9), 2) := by decide +kernel
theorem dX8_readOneJar_133 : decode cX8_readOneJar 133 = .ok (.goto 9, 3) := by decide +kernel
theorem dX8_readOneJar_136 : decode cX8_readOneJar 136 = .ok (.aload_n 0, 1) := by decide +kernel
theorem dX8_readOneJar_137 : decode cX8_readOneJar 137 = .ok (.iconst 0, 1) := by decide +kernel
theorem dX8_readOneJar_138 : decode cX8_readOneJar 138 = .ok (.iconst 3, 1) := by decide +kernel
theorem dX8_readOneJar_139 : decode cX8_readOneJar 139 = .ok (.invokevirtual 87, 3) := by decide +kernel
theorem dX8_readOneJar_142 : decode cX8_readOneJar 142 = .ok (.istore 4, 2) := by decide +kernel
theorem dX8_readOneJar_144 : decode cX8_readOneJar 144 = .ok (.iload 4, 2) := by decide +kernel
theorem dX8_readOneJar_146 : decode cX8_readOneJar 146 = .ok (.bipush (-9), 2) := by decide +kernel
theorem dX8_readOneJar_148 : decode cX8_readOneJar 148 = .ok (.if_icmp .ne 8, 3) := by decide +kernel
theorem dX8_readOneJar_151 : decode cX8_readOneJar 151 = .ok (.bipush (-9), 2) := by decide +kernel
theorem dX8_readOneJar_153 : decode cX8_readOneJar 153 = .ok (.goto 10, 3) := by decide +kernel
theorem dX8_readOneJar_156 : decode cX8_readOneJar 156 = .ok (.aload_n 0, 1) := by decide +kernel
theorem dX8_readOneJar_157 : decode cX8_readOneJar 157 = .ok (.iconst 1, 1) := by decide +kernel
theorem dX8_readOneJar_158 : decode cX8_readOneJar 158 = .ok (.bipush 9, 2) := by decide +kernel
theorem dX8_readOneJar_160 : decode cX8_readOneJar 160 = .ok (.invokevirtual 87, 3) := by decide +kernel
theorem dX8_readOneJar_163 : decode cX8_readOneJar 163 = .ok (.istore 5, 2) := by decide +kernel
theorem dX8_readOneJar_165 : decode cX8_readOneJar 165 = .ok (.iload 5, 2) := by decide +kernel
theorem dX8_readOneJar_167 : decode cX8_readOneJar 167 = .ok (.bipush (-9), 2) := by decide +kernel
theorem dX8_readOneJar_169 : decode cX8_readOneJar 169 = .ok (.if_icmp .ne 5, 3) := by decide +kernel
theorem dX8_readOneJar_172 : decode cX8_readOneJar 172 = .ok (.iconst 0, 1) := by decide +kernel
theorem dX8_readOneJar_173 : decode cX8_readOneJar 173 = .ok (.ireturn, 1) := by decide +kernel
theorem dX8_readOneJar_174 : decode cX8_readOneJar 174 = .ok (.aload_n 0, 1) := by decide +kernel
theorem dX8_readOneJar_175 : decode cX8_readOneJar 175 = .ok (.dup, 1) := by decide +kernel
theorem dX8_readOneJar_176 : decode cX8_readOneJar 176 = .ok (.getfield 80, 3) := by decide +kernel
theorem dX8_readOneJar_179 : decode cX8_readOneJar 179 = .ok (.iconst 1, 1) := by decide +kernel
theorem dX8_readOneJar_180 : decode cX8_readOneJar 180 = .ok (.iload_n 1, 1) := by decide +kernel
theorem dX8_readOneJar_181 : decode cX8_readOneJar 181 = .ok (.ishl, 1) := by decide +kernel
theorem dX8_readOneJar_182 : decode cX8_readOneJar 182 = .ok (.ior, 1) := by decide +kernel
theorem dX8_readOneJar_183 : decode cX8_readOneJar 183 = .ok (.putfield 80, 3) := by decide +kernel
theorem dX8_readOneJar_186 : decode cX8_readOneJar 186 = .ok (.aload_n 0, 1) := by decide +kernel
theorem dX8_readOneJar_187 : decode cX8_readOneJar 187 = .ok (.getfield 19, 3) := by decide +kernel
theorem dX8_readOneJar_190 : decode cX8_readOneJar 190 = .ok (.iconst 5, 1) := by decide +kernel
theorem dX8_readOneJar_191 : decode cX8_readOneJar 191 = .ok (.aload_n 0, 1) := by decide +kernel
theorem dX8_readOneJar_192 : decode cX8_readOneJar 192 = .ok (.getfield 75, 3) := by decide +kernel
theorem dX8_readOneJar_195 : decode cX8_readOneJar 195 = .ok (.imul, 1) := by decide +kernel
theorem dX8_readOneJar_196 : decode cX8_readOneJar 196 = .ok (.iload_n 1, 1) := by decide +kernel
theorem dX8_readOneJar_197 : decode cX8_readOneJar 197 = .ok (.iastore, 1) := by decide +kernel
theorem dX8_readOneJar_198 : decode cX8_readOneJar 198 = .ok (.aload_n 0, 1) := by decide +kernel
theorem dX8_readOneJar_199 : decode cX8_readOneJar 199 = .ok (.getfield 19, 3) := by decide +kernel
theorem dX8_readOneJar_202 : decode cX8_readOneJar 202 = .ok (.iconst 5, 1) := by decide +kernel
theorem dX8_readOneJar_203 : decode cX8_readOneJar 203 = .ok (.aload_n 0, 1) := by decide +kernel
theorem dX8_readOneJar_204 : decode cX8_readOneJar 204 = .ok (.getfield 75, 3) := by decide +kernel
theorem dX8_readOneJar_207 : decode cX8_readOneJar 207 = .ok (.imul, 1) := by decide +kernel
theorem dX8_readOneJar_208 : decode cX8_readOneJar 208 = .ok (.iconst 1, 1) := by decide +kernel
theorem dX8_readOneJar_209 : decode cX8_readOneJar 209 = .ok (.iadd, 1) := by decide +kernel
theorem dX8_readOneJar_210 : decode cX8_readOneJar 210 = .ok (.iload_n 2, 1) := by decide +kernel
theorem dX8_readOneJar_211 : decode cX8_readOneJar 211 = .ok (.iastore, 1) := by decide +kernel
theorem dX8_readOneJar_212 : decode cX8_readOneJar 212 = .ok (.aload_n 0, 1) := by decide +kernel
theorem dX8_readOneJar_213 : decode cX8_readOneJar 213 = .ok (.getfield 19, 3) := by decide +kernel
theorem dX8_readOneJar_216 : decode cX8_readOneJar 216 = .ok (.iconst 5, 1) := by decide +kernel
theorem dX8_readOneJar_217 : decode cX8_readOneJar 217 = .ok (.aload_n 0, 1) := by decide +kernel
theorem dX8_readOneJar_218 : decode cX8_readOneJar 218 = .ok (.getfield 75, 3) := by decide +kernel
theorem dX8_readOneJar_221 : decode cX8_readOneJar 221 = .ok (.imul, 1) := by decide +kernel
theorem dX8_readOneJar_222 : decode cX8_readOneJar 222 = .ok (.iconst 2, 1) := by decide +kernel
theorem dX8_readOneJar_223 : decode cX8_readOneJar 223 = .ok (.iadd, 1) := by decide +kernel
theorem dX8_readOneJar_224 : decode cX8_readOneJar 224 = .ok (.iload_n 3, 1) := by decide +kernel
theorem dX8_readOneJar_225 : decode cX8_readOneJar 225 = .ok (.iastore, 1) := by decide +kernel
theorem dX8_readOneJar_226 : decode cX8_readOneJar 226 = .ok (.aload_n 0, 1) := by decide +kernel
theorem dX8_readOneJar_227 : decode cX8_readOneJar 227 = .ok (.getfield 19, 3) := by decide +kernel
theorem dX8_readOneJar_230 : decode cX8_readOneJar 230 = .ok (.iconst 5, 1) := by decide +kernel
theorem dX8_readOneJar_231 : decode cX8_readOneJar 231 = .ok (.aload_n 0, 1) := by decide +kernel
theorem dX8_readOneJar_232 : decode cX8_readOneJar 232 = .ok (.getfield 75, 3) := by decide +kernel
theorem dX8_readOneJar_235 : decode cX8_readOneJar 235 = .ok (.imul, 1) := by decide +kernel
theorem dX8_readOneJar_236 : decode cX8_readOneJar 236 = .ok (.iconst 3, 1) := by decide +kernel
theorem dX8_readOneJar_237 : decode cX8_readOneJar 237 = .ok (.iadd, 1) := by decide +kernel
theorem dX8_readOneJar_238 : decode cX8_readOneJar 238 = .ok (.iload 4, 2) := by decide +kernel
theorem dX8_readOneJar_240 : decode cX8_readOneJar 240 = .ok (.iastore, 1) := by decide +kernel
theorem dX8_readOneJar_241 : decode cX8_readOneJar 241 = .ok (.aload_n 0, 1) := by decide +kernel
theorem dX8_readOneJar_242 : decode cX8_readOneJar 242 = .ok (.getfield 19, 3) := by decide +kernel
theorem dX8_readOneJar_245 : decode cX8_readOneJar 245 = .ok (.iconst 5, 1) := by decide +kernel
theorem dX8_readOneJar_246 : decode cX8_readOneJar 246 = .ok (.aload_n 0, 1) := by decide +kernel
theorem dX8_readOneJar_247 : decode cX8_readOneJar 247 = .ok (.getfield 75, 3) := by decide +kernel
theorem dX8_readOneJar_250 : decode cX8_readOneJar 250 = .ok (.imul, 1) := by decide +kernel
theorem dX8_readOneJar_251 : decode cX8_readOneJar 251 = .ok (.iconst 4, 1) := by decide +kernel
theorem dX8_readOneJar_252 : decode cX8_readOneJar 252 = .ok (.iadd, 1) := by decide +kernel
theorem dX8_readOneJar_253 : decode cX8_readOneJar 253 = .ok (.iload 5, 2) := by decide +kernel
theorem dX8_readOneJar_255 : decode cX8_readOneJar 255 = .ok (.iastore, 1) := by decide +kernel
theorem dX8_readOneJar_256 : decode cX8_readOneJar 256 = .ok (.aload_n 0, 1) := by decide +kernel
theorem dX8_readOneJar_257 : decode cX8_readOneJar 257 = .ok (.dup, 1) := by decide +kernel
theorem dX8_readOneJar_258 : decode cX8_readOneJar 258 = .ok (.getfield 75, 3) := by decide +kernel
theorem dX8_readOneJar_261 : decode cX8_readOneJar 261 = .ok (.iconst 1, 1) := by decide +kernel
theorem dX8_readOneJar_262 : decode cX8_readOneJar 262 = .ok (.iadd, 1) := by decide +kernel
theorem dX8_readOneJar_263 : decode cX8_readOneJar 263 = .ok (.putfield 75, 3) := by decide +kernel
theorem dX8_readOneJar_266 : decode cX8_readOneJar 266 = .ok (.iconst 1, 1) := by decide +kernel
theorem dX8_readOneJar_267 : decode cX8_readOneJar 267 = .ok (.ireturn, 1) := by decide +kernel
theorem dX8_readSale_0 : decode cX8_readSale 0 = .ok (.aload_n 0, 1) := by decide +kernel
theorem dX8_readSale_1 : decode cX8_readSale 1 = .ok (.iconst 0, 1) := by decide +kernel
theorem dX8_readSale_2 : decode cX8_readSale 2 = .ok (.putfield 72, 3) := by decide +kernel
theorem dX8_readSale_5 : decode cX8_readSale 5 = .ok (.aload_n 0, 1) := by decide +kernel
theorem dX8_readSale_6 : decode cX8_readSale 6 = .ok (.iconst 0, 1) := by decide +kernel
theorem dX8_readSale_7 : decode cX8_readSale 7 = .ok (.putfield 80, 3) := by decide +kernel
theorem dX8_readSale_10 : decode cX8_readSale 10 = .ok (.aload_n 0, 1) := by decide +kernel
theorem dX8_readSale_11 : decode cX8_readSale 11 = .ok (.iconst 0, 1) := by decide +kernel
theorem dX8_readSale_12 : decode cX8_readSale 12 = .ok (.putfield 75, 3) := by decide +kernel
theorem dX8_readSale_15 : decode cX8_readSale 15 = .ok (.aload_n 0, 1) := by decide +kernel
theorem dX8_readSale_16 : decode cX8_readSale 16 = .ok (.getfield 69, 3) := by decide +kernel
theorem dX8_readSale_19 : decode cX8_readSale 19 = .ok (.ifCond .eq 14, 3) := by decide +kernel
theorem dX8_readSale_22 : decode cX8_readSale 22 = .ok (.aload_n 0, 1) := by decide +kernel
theorem dX8_readSale_23 : decode cX8_readSale 23 = .ok (.getfield 7, 3) := by decide +kernel
theorem dX8_readSale_26 : decode cX8_readSale 26 = .ok (.iconst 0, 1) := by decide +kernel
theorem dX8_readSale_27 : decode cX8_readSale 27 = .ok (.iaload, 1) := by decide +kernel
theorem dX8_readSale_28 : decode cX8_readSale 28 = .ok (.bipush 83, 2) := by decide +kernel
theorem dX8_readSale_30 : decode cX8_readSale 30 = .ok (.if_icmp .eq 5, 3) := by decide +kernel
theorem dX8_readSale_33 : decode cX8_readSale 33 = .ok (.iconst 0, 1) := by decide +kernel
theorem dX8_readSale_34 : decode cX8_readSale 34 = .ok (.ireturn, 1) := by decide +kernel
theorem dX8_readSale_35 : decode cX8_readSale 35 = .ok (.aload_n 0, 1) := by decide +kernel
theorem dX8_readSale_36 : decode cX8_readSale 36 = .ok (.iconst 1, 1) := by decide +kernel
theorem dX8_readSale_37 : decode cX8_readSale 37 = .ok (.putfield 72, 3) := by decide +kernel
theorem dX8_readSale_40 : decode cX8_readSale 40 = .ok (.aload_n 0, 1) := by decide +kernel
theorem dX8_readSale_41 : decode cX8_readSale 41 = .ok (.getfield 72, 3) := by decide +kernel
theorem dX8_readSale_44 : decode cX8_readSale 44 = .ok (.aload_n 0, 1) := by decide +kernel
theorem dX8_readSale_45 : decode cX8_readSale 45 = .ok (.getfield 69, 3) := by decide +kernel
theorem dX8_readSale_48 : decode cX8_readSale 48 = .ok (.if_icmp .ge 15, 3) := by decide +kernel
theorem dX8_readSale_51 : decode cX8_readSale 51 = .ok (.aload_n 0, 1) := by decide +kernel
theorem dX8_readSale_52 : decode cX8_readSale 52 = .ok (.invokevirtual 91, 3) := by decide +kernel
theorem dX8_readSale_55 : decode cX8_readSale 55 = .ok (.ifCond .ne (-15), 3) := by decide +kernel
theorem dX8_readSale_58 : decode cX8_readSale 58 = .ok (.aload_n 0, 1) := by decide +kernel
theorem dX8_readSale_59 : decode cX8_readSale 59 = .ok (.getfield 72, 3) := by decide +kernel
theorem dX8_readSale_62 : decode cX8_readSale 62 = .ok (.ireturn, 1) := by decide +kernel
theorem dX8_readSale_63 : decode cX8_readSale 63 = .ok (.bipush (-9), 2) := by decide +kernel
theorem dX8_readSale_65 : decode cX8_readSale 65 = .ok (.ireturn, 1) := by decide +kernel
theorem dX8_fault_0 : decode cX8_fault 0 = .ok (.aload_n 0, 1) := by decide +kernel
theorem dX8_fault_1 : decode cX8_fault 1 = .ok (.iconst 0, 1) := by decide +kernel
theorem dX8_fault_2 : decode cX8_fault 2 = .ok (.putfield 56, 3) := by decide +kernel
theorem dX8_fault_5 : decode cX8_fault 5 = .ok (.aload_n 0, 1) := by decide +kernel
theorem dX8_fault_6 : decode cX8_fault 6 = .ok (.invokevirtual 95, 3) := by decide +kernel
theorem dX8_fault_9 : decode cX8_fault 9 = .ok (.ireturn, 1) := by decide +kernel
theorem dX8_sale_0 : decode cX8_sale 0 = .ok (.aload_n 0, 1) := by decide +kernel
theorem dX8_sale_1 : decode cX8_sale 1 = .ok (.iconst 0, 1) := by decide +kernel
theorem dX8_sale_2 : decode cX8_sale 2 = .ok (.putfield 56, 3) := by decide +kernel
theorem dX8_sale_5 : decode cX8_sale 5 = .ok (.aload_n 0, 1) := by decide +kernel
theorem dX8_sale_6 : decode cX8_sale 6 = .ok (.invokevirtual 95, 3) := by decide +kernel
theorem dX8_sale_9 : decode cX8_sale 9 = .ok (.bipush (-9), 2) := by decide +kernel
theorem dX8_sale_11 : decode cX8_sale 11 = .ok (.if_icmp .eq 6, 3) := by decide +kernel
theorem dX8_sale_14 : decode cX8_sale 14 = .ok (.bipush (-3), 2) := by decide +kernel
theorem dX8_sale_16 : decode cX8_sale 16 = .ok (.ireturn, 1) := by decide +kernel
theorem dX8_sale_17 : decode cX8_sale 17 = .ok (.aload_n 0, 1) := by decide +kernel
theorem dX8_sale_18 : decode cX8_sale 18 = .ok (.aload_n 0, 1) := by decide +kernel
theorem dX8_sale_19 : decode cX8_sale 19 = .ok (.getfield 75, 3) := by decide +kernel
theorem dX8_sale_22 : decode cX8_sale 22 = .ok (.putfield 60, 3) := by decide +kernel
theorem dX8_sale_25 : decode cX8_sale 25 = .ok (.iconst 0, 1) := by decide +kernel
theorem dX8_sale_26 : decode cX8_sale 26 = .ok (.istore_n 1, 1) := by decide +kernel
theorem dX8_sale_27 : decode cX8_sale 27 = .ok (.iload_n 1, 1) := by decide +kernel
theorem dX8_sale_28 : decode cX8_sale 28 = .ok (.bipush 37, 2) := by decide +kernel
theorem dX8_sale_30 : decode cX8_sale 30 = .ok (.if_icmp .ge 16, 3) := by decide +kernel
theorem dX8_sale_33 : decode cX8_sale 33 = .ok (.aload_n 0, 1) := by decide +kernel
theorem dX8_sale_34 : decode cX8_sale 34 = .ok (.getfield 22, 3) := by decide +kernel
theorem dX8_sale_37 : decode cX8_sale 37 = .ok (.iload_n 1, 1) := by decide +kernel
theorem dX8_sale_38 : decode cX8_sale 38 = .ok (.iconst 0, 1) := by decide +kernel
theorem dX8_sale_39 : decode cX8_sale 39 = .ok (.iastore, 1) := by decide +kernel
theorem dX8_sale_40 : decode cX8_sale 40 = .ok (.iinc 1 1, 3) := by decide +kernel
theorem dX8_sale_43 : decode cX8_sale 43 = .ok (.goto (-16), 3) := by decide +kernel
theorem dX8_sale_46 : decode cX8_sale 46 = .ok (.iconst 0, 1) := by decide +kernel
theorem dX8_sale_47 : decode cX8_sale 47 = .ok (.istore_n 1, 1) := by decide +kernel
theorem dX8_sale_48 : decode cX8_sale 48 = .ok (.iload_n 1, 1) := by decide +kernel
theorem dX8_sale_49 : decode cX8_sale 49 = .ok (.aload_n 0, 1) := by decide +kernel
theorem dX8_sale_50 : decode cX8_sale 50 = .ok (.getfield 60, 3) := by decide +kernel
theorem dX8_sale_53 : decode cX8_sale 53 = .ok (.if_icmp .ge 103, 3) := by decide +kernel
theorem dX8_sale_56 : decode cX8_sale 56 = .ok (.aload_n 0, 1) := by decide +kernel
theorem dX8_sale_57 : decode cX8_sale 57 = .ok (.getfield 22, 3) := by decide +kernel
theorem dX8_sale_60 : decode cX8_sale 60 = .ok (.iload_n 1, 1) := by decide +kernel
theorem dX8_sale_61 : decode cX8_sale 61 = .ok (.aload_n 0, 1) := by decide +kernel
theorem dX8_sale_62 : decode cX8_sale 62 = .ok (.getfield 19, 3) := by decide +kernel
theorem dX8_sale_65 : decode cX8_sale 65 = .ok (.iconst 5, 1) := by decide +kernel
theorem dX8_sale_66 : decode cX8_sale 66 = .ok (.iload_n 1, 1) := by decide +kernel
theorem dX8_sale_67 : decode cX8_sale 67 = .ok (.imul, 1) := by decide +kernel
theorem dX8_sale_68 : decode cX8_sale 68 = .ok (.iaload, 1) := by decide +kernel
theorem dX8_sale_69 : decode cX8_sale 69 = .ok (.iastore, 1) := by decide +kernel
theorem dX8_sale_70 : decode cX8_sale 70 = .ok (.aload_n 0, 1) := by decide +kernel
theorem dX8_sale_71 : decode cX8_sale 71 = .ok (.getfield 22, 3) := by decide +kernel
theorem dX8_sale_74 : decode cX8_sale 74 = .ok (.bipush 6, 2) := by decide +kernel
theorem dX8_sale_76 : decode cX8_sale 76 = .ok (.iload_n 1, 1) := by decide +kernel
theorem dX8_sale_77 : decode cX8_sale 77 = .ok (.iadd, 1) := by decide +kernel
theorem dX8_sale_78 : decode cX8_sale 78 = .ok (.aload_n 0, 1) := by decide +kernel
theorem dX8_sale_79 : decode cX8_sale 79 = .ok (.getfield 19, 3) := by decide +kernel
theorem dX8_sale_82 : decode cX8_sale 82 = .ok (.iconst 5, 1) := by decide +kernel
theorem dX8_sale_83 : decode cX8_sale 83 = .ok (.iload_n 1, 1) := by decide +kernel
theorem dX8_sale_84 : decode cX8_sale 84 = .ok (.imul, 1) := by decide +kernel
theorem dX8_sale_85 : decode cX8_sale 85 = .ok (.iconst 1, 1) := by decide +kernel
theorem dX8_sale_86 : decode cX8_sale 86 = .ok (.iadd, 1) := by decide +kernel
theorem dX8_sale_87 : decode cX8_sale 87 = .ok (.iaload, 1) := by decide +kernel
theorem dX8_sale_88 : decode cX8_sale 88 = .ok (.iastore, 1) := by decide +kernel
theorem dX8_sale_89 : decode cX8_sale 89 = .ok (.aload_n 0, 1) := by decide +kernel
theorem dX8_sale_90 : decode cX8_sale 90 = .ok (.getfield 22, 3) := by decide +kernel
theorem dX8_sale_93 : decode cX8_sale 93 = .ok (.bipush 12, 2) := by decide +kernel
theorem dX8_sale_95 : decode cX8_sale 95 = .ok (.iload_n 1, 1) := by decide +kernel
theorem dX8_sale_96 : decode cX8_sale 96 = .ok (.iadd, 1) := by decide +kernel
theorem dX8_sale_97 : decode cX8_sale 97 = .ok (.aload_n 0, 1) := by decide +kernel
theorem dX8_sale_98 : decode cX8_sale 98 = .ok (.getfield 19, 3) := by decide +kernel
theorem dX8_sale_101 : decode cX8_sale 101 = .ok (.iconst 5, 1) := by decide +kernel
theorem dX8_sale_102 : decode cX8_sale 102 = .ok (.iload_n 1, 1) := by decide +kernel
theorem dX8_sale_103 : decode cX8_sale 103 = .ok (.imul, 1) := by decide +kernel
theorem dX8_sale_104 : decode cX8_sale 104 = .ok (.iconst 2, 1) := by decide +kernel
theorem dX8_sale_105 : decode cX8_sale 105 = .ok (.iadd, 1) := by decide +kernel
theorem dX8_sale_106 : decode cX8_sale 106 = .ok (.iaload, 1) := by decide +kernel
theorem dX8_sale_107 : decode cX8_sale 107 = .ok (.iastore, 1) := by decide +kernel
theorem dX8_sale_108 : decode cX8_sale 108 = .ok (.aload_n 0, 1) := by decide +kernel
theorem dX8_sale_109 : decode cX8_sale 109 = .ok (.getfield 22, 3) := by decide +kernel
theorem dX8_sale_112 : decode cX8_sale 112 = .ok (.bipush 24, 2) := by decide +kernel
theorem dX8_sale_114 : decode cX8_sale 114 = .ok (.iload_n 1, 1) := by decide +kernel
theorem dX8_sale_115 : decode cX8_sale 115 = .ok (.iadd, 1) := by decide +kernel
theorem dX8_sale_116 : decode cX8_sale 116 = .ok (.iconst 1, 1) := by decide +kernel
theorem dX8_sale_117 : decode cX8_sale 117 = .ok (.iastore, 1) := by decide +kernel
theorem dX8_sale_118 : decode cX8_sale 118 = .ok (.aload_n 0, 1) := by decide +kernel
theorem dX8_sale_119 : decode cX8_sale 119 = .ok (.getfield 13, 3) := by decide +kernel
theorem dX8_sale_122 : decode cX8_sale 122 = .ok (.iload_n 1, 1) := by decide +kernel
theorem dX8_sale_123 : decode cX8_sale 123 = .ok (.aload_n 0, 1) := by decide +kernel
theorem dX8_sale_124 : decode cX8_sale 124 = .ok (.getfield 19, 3) := by decide +kernel
theorem dX8_sale_127 : decode cX8_sale 127 = .ok (.iconst 5, 1) := by decide +kernel
theorem dX8_sale_128 : decode cX8_sale 128 = .ok (.iload_n 1, 1) := by decide +kernel
theorem dX8_sale_129 : decode cX8_sale 129 = .ok (.imul, 1) := by decide +kernel
theorem dX8_sale_130 : decode cX8_sale 130 = .ok (.iconst 3, 1) := by decide +kernel
theorem dX8_sale_131 : decode cX8_sale 131 = .ok (.iadd, 1) := by decide +kernel
theorem dX8_sale_132 : decode cX8_sale 132 = .ok (.iaload, 1) := by decide +kernel
theorem dX8_sale_133 : decode cX8_sale 133 = .ok (.iastore, 1) := by decide +kernel
theorem dX8_sale_134 : decode cX8_sale 134 = .ok (.aload_n 0, 1) := by decide +kernel
theorem dX8_sale_135 : decode cX8_sale 135 = .ok (.getfield 16, 3) := by decide +kernel
theorem dX8_sale_138 : decode cX8_sale 138 = .ok (.iload_n 1, 1) := by decide +kernel
theorem dX8_sale_139 : decode cX8_sale 139 = .ok (.aload_n 0, 1) := by decide +kernel
theorem dX8_sale_140 : decode cX8_sale 140 = .ok (.getfield 19, 3) := by decide +kernel
theorem dX8_sale_143 : decode cX8_sale 143 = .ok (.iconst 5, 1) := by decide +kernel
theorem dX8_sale_144 : decode cX8_sale 144 = .ok (.iload_n 1, 1) := by decide +kernel
theorem dX8_sale_145 : decode cX8_sale 145 = .ok (.imul, 1) := by decide +kernel
theorem dX8_sale_146 : decode cX8_sale 146 = .ok (.iconst 4, 1) := by decide +kernel
theorem dX8_sale_147 : decode cX8_sale 147 = .ok (.iadd, 1) := by decide +kernel
theorem dX8_sale_148 : decode cX8_sale 148 = .ok (.iaload, 1) := by decide +kernel
theorem dX8_sale_149 : decode cX8_sale 149 = .ok (.iastore, 1) := by decide +kernel
theorem dX8_sale_150 : decode cX8_sale 150 = .ok (.iinc 1 1, 3) := by decide +kernel
theorem dX8_sale_153 : decode cX8_sale 153 = .ok (.goto (-105), 3) := by decide +kernel
theorem dX8_sale_156 : decode cX8_sale 156 = .ok (.aload_n 0, 1) := by decide +kernel
theorem dX8_sale_157 : decode cX8_sale 157 = .ok (.iconst 0, 1) := by decide +kernel
theorem dX8_sale_158 : decode cX8_sale 158 = .ok (.putfield 99, 3) := by decide +kernel
theorem dX8_sale_161 : decode cX8_sale 161 = .ok (.aload_n 0, 1) := by decide +kernel
theorem dX8_sale_162 : decode cX8_sale 162 = .ok (.getfield 34, 3) := by decide +kernel
theorem dX8_sale_165 : decode cX8_sale 165 = .ok (.iconst 0, 1) := by decide +kernel
theorem dX8_sale_166 : decode cX8_sale 166 = .ok (.iconst 0, 1) := by decide +kernel
theorem dX8_sale_167 : decode cX8_sale 167 = .ok (.bastore, 1) := by decide +kernel
theorem dX8_sale_168 : decode cX8_sale 168 = .ok (.aload_n 0, 1) := by decide +kernel
theorem dX8_sale_169 : decode cX8_sale 169 = .ok (.getfield 34, 3) := by decide +kernel
theorem dX8_sale_172 : decode cX8_sale 172 = .ok (.iconst 1, 1) := by decide +kernel
theorem dX8_sale_173 : decode cX8_sale 173 = .ok (.iconst 0, 1) := by decide +kernel
theorem dX8_sale_174 : decode cX8_sale 174 = .ok (.bastore, 1) := by decide +kernel
theorem dX8_sale_175 : decode cX8_sale 175 = .ok (.aload_n 0, 1) := by decide +kernel
theorem dX8_sale_176 : decode cX8_sale 176 = .ok (.getfield 60, 3) := by decide +kernel
theorem dX8_sale_179 : decode cX8_sale 179 = .ok (.ireturn, 1) := by decide +kernel
theorem dX8_isWhole_0 : decode cX8_isWhole 0 = .ok (.aload_n 0, 1) := by decide +kernel
theorem dX8_isWhole_1 : decode cX8_isWhole 1 = .ok (.bipush 30, 2) := by decide +kernel
theorem dX8_isWhole_3 : decode cX8_isWhole 3 = .ok (.iload_n 1, 1) := by decide +kernel
theorem dX8_isWhole_4 : decode cX8_isWhole 4 = .ok (.iadd, 1) := by decide +kernel
theorem dX8_isWhole_5 : decode cX8_isWhole 5 = .ok (.iaload, 1) := by decide +kernel
theorem dX8_isWhole_6 : decode cX8_isWhole 6 = .ok (.ifCond .ne 7, 3) := by decide +kernel
theorem dX8_isWhole_9 : decode cX8_isWhole 9 = .ok (.iconst 1, 1) := by decide +kernel
theorem dX8_isWhole_10 : decode cX8_isWhole 10 = .ok (.goto 4, 3) := by decide +kernel
theorem dX8_isWhole_13 : decode cX8_isWhole 13 = .ok (.iconst 0, 1) := by decide +kernel
theorem dX8_isWhole_14 : decode cX8_isWhole 14 = .ok (.ireturn, 1) := by decide +kernel
theorem dX8_soaked_0 : decode cX8_soaked 0 = .ok (.iload_n 1, 1) := by decide +kernel
theorem dX8_soaked_1 : decode cX8_soaked 1 = .ok (.tableswitch 78 0 2 #[27, 42, 54], 27) := by decide +kernel
theorem dX8_soaked_28 : decode cX8_soaked 28 = .ok (.iload_n 0, 1) := by decide +kernel
theorem dX8_soaked_29 : decode cX8_soaked 29 = .ok (.bipush 9, 2) := by decide +kernel
theorem dX8_soaked_31 : decode cX8_soaked 31 = .ok (.if_icmp .ne 8, 3) := by decide +kernel
theorem dX8_soaked_34 : decode cX8_soaked 34 = .ok (.bipush 9, 2) := by decide +kernel
theorem dX8_soaked_36 : decode cX8_soaked 36 = .ok (.goto 6, 3) := by decide +kernel
theorem dX8_soaked_39 : decode cX8_soaked 39 = .ok (.iload_n 0, 1) := by decide +kernel
theorem dX8_soaked_40 : decode cX8_soaked 40 = .ok (.iconst 1, 1) := by decide +kernel
theorem dX8_soaked_41 : decode cX8_soaked 41 = .ok (.iadd, 1) := by decide +kernel
theorem dX8_soaked_42 : decode cX8_soaked 42 = .ok (.ireturn, 1) := by decide +kernel
theorem dX8_soaked_43 : decode cX8_soaked 43 = .ok (.iload_n 0, 1) := by decide +kernel
theorem dX8_soaked_44 : decode cX8_soaked 44 = .ok (.ifCond .ne 7, 3) := by decide +kernel
theorem dX8_soaked_47 : decode cX8_soaked 47 = .ok (.iconst 0, 1) := by decide +kernel
theorem dX8_soaked_48 : decode cX8_soaked 48 = .ok (.goto 6, 3) := by decide +kernel
theorem dX8_soaked_51 : decode cX8_soaked 51 = .ok (.iload_n 0, 1) := by decide +kernel
theorem dX8_soaked_52 : decode cX8_soaked 52 = .ok (.iconst 1, 1) := by decide +kernel
theorem dX8_soaked_53 : decode cX8_soaked 53 = .ok (.isub, 1) := by decide +kernel
theorem dX8_soaked_54 : decode cX8_soaked 54 = .ok (.ireturn, 1) := by decide +kernel
theorem dX8_soaked_55 : decode cX8_soaked 55 = .ok (.iload_n 0, 1) := by decide +kernel
theorem dX8_soaked_56 : decode cX8_soaked 56 = .ok (.iconst 5, 1) := by decide +kernel
theorem dX8_soaked_57 : decode cX8_soaked 57 = .ok (.if_icmp .ge 9, 3) := by decide +kernel
theorem dX8_soaked_60 : decode cX8_soaked 60 = .ok (.iload_n 0, 1) := by decide +kernel
theorem dX8_soaked_61 : decode cX8_soaked 61 = .ok (.iconst 1, 1) := by decide +kernel
theorem dX8_soaked_62 : decode cX8_soaked 62 = .ok (.iadd, 1) := by decide +kernel
theorem dX8_soaked_63 : decode cX8_soaked 63 = .ok (.goto 15, 3) := by decide +kernel
theorem dX8_soaked_66 : decode cX8_soaked 66 = .ok (.iload_n 0, 1) := by decide +kernel
theorem dX8_soaked_67 : decode cX8_soaked 67 = .ok (.iconst 5, 1) := by decide +kernel
theorem dX8_soaked_68 : decode cX8_soaked 68 = .ok (.if_icmp .le 9, 3) := by decide +kernel
theorem dX8_soaked_71 : decode cX8_soaked 71 = .ok (.iload_n 0, 1) := by decide +kernel
theorem dX8_soaked_72 : decode cX8_soaked 72 = .ok (.iconst 1, 1) := by decide +kernel
theorem dX8_soaked_73 : decode cX8_soaked 73 = .ok (.isub, 1) := by decide +kernel
theorem dX8_soaked_74 : decode cX8_soaked 74 = .ok (.goto 4, 3) := by decide +kernel
theorem dX8_soaked_77 : decode cX8_soaked 77 = .ok (.iconst 5, 1) := by decide +kernel
theorem dX8_soaked_78 : decode cX8_soaked 78 = .ok (.ireturn, 1) := by decide +kernel
theorem dX8_soaked_79 : decode cX8_soaked 79 = .ok (.iload_n 0, 1) := by decide +kernel
theorem dX8_soaked_80 : decode cX8_soaked 80 = .ok (.ireturn, 1) := by decide +kernel
theorem dX8_goWeek_0 : decode cX8_goWeek 0 = .ok (.aload_n 1, 1) := by decide +kernel
theorem dX8_goWeek_1 : decode cX8_goWeek 1 = .ok (.bipush 36, 2) := by decide +kernel
theorem dX8_goWeek_3 : decode cX8_goWeek 3 = .ok (.iaload, 1) := by decide +kernel
theorem dX8_goWeek_4 : decode cX8_goWeek 4 = .ok (.iconst 2, 1) := by decide +kernel
theorem dX8_goWeek_5 : decode cX8_goWeek 5 = .ok (.irem, 1) := by decide +kernel
theorem dX8_goWeek_6 : decode cX8_goWeek 6 = .ok (.ifCond .ne 7, 3) := by decide +kernel
theorem dX8_goWeek_9 : decode cX8_goWeek 9 = .ok (.iconst 1, 1) := by decide +kernel
theorem dX8_goWeek_10 : decode cX8_goWeek 10 = .ok (.goto 4, 3) := by decide +kernel
theorem dX8_goWeek_13 : decode cX8_goWeek 13 = .ok (.iconst 0, 1) := by decide +kernel
theorem dX8_goWeek_14 : decode cX8_goWeek 14 = .ok (.istore_n 2, 1) := by decide +kernel
theorem dX8_goWeek_15 : decode cX8_goWeek 15 = .ok (.iconst 0, 1) := by decide +kernel
theorem dX8_goWeek_16 : decode cX8_goWeek 16 = .ok (.istore_n 3, 1) := by decide +kernel
theorem dX8_goWeek_17 : decode cX8_goWeek 17 = .ok (.iload_n 3, 1) := by decide +kernel
theorem dX8_goWeek_18 : decode cX8_goWeek 18 = .ok (.aload_n 0, 1) := by decide +kernel
theorem dX8_goWeek_19 : decode cX8_goWeek 19 = .ok (.getfield 60, 3) := by decide +kernel
theorem dX8_goWeek_22 : decode cX8_goWeek 22 = .ok (.if_icmp .ge 135, 3) := by decide +kernel
theorem dX8_goWeek_25 : decode cX8_goWeek 25 = .ok (.aload_n 1, 1) := by decide +kernel
theorem dX8_goWeek_26 : decode cX8_goWeek 26 = .ok (.iload_n 3, 1) := by decide +kernel
theorem dX8_goWeek_27 : decode cX8_goWeek 27 = .ok (.invokestatic 102, 3) := by decide +kernel
theorem dX8_goWeek_30 : decode cX8_goWeek 30 = .ok (.ifCond .eq 121, 3) := by decide +kernel
theorem dX8_goWeek_33 : decode cX8_goWeek 33 = .ok (.aload_n 1, 1) := by decide +kernel
theorem dX8_goWeek_34 : decode cX8_goWeek 34 = .ok (.bipush 6, 2) := by decide +kernel
theorem dX8_goWeek_36 : decode cX8_goWeek 36 = .ok (.iload_n 3, 1) := by decide +kernel
theorem dX8_goWeek_37 : decode cX8_goWeek 37 = .ok (.iadd, 1) := by decide +kernel
theorem dX8_goWeek_38 : decode cX8_goWeek 38 = .ok (.aload_n 0, 1) := by decide +kernel
theorem dX8_goWeek_39 : decode cX8_goWeek 39 = .ok (.getfield 13, 3) := by decide +kernel
theorem dX8_goWeek_42 : decode cX8_goWeek 42 = .ok (.iload_n 3, 1) := by decide +kernel
theorem dX8_goWeek_43 : decode cX8_goWeek 43 = .ok (.iaload, 1) := by decide +kernel
theorem dX8_goWeek_44 : decode cX8_goWeek 44 = .ok (.iconst 3, 1) := by decide +kernel
theorem dX8_goWeek_45 : decode cX8_goWeek 45 = .ok (.if_icmp .ne 16, 3) := by decide +kernel
theorem dX8_goWeek_48 : decode cX8_goWeek 48 = .ok (.iload_n 2, 1) := by decide +kernel
theorem dX8_goWeek_49 : decode cX8_goWeek 49 = .ok (.ifCond .ne 12, 3) := by decide +kernel
theorem dX8_goWeek_52 : decode cX8_goWeek 52 = .ok (.aload_n 1, 1) := by decide +kernel
theorem dX8_goWeek_53 : decode cX8_goWeek 53 = .ok (.bipush 6, 2) := by decide +kernel
theorem dX8_goWeek_55 : decode cX8_goWeek 55 = .ok (.iload_n 3, 1) := by decide +kernel
theorem dX8_goWeek_56 : decode cX8_goWeek 56 = .ok (.iadd, 1) := by decide +kernel
theorem dX8_goWeek_57 : decode cX8_goWeek 57 = .ok (.iaload, 1) := by decide +kernel
theorem dX8_goWeek_58 : decode cX8_goWeek 58 = .ok (.goto 18, 3) := by decide +kernel
theorem dX8_goWeek_61 : decode cX8_goWeek 61 = .ok (.aload_n 1, 1) := by decide +kernel
theorem dX8_goWeek_62 : decode cX8_goWeek 62 = .ok (.bipush 6, 2) := by decide +kernel
theorem dX8_goWeek_64 : decode cX8_goWeek 64 = .ok (.iload_n 3, 1) := by decide +kernel
theorem dX8_goWeek_65 : decode cX8_goWeek 65 = .ok (.iadd, 1) := by decide +kernel
theorem dX8_goWeek_66 : decode cX8_goWeek 66 = .ok (.iaload, 1) := by decide +kernel
theorem dX8_goWeek_67 : decode cX8_goWeek 67 = .ok (.aload_n 1, 1) := by decide +kernel
theorem dX8_goWeek_68 : decode cX8_goWeek 68 = .ok (.bipush 12, 2) := by decide +kernel
theorem dX8_goWeek_70 : decode cX8_goWeek 70 = .ok (.iload_n 3, 1) := by decide +kernel
theorem dX8_goWeek_71 : decode cX8_goWeek 71 = .ok (.iadd, 1) := by decide +kernel
theorem dX8_goWeek_72 : decode cX8_goWeek 72 = .ok (.iaload, 1) := by decide +kernel
theorem dX8_goWeek_73 : decode cX8_goWeek 73 = .ok (.invokestatic 106, 3) := by decide +kernel
theorem dX8_goWeek_76 : decode cX8_goWeek 76 = .ok (.iastore, 1) := by decide +kernel
theorem dX8_goWeek_77 : decode cX8_goWeek 77 = .ok (.aload_n 1, 1) := by decide +kernel
theorem dX8_goWeek_78 : decode cX8_goWeek 78 = .ok (.bipush 18, 2) := by decide +kernel
theorem dX8_goWeek_80 : decode cX8_goWeek 80 = .ok (.iload_n 3, 1) := by decide +kernel
theorem dX8_goWeek_81 : decode cX8_goWeek 81 = .ok (.iadd, 1) := by decide +kernel
theorem dX8_goWeek_82 : decode cX8_goWeek 82 = .ok (.dup2, 1) := by decide +kernel
theorem dX8_goWeek_83 : decode cX8_goWeek 83 = .ok (.iaload, 1) := by decide +kernel
theorem dX8_goWeek_84 : decode cX8_goWeek 84 = .ok (.iload_n 2, 1) := by decide +kernel
theorem dX8_goWeek_85 : decode cX8_goWeek 85 = .ok (.ifCond .ne 28, 3) := by decide +kernel
theorem dX8_goWeek_88 : decode cX8_goWeek 88 = .ok (.aload_n 0, 1) := by decide +kernel
theorem dX8_goWeek_89 : decode cX8_goWeek 89 = .ok (.getfield 13, 3) := by decide +kernel
theorem dX8_goWeek_92 : decode cX8_goWeek 92 = .ok (.iload_n 3, 1) := by decide +kernel
theorem dX8_goWeek_93 : decode cX8_goWeek 93 = .ok (.iaload, 1) := by decide +kernel
theorem dX8_goWeek_94 : decode cX8_goWeek 94 = .ok (.iconst 2, 1) := by decide +kernel
theorem dX8_goWeek_95 : decode cX8_goWeek 95 = .ok (.if_icmp .eq 18, 3) := by decide +kernel
theorem dX8_goWeek_98 : decode cX8_goWeek 98 = .ok (.aload_n 1, 1) := by decide +kernel
theorem dX8_goWeek_99 : decode cX8_goWeek 99 = .ok (.bipush 18, 2) := by decide +kernel
theorem dX8_goWeek_101 : decode cX8_goWeek 101 = .ok (.iload_n 3, 1) := by decide +kernel
theorem dX8_goWeek_102 : decode cX8_goWeek 102 = .ok (.iadd, 1) := by decide +kernel
theorem dX8_goWeek_103 : decode cX8_goWeek 103 = .ok (.iaload, 1) := by decide +kernel
theorem dX8_goWeek_104 : decode cX8_goWeek 104 = .ok (.bipush 9, 2) := by decide +kernel
theorem dX8_goWeek_106 : decode cX8_goWeek 106 = .ok (.if_icmp .ge 7, 3) := by decide +kernel
theorem dX8_goWeek_109 : decode cX8_goWeek 109 = .ok (.iconst 1, 1) := by decide +kernel
theorem dX8_goWeek_110 : decode cX8_goWeek 110 = .ok (.goto 4, 3) := by decide +kernel
theorem dX8_goWeek_113 : decode cX8_goWeek 113 = .ok (.iconst 0, 1) := by decide +kernel
theorem dX8_goWeek_114 : decode cX8_goWeek 114 = .ok (.iadd, 1) := by decide +kernel
theorem dX8_goWeek_115 : decode cX8_goWeek 115 = .ok (.iastore, 1) := by decide +kernel
theorem dX8_goWeek_116 : decode cX8_goWeek 116 = .ok (.aload_n 1, 1) := by decide +kernel
theorem dX8_goWeek_117 : decode cX8_goWeek 117 = .ok (.bipush 24, 2) := by decide +kernel
theorem dX8_goWeek_119 : decode cX8_goWeek 119 = .ok (.iload_n 3, 1) := by decide +kernel
theorem dX8_goWeek_120 : decode cX8_goWeek 120 = .ok (.iadd, 1) := by decide +kernel
theorem dX8_goWeek_121 : decode cX8_goWeek 121 = .ok (.aload_n 0, 1) := by decide +kernel
theorem dX8_goWeek_122 : decode cX8_goWeek 122 = .ok (.getfield 13, 3) := by decide +kernel
theorem dX8_goWeek_125 : decode cX8_goWeek 125 = .ok (.iload_n 3, 1) := by decide +kernel
theorem dX8_goWeek_126 : decode cX8_goWeek 126 = .ok (.iaload, 1) := by decide +kernel
theorem dX8_goWeek_127 : decode cX8_goWeek 127 = .ok (.iconst 1, 1) := by decide +kernel
theorem dX8_goWeek_128 : decode cX8_goWeek 128 = .ok (.if_icmp .ne 16, 3) := by decide +kernel
theorem dX8_goWeek_131 : decode cX8_goWeek 131 = .ok (.aload_n 1, 1) := by decide +kernel
theorem dX8_goWeek_132 : decode cX8_goWeek 132 = .ok (.bipush 24, 2) := by decide +kernel
theorem dX8_goWeek_134 : decode cX8_goWeek 134 = .ok (.iload_n 3, 1) := by decide +kernel
theorem dX8_goWeek_135 : decode cX8_goWeek 135 = .ok (.iadd, 1) := by decide +kernel
theorem dX8_goWeek_136 : decode cX8_goWeek 136 = .ok (.iaload, 1) := by decide +kernel
theorem dX8_goWeek_137 : decode cX8_goWeek 137 = .ok (.iconst 1, 1) := by decide +kernel
theorem dX8_goWeek_138 : decode cX8_goWeek 138 = .ok (.iadd, 1) := by decide +kernel
theorem dX8_goWeek_139 : decode cX8_goWeek 139 = .ok (.iconst 4, 1) := by decide +kernel
theorem dX8_goWeek_140 : decode cX8_goWeek 140 = .ok (.irem, 1) := by decide +kernel
theorem dX8_goWeek_141 : decode cX8_goWeek 141 = .ok (.goto 9, 3) := by decide +kernel
theorem dX8_goWeek_144 : decode cX8_goWeek 144 = .ok (.aload_n 1, 1) := by decide +kernel
theorem dX8_goWeek_145 : decode cX8_goWeek 145 = .ok (.bipush 24, 2) := by decide +kernel
theorem dX8_goWeek_147 : decode cX8_goWeek 147 = .ok (.iload_n 3, 1) := by decide +kernel
theorem dX8_goWeek_148 : decode cX8_goWeek 148 = .ok (.iadd, 1) := by decide +kernel
theorem dX8_goWeek_149 : decode cX8_goWeek 149 = .ok (.iaload, 1) := by decide +kernel
theorem dX8_goWeek_150 : decode cX8_goWeek 150 = .ok (.iastore, 1) := by decide +kernel
theorem dX8_goWeek_151 : decode cX8_goWeek 151 = .ok (.iinc 3 1, 3) := by decide +kernel
theorem dX8_goWeek_154 : decode cX8_goWeek 154 = .ok (.goto (-137), 3) := by decide +kernel
theorem dX8_goWeek_157 : decode cX8_goWeek 157 = .ok (.aload_n 1, 1) := by decide +kernel
theorem dX8_goWeek_158 : decode cX8_goWeek 158 = .ok (.bipush 36, 2) := by decide +kernel
theorem dX8_goWeek_160 : decode cX8_goWeek 160 = .ok (.dup2, 1) := by decide +kernel
theorem dX8_goWeek_161 : decode cX8_goWeek 161 = .ok (.iaload, 1) := by decide +kernel
theorem dX8_goWeek_162 : decode cX8_goWeek 162 = .ok (.iconst 1, 1) := by decide +kernel
theorem dX8_goWeek_163 : decode cX8_goWeek 163 = .ok (.iadd, 1) := by decide +kernel
theorem dX8_goWeek_164 : decode cX8_goWeek 164 = .ok (.iastore, 1) := by decide +kernel
theorem dX8_goWeek_165 : decode cX8_goWeek 165 = .ok (.return_, 1) := by decide +kernel
theorem dX8_goShake_0 : decode cX8_goShake 0 = .ok (.iconst 0, 1) := by decide +kernel
theorem dX8_goShake_1 : decode cX8_goShake 1 = .ok (.istore_n 2, 1) := by decide +kernel
theorem dX8_goShake_2 : decode cX8_goShake 2 = .ok (.iconst 0, 1) := by decide +kernel
theorem dX8_goShake_3 : decode cX8_goShake 3 = .ok (.istore_n 3, 1) := by decide +kernel
theorem dX8_goShake_4 : decode cX8_goShake 4 = .ok (.iload_n 3, 1) := by decide +kernel
theorem dX8_goShake_5 : decode cX8_goShake 5 = .ok (.aload_n 0, 1) := by decide +kernel
theorem dX8_goShake_6 : decode cX8_goShake 6 = .ok (.getfield 60, 3) := by decide +kernel
theorem dX8_goShake_9 : decode cX8_goShake 9 = .ok (.if_icmp .ge 133, 3) := by decide +kernel
theorem dX8_goShake_12 : decode cX8_goShake 12 = .ok (.aload_n 1, 1) := by decide +kernel
theorem dX8_goShake_13 : decode cX8_goShake 13 = .ok (.iload_n 3, 1) := by decide +kernel
theorem dX8_goShake_14 : decode cX8_goShake 14 = .ok (.invokestatic 102, 3) := by decide +kernel
theorem dX8_goShake_17 : decode cX8_goShake 17 = .ok (.ifCond .eq 22, 3) := by decide +kernel
theorem dX8_goShake_20 : decode cX8_goShake 20 = .ok (.aload_n 0, 1) := by decide +kernel
theorem dX8_goShake_21 : decode cX8_goShake 21 = .ok (.getfield 16, 3) := by decide +kernel
theorem dX8_goShake_24 : decode cX8_goShake 24 = .ok (.iload_n 3, 1) := by decide +kernel
theorem dX8_goShake_25 : decode cX8_goShake 25 = .ok (.iaload, 1) := by decide +kernel
theorem dX8_goShake_26 : decode cX8_goShake 26 = .ok (.aload_n 1, 1) := by decide +kernel
theorem dX8_goShake_27 : decode cX8_goShake 27 = .ok (.bipush 18, 2) := by decide +kernel
theorem dX8_goShake_29 : decode cX8_goShake 29 = .ok (.iload_n 3, 1) := by decide +kernel
theorem dX8_goShake_30 : decode cX8_goShake 30 = .ok (.iadd, 1) := by decide +kernel
theorem dX8_goShake_31 : decode cX8_goShake 31 = .ok (.iaload, 1) := by decide +kernel
theorem dX8_goShake_32 : decode cX8_goShake 32 = .ok (.if_icmp .ge 7, 3) := by decide +kernel
theorem dX8_goShake_35 : decode cX8_goShake 35 = .ok (.iconst 1, 1) := by decide +kernel
theorem dX8_goShake_36 : decode cX8_goShake 36 = .ok (.goto 4, 3) := by decide +kernel
theorem dX8_goShake_39 : decode cX8_goShake 39 = .ok (.iconst 0, 1) := by decide +kernel
theorem dX8_goShake_40 : decode cX8_goShake 40 = .ok (.istore 4, 2) := by decide +kernel
theorem dX8_goShake_42 : decode cX8_goShake 42 = .ok (.aload_n 1, 1) := by decide +kernel
theorem dX8_goShake_43 : decode cX8_goShake 43 = .ok (.iload_n 3, 1) := by decide +kernel
theorem dX8_goShake_44 : decode cX8_goShake 44 = .ok (.invokestatic 102, 3) := by decide +kernel
theorem dX8_goShake_47 : decode cX8_goShake 47 = .ok (.ifCond .eq 22, 3) := by decide +kernel
theorem dX8_goShake_50 : decode cX8_goShake 50 = .ok (.iload 4, 2) := by decide +kernel
theorem dX8_goShake_52 : decode cX8_goShake 52 = .ok (.ifCond .ne 17, 3) := by decide +kernel
theorem dX8_goShake_55 : decode cX8_goShake 55 = .ok (.aload_n 0, 1) := by decide +kernel
theorem dX8_goShake_56 : decode cX8_goShake 56 = .ok (.getfield 13, 3) := by decide +kernel
theorem dX8_goShake_59 : decode cX8_goShake 59 = .ok (.iload_n 3, 1) := by decide +kernel
theorem dX8_goShake_60 : decode cX8_goShake 60 = .ok (.iaload, 1) := by decide +kernel
theorem dX8_goShake_61 : decode cX8_goShake 61 = .ok (.iconst 3, 1) := by decide +kernel
theorem dX8_goShake_62 : decode cX8_goShake 62 = .ok (.if_icmp .eq 7, 3) := by decide +kernel
theorem dX8_goShake_65 : decode cX8_goShake 65 = .ok (.iconst 1, 1) := by decide +kernel
theorem dX8_goShake_66 : decode cX8_goShake 66 = .ok (.goto 4, 3) := by decide +kernel
theorem dX8_goShake_69 : decode cX8_goShake 69 = .ok (.iconst 0, 1) := by decide +kernel
theorem dX8_goShake_70 : decode cX8_goShake 70 = .ok (.istore 5, 2) := by decide +kernel
theorem dX8_goShake_72 : decode cX8_goShake 72 = .ok (.aload_n 1, 1) := by decide +kernel
theorem dX8_goShake_73 : decode cX8_goShake 73 = .ok (.bipush 30, 2) := by decide +kernel
theorem dX8_goShake_75 : decode cX8_goShake 75 = .ok (.iload_n 3, 1) := by decide +kernel
theorem dX8_goShake_76 : decode cX8_goShake 76 = .ok (.iadd, 1) := by decide +kernel
theorem dX8_goShake_77 : decode cX8_goShake 77 = .ok (.iload 4, 2) := by decide +kernel
theorem dX8_goShake_79 : decode cX8_goShake 79 = .ok (.ifCond .eq 7, 3) := by decide +kernel
theorem dX8_goShake_82 : decode cX8_goShake 82 = .ok (.iconst 1, 1) := by decide +kernel
theorem dX8_goShake_83 : decode cX8_goShake 83 = .ok (.goto 9, 3) := by decide +kernel
theorem dX8_goShake_86 : decode cX8_goShake 86 = .ok (.aload_n 1, 1) := by decide +kernel
theorem dX8_goShake_87 : decode cX8_goShake 87 = .ok (.bipush 30, 2) := by decide +kernel
theorem dX8_goShake_89 : decode cX8_goShake 89 = .ok (.iload_n 3, 1) := by decide +kernel
theorem dX8_goShake_90 : decode cX8_goShake 90 = .ok (.iadd, 1) := by decide +kernel
theorem dX8_goShake_91 : decode cX8_goShake 91 = .ok (.iaload, 1) := by decide +kernel
theorem dX8_goShake_92 : decode cX8_goShake 92 = .ok (.iastore, 1) := by decide +kernel
theorem dX8_goShake_93 : decode cX8_goShake 93 = .ok (.aload_n 1, 1) := by decide +kernel
theorem dX8_goShake_94 : decode cX8_goShake 94 = .ok (.bipush 24, 2) := by decide +kernel
theorem dX8_goShake_96 : decode cX8_goShake 96 = .ok (.iload_n 3, 1) := by decide +kernel
theorem dX8_goShake_97 : decode cX8_goShake 97 = .ok (.iadd, 1) := by decide +kernel
theorem dX8_goShake_98 : decode cX8_goShake 98 = .ok (.iload 5, 2) := by decide +kernel
theorem dX8_goShake_100 : decode cX8_goShake 100 = .ok (.ifCond .eq 16, 3) := by decide +kernel
theorem dX8_goShake_103 : decode cX8_goShake 103 = .ok (.aload_n 1, 1) := by decide +kernel
theorem dX8_goShake_104 : decode cX8_goShake 104 = .ok (.bipush 24, 2) := by decide +kernel
theorem dX8_goShake_106 : decode cX8_goShake 106 = .ok (.iload_n 3, 1) := by decide +kernel
theorem dX8_goShake_107 : decode cX8_goShake 107 = .ok (.iadd, 1) := by decide +kernel
theorem dX8_goShake_108 : decode cX8_goShake 108 = .ok (.iaload, 1) := by decide +kernel
theorem dX8_goShake_109 : decode cX8_goShake 109 = .ok (.iconst 1, 1) := by decide +kernel
theorem dX8_goShake_110 : decode cX8_goShake 110 = .ok (.iadd, 1) := by decide +kernel
theorem dX8_goShake_111 : decode cX8_goShake 111 = .ok (.iconst 4, 1) := by decide +kernel
theorem dX8_goShake_112 : decode cX8_goShake 112 = .ok (.irem, 1) := by decide +kernel
theorem dX8_goShake_113 : decode cX8_goShake 113 = .ok (.goto 9, 3) := by decide +kernel
theorem dX8_goShake_116 : decode cX8_goShake 116 = .ok (.aload_n 1, 1) := by decide +kernel
theorem dX8_goShake_117 : decode cX8_goShake 117 = .ok (.bipush 24, 2) := by decide +kernel
theorem dX8_goShake_119 : decode cX8_goShake 119 = .ok (.iload_n 3, 1) := by decide +kernel
theorem dX8_goShake_120 : decode cX8_goShake 120 = .ok (.iadd, 1) := by decide +kernel
theorem dX8_goShake_121 : decode cX8_goShake 121 = .ok (.iaload, 1) := by decide +kernel
theorem dX8_goShake_122 : decode cX8_goShake 122 = .ok (.iastore, 1) := by decide +kernel
theorem dX8_goShake_123 : decode cX8_goShake 123 = .ok (.iload_n 2, 1) := by decide +kernel
theorem dX8_goShake_124 : decode cX8_goShake 124 = .ok (.iload 4, 2) := by decide +kernel
theorem dX8_goShake_126 : decode cX8_goShake 126 = .ok (.ifCond .eq 7, 3) := by decide +kernel
theorem dX8_goShake_129 : decode cX8_goShake 129 = .ok (.iconst 1, 1) := by decide +kernel
theorem dX8_goShake_130 : decode cX8_goShake 130 = .ok (.goto 4, 3) := by decide +kernel
theorem dX8_goShake_133 : decode cX8_goShake 133 = .ok (.iconst 0, 1) := by decide +kernel
theorem dX8_goShake_134 : decode cX8_goShake 134 = .ok (.iadd, 1) := by decide +kernel
theorem dX8_goShake_135 : decode cX8_goShake 135 = .ok (.istore_n 2, 1) := by decide +kernel
theorem dX8_goShake_136 : decode cX8_goShake 136 = .ok (.iinc 3 1, 3) := by decide +kernel
theorem dX8_goShake_139 : decode cX8_goShake 139 = .ok (.goto (-135), 3) := by decide +kernel
theorem dX8_goShake_142 : decode cX8_goShake 142 = .ok (.iload_n 2, 1) := by decide +kernel
theorem dX8_goShake_143 : decode cX8_goShake 143 = .ok (.ireturn, 1) := by decide +kernel
theorem dX8_isOn_0 : decode cX8_isOn 0 = .ok (.aload_n 0, 1) := by decide +kernel
theorem dX8_isOn_1 : decode cX8_isOn 1 = .ok (.getfield 109, 3) := by decide +kernel
theorem dX8_isOn_4 : decode cX8_isOn 4 = .ok (.iload_n 2, 1) := by decide +kernel
theorem dX8_isOn_5 : decode cX8_isOn 5 = .ok (.invokestatic 83, 3) := by decide +kernel
theorem dX8_isOn_8 : decode cX8_isOn 8 = .ok (.ifCond .eq 17, 3) := by decide +kernel
theorem dX8_isOn_11 : decode cX8_isOn 11 = .ok (.aload_n 1, 1) := by decide +kernel
theorem dX8_isOn_12 : decode cX8_isOn 12 = .ok (.bipush 30, 2) := by decide +kernel
theorem dX8_isOn_14 : decode cX8_isOn 14 = .ok (.iload_n 2, 1) := by decide +kernel
theorem dX8_isOn_15 : decode cX8_isOn 15 = .ok (.iadd, 1) := by decide +kernel
theorem dX8_isOn_16 : decode cX8_isOn 16 = .ok (.iaload, 1) := by decide +kernel
theorem dX8_isOn_17 : decode cX8_isOn 17 = .ok (.iconst 2, 1) := by decide +kernel
theorem dX8_isOn_18 : decode cX8_isOn 18 = .ok (.if_icmp .eq 7, 3) := by decide +kernel
theorem dX8_isOn_21 : decode cX8_isOn 21 = .ok (.iconst 1, 1) := by decide +kernel
theorem dX8_isOn_22 : decode cX8_isOn 22 = .ok (.goto 4, 3) := by decide +kernel
theorem dX8_isOn_25 : decode cX8_isOn 25 = .ok (.iconst 0, 1) := by decide +kernel
theorem dX8_isOn_26 : decode cX8_isOn 26 = .ok (.ireturn, 1) := by decide +kernel
theorem dX8_jarAt_0 : decode cX8_jarAt 0 = .ok (.bipush (-9), 2) := by decide +kernel
theorem dX8_jarAt_2 : decode cX8_jarAt 2 = .ok (.istore_n 3, 1) := by decide +kernel
theorem dX8_jarAt_3 : decode cX8_jarAt 3 = .ok (.iconst 0, 1) := by decide +kernel
theorem dX8_jarAt_4 : decode cX8_jarAt 4 = .ok (.istore 4, 2) := by decide +kernel
theorem dX8_jarAt_6 : decode cX8_jarAt 6 = .ok (.iload 4, 2) := by decide +kernel
theorem dX8_jarAt_8 : decode cX8_jarAt 8 = .ok (.aload_n 0, 1) := by decide +kernel
theorem dX8_jarAt_9 : decode cX8_jarAt 9 = .ok (.getfield 60, 3) := by decide +kernel
theorem dX8_jarAt_12 : decode cX8_jarAt 12 = .ok (.if_icmp .ge 34, 3) := by decide +kernel
theorem dX8_jarAt_15 : decode cX8_jarAt 15 = .ok (.aload_n 0, 1) := by decide +kernel
theorem dX8_jarAt_16 : decode cX8_jarAt 16 = .ok (.aload_n 1, 1) := by decide +kernel
theorem dX8_jarAt_17 : decode cX8_jarAt 17 = .ok (.iload 4, 2) := by decide +kernel
theorem dX8_jarAt_19 : decode cX8_jarAt 19 = .ok (.invokevirtual 112, 3) := by decide +kernel
theorem dX8_jarAt_22 : decode cX8_jarAt 22 = .ok (.ifCond .eq 16, 3) := by decide +kernel
theorem dX8_jarAt_25 : decode cX8_jarAt 25 = .ok (.aload_n 1, 1) := by decide +kernel
theorem dX8_jarAt_26 : decode cX8_jarAt 26 = .ok (.iload 4, 2) := by decide +kernel
theorem dX8_jarAt_28 : decode cX8_jarAt 28 = .ok (.iaload, 1) := by decide +kernel
theorem dX8_jarAt_29 : decode cX8_jarAt 29 = .ok (.iload_n 2, 1) := by decide +kernel
theorem dX8_jarAt_30 : decode cX8_jarAt 30 = .ok (.if_icmp .ne 8, 3) := by decide +kernel
theorem dX8_jarAt_33 : decode cX8_jarAt 33 = .ok (.iload 4, 2) := by decide +kernel
theorem dX8_jarAt_35 : decode cX8_jarAt 35 = .ok (.goto 4, 3) := by decide +kernel
theorem dX8_jarAt_38 : decode cX8_jarAt 38 = .ok (.iload_n 3, 1) := by decide +kernel
theorem dX8_jarAt_39 : decode cX8_jarAt 39 = .ok (.istore_n 3, 1) := by decide +kernel
theorem dX8_jarAt_40 : decode cX8_jarAt 40 = .ok (.iinc 4 1, 3) := by decide +kernel
theorem dX8_jarAt_43 : decode cX8_jarAt 43 = .ok (.goto (-37), 3) := by decide +kernel
theorem dX8_jarAt_46 : decode cX8_jarAt 46 = .ok (.iload_n 3, 1) := by decide +kernel
theorem dX8_jarAt_47 : decode cX8_jarAt 47 = .ok (.ireturn, 1) := by decide +kernel
theorem dX8_hazeOf_0 : decode cX8_hazeOf 0 = .ok (.aload_n 0, 1) := by decide +kernel
theorem dX8_hazeOf_1 : decode cX8_hazeOf 1 = .ok (.iload_n 1, 1) := by decide +kernel
theorem dX8_hazeOf_2 : decode cX8_hazeOf 2 = .ok (.invokestatic 102, 3) := by decide +kernel
theorem dX8_hazeOf_5 : decode cX8_hazeOf 5 = .ok (.ifCond .eq 12, 3) := by decide +kernel
theorem dX8_hazeOf_8 : decode cX8_hazeOf 8 = .ok (.aload_n 0, 1) := by decide +kernel
theorem dX8_hazeOf_9 : decode cX8_hazeOf 9 = .ok (.bipush 18, 2) := by decide +kernel
theorem dX8_hazeOf_11 : decode cX8_hazeOf 11 = .ok (.iload_n 1, 1) := by decide +kernel
theorem dX8_hazeOf_12 : decode cX8_hazeOf 12 = .ok (.iadd, 1) := by decide +kernel
theorem dX8_hazeOf_13 : decode cX8_hazeOf 13 = .ok (.iaload, 1) := by decide +kernel
theorem dX8_hazeOf_14 : decode cX8_hazeOf 14 = .ok (.goto 4, 3) := by decide +kernel
theorem dX8_hazeOf_17 : decode cX8_hazeOf 17 = .ok (.iconst 0, 1) := by decide +kernel
theorem dX8_hazeOf_18 : decode cX8_hazeOf 18 = .ok (.ireturn, 1) := by decide +kernel
theorem dX8_sees_0 : decode cX8_sees 0 = .ok (.aload_n 1, 1) := by decide +kernel
theorem dX8_sees_1 : decode cX8_sees 1 = .ok (.bipush 24, 2) := by decide +kernel
theorem dX8_sees_3 : decode cX8_sees 3 = .ok (.iload_n 2, 1) := by decide +kernel
theorem dX8_sees_4 : decode cX8_sees 4 = .ok (.iadd, 1) := by decide +kernel
theorem dX8_sees_5 : decode cX8_sees 5 = .ok (.iaload, 1) := by decide +kernel
theorem dX8_sees_6 : decode cX8_sees 6 = .ok (.istore_n 3, 1) := by decide +kernel
theorem dX8_sees_7 : decode cX8_sees 7 = .ok (.aload_n 0, 1) := by decide +kernel
theorem dX8_sees_8 : decode cX8_sees 8 = .ok (.getfield 109, 3) := by decide +kernel
theorem dX8_sees_11 : decode cX8_sees 11 = .ok (.iload_n 2, 1) := by decide +kernel
theorem dX8_sees_12 : decode cX8_sees 12 = .ok (.invokestatic 83, 3) := by decide +kernel
theorem dX8_sees_15 : decode cX8_sees 15 = .ok (.ifCond .eq 18, 3) := by decide +kernel
theorem dX8_sees_18 : decode cX8_sees 18 = .ok (.aload_n 1, 1) := by decide +kernel
theorem dX8_sees_19 : decode cX8_sees 19 = .ok (.iload_n 2, 1) := by decide +kernel
theorem dX8_sees_20 : decode cX8_sees 20 = .ok (.invokestatic 102, 3) := by decide +kernel
theorem dX8_sees_23 : decode cX8_sees 23 = .ok (.ifCond .eq 10, 3) := by decide +kernel
theorem dX8_sees_26 : decode cX8_sees 26 = .ok (.iload_n 3, 1) := by decide +kernel
theorem dX8_sees_27 : decode cX8_sees 27 = .ok (.iconst 2, 1) := by decide +kernel
theorem dX8_sees_28 : decode cX8_sees 28 = .ok (.irem, 1) := by decide +kernel
theorem dX8_sees_29 : decode cX8_sees 29 = .ok (.iconst 1, 1) := by decide +kernel
theorem dX8_sees_30 : decode cX8_sees 30 = .ok (.if_icmp .ne 6, 3) := by decide +kernel
theorem dX8_sees_33 : decode cX8_sees 33 = .ok (.bipush (-9), 2) := by decide +kernel
theorem dX8_sees_35 : decode cX8_sees 35 = .ok (.ireturn, 1) := by decide +kernel
theorem dX8_sees_36 : decode cX8_sees 36 = .ok (.iload_n 3, 1) := by decide +kernel
theorem dX8_sees_37 : decode cX8_sees 37 = .ok (.iconst 1, 1) := by decide +kernel
theorem dX8_sees_38 : decode cX8_sees 38 = .ok (.isub, 1) := by decide +kernel
theorem dX8_sees_39 : decode cX8_sees 39 = .ok (.istore 4, 2) := by decide +kernel
theorem dX8_sees_41 : decode cX8_sees 41 = .ok (.aload_n 1, 1) := by decide +kernel
theorem dX8_sees_42 : decode cX8_sees 42 = .ok (.iload_n 2, 1) := by decide +kernel
theorem dX8_sees_43 : decode cX8_sees 43 = .ok (.iaload, 1) := by decide +kernel
theorem dX8_sees_44 : decode cX8_sees 44 = .ok (.iload 4, 2) := by decide +kernel
theorem dX8_sees_46 : decode cX8_sees 46 = .ok (.iadd, 1) := by decide +kernel
theorem dX8_sees_47 : decode cX8_sees 47 = .ok (.istore 5, 2) := by decide +kernel
theorem dX8_sees_49 : decode cX8_sees 49 = .ok (.iload 5, 2) := by decide +kernel
theorem dX8_sees_51 : decode cX8_sees 51 = .ok (.i2l, 1) := by decide +kernel
theorem dX8_sees_52 : decode cX8_sees 52 = .ok (.lconst 0, 1) := by decide +kernel
theorem dX8_sees_53 : decode cX8_sees 53 = .ok (.ldc2_w 78, 3) := by decide +kernel
theorem dX8_sees_56 : decode cX8_sees 56 = .ok (.invokestatic 63, 3) := by decide +kernel
theorem dX8_sees_59 : decode cX8_sees 59 = .ok (.ifCond .eq 78, 3) := by decide +kernel
theorem dX8_sees_62 : decode cX8_sees 62 = .ok (.aload_n 0, 1) := by decide +kernel
theorem dX8_sees_63 : decode cX8_sees 63 = .ok (.aload_n 1, 1) := by decide +kernel
theorem dX8_sees_64 : decode cX8_sees 64 = .ok (.iload 5, 2) := by decide +kernel
theorem dX8_sees_66 : decode cX8_sees 66 = .ok (.invokevirtual 115, 3) := by decide +kernel
theorem dX8_sees_69 : decode cX8_sees 69 = .ok (.istore 6, 2) := by decide +kernel
theorem dX8_sees_71 : decode cX8_sees 71 = .ok (.iload 6, 2) := by decide +kernel
theorem dX8_sees_73 : decode cX8_sees 73 = .ok (.bipush (-9), 2) := by decide +kernel
theorem dX8_sees_75 : decode cX8_sees 75 = .ok (.if_icmp .eq 52, 3) := by decide +kernel
theorem dX8_sees_78 : decode cX8_sees 78 = .ok (.iload 4, 2) := by decide +kernel
theorem dX8_sees_80 : decode cX8_sees 80 = .ok (.iload 5, 2) := by decide +kernel
theorem dX8_sees_82 : decode cX8_sees 82 = .ok (.aload_n 1, 1) := by decide +kernel
theorem dX8_sees_83 : decode cX8_sees 83 = .ok (.iload_n 2, 1) := by decide +kernel
theorem dX8_sees_84 : decode cX8_sees 84 = .ok (.iaload, 1) := by decide +kernel
theorem dX8_sees_85 : decode cX8_sees 85 = .ok (.isub, 1) := by decide +kernel
theorem dX8_sees_86 : decode cX8_sees 86 = .ok (.imul, 1) := by decide +kernel
theorem dX8_sees_87 : decode cX8_sees 87 = .ok (.istore 7, 2) := by decide +kernel
theorem dX8_sees_89 : decode cX8_sees 89 = .ok (.aload_n 0, 1) := by decide +kernel
theorem dX8_sees_90 : decode cX8_sees 90 = .ok (.getfield 13, 3) := by decide +kernel
theorem dX8_sees_93 : decode cX8_sees 93 = .ok (.iload_n 2, 1) := by decide +kernel
theorem dX8_sees_94 : decode cX8_sees 94 = .ok (.iaload, 1) := by decide +kernel
theorem dX8_sees_95 : decode cX8_sees 95 = .ok (.iconst 2, 1) := by decide +kernel
theorem dX8_sees_96 : decode cX8_sees 96 = .ok (.if_icmp .eq 23, 3) := by decide +kernel
theorem dX8_sees_99 : decode cX8_sees 99 = .ok (.iload 7, 2) := by decide +kernel
theorem dX8_sees_101 : decode cX8_sees 101 = .ok (.bipush 9, 2) := by decide +kernel
theorem dX8_sees_103 : decode cX8_sees 103 = .ok (.aload_n 1, 1) := by decide +kernel
theorem dX8_sees_104 : decode cX8_sees 104 = .ok (.iload_n 2, 1) := by decide +kernel
theorem dX8_sees_105 : decode cX8_sees 105 = .ok (.invokestatic 119, 3) := by decide +kernel
theorem dX8_sees_108 : decode cX8_sees 108 = .ok (.isub, 1) := by decide +kernel
theorem dX8_sees_109 : decode cX8_sees 109 = .ok (.aload_n 1, 1) := by decide +kernel
theorem dX8_sees_110 : decode cX8_sees 110 = .ok (.iload 6, 2) := by decide +kernel
theorem dX8_sees_112 : decode cX8_sees 112 = .ok (.invokestatic 119, 3) := by decide +kernel
theorem dX8_sees_115 : decode cX8_sees 115 = .ok (.isub, 1) := by decide +kernel
theorem dX8_sees_116 : decode cX8_sees 116 = .ok (.if_icmp .gt 8, 3) := by decide +kernel
theorem dX8_sees_119 : decode cX8_sees 119 = .ok (.iload 6, 2) := by decide +kernel
theorem dX8_sees_121 : decode cX8_sees 121 = .ok (.goto 5, 3) := by decide +kernel
theorem dX8_sees_124 : decode cX8_sees 124 = .ok (.bipush (-9), 2) := by decide +kernel
theorem dX8_sees_126 : decode cX8_sees 126 = .ok (.ireturn, 1) := by decide +kernel
theorem dX8_sees_127 : decode cX8_sees 127 = .ok (.iload 5, 2) := by decide +kernel
theorem dX8_sees_129 : decode cX8_sees 129 = .ok (.iload 4, 2) := by decide +kernel
theorem dX8_sees_131 : decode cX8_sees 131 = .ok (.iadd, 1) := by decide +kernel
theorem dX8_sees_132 : decode cX8_sees 132 = .ok (.istore 5, 2) := by decide +kernel
theorem dX8_sees_134 : decode cX8_sees 134 = .ok (.goto (-85), 3) := by decide +kernel
theorem dX8_sees_137 : decode cX8_sees 137 = .ok (.bipush (-9), 2) := by decide +kernel
theorem dX8_sees_139 : decode cX8_sees 139 = .ok (.ireturn, 1) := by decide +kernel
theorem dX8_pairsOf_0 : decode cX8_pairsOf 0 = .ok (.iconst 0, 1) := by decide +kernel
theorem dX8_pairsOf_1 : decode cX8_pairsOf 1 = .ok (.istore_n 2, 1) := by decide +kernel
theorem dX8_pairsOf_2 : decode cX8_pairsOf 2 = .ok (.iconst 0, 1) := by decide +kernel
theorem dX8_pairsOf_3 : decode cX8_pairsOf 3 = .ok (.istore_n 3, 1) := by decide +kernel
theorem dX8_pairsOf_4 : decode cX8_pairsOf 4 = .ok (.iload_n 3, 1) := by decide +kernel
theorem dX8_pairsOf_5 : decode cX8_pairsOf 5 = .ok (.aload_n 0, 1) := by decide +kernel
theorem dX8_pairsOf_6 : decode cX8_pairsOf 6 = .ok (.getfield 60, 3) := by decide +kernel
theorem dX8_pairsOf_9 : decode cX8_pairsOf 9 = .ok (.if_icmp .ge 49, 3) := by decide +kernel
theorem dX8_pairsOf_12 : decode cX8_pairsOf 12 = .ok (.aload_n 0, 1) := by decide +kernel
theorem dX8_pairsOf_13 : decode cX8_pairsOf 13 = .ok (.aload_n 1, 1) := by decide +kernel
theorem dX8_pairsOf_14 : decode cX8_pairsOf 14 = .ok (.iload_n 3, 1) := by decide +kernel
theorem dX8_pairsOf_15 : decode cX8_pairsOf 15 = .ok (.invokevirtual 122, 3) := by decide +kernel
theorem dX8_pairsOf_18 : decode cX8_pairsOf 18 = .ok (.istore 4, 2) := by decide +kernel
theorem dX8_pairsOf_20 : decode cX8_pairsOf 20 = .ok (.iload_n 2, 1) := by decide +kernel
theorem dX8_pairsOf_21 : decode cX8_pairsOf 21 = .ok (.iload 4, 2) := by decide +kernel
theorem dX8_pairsOf_23 : decode cX8_pairsOf 23 = .ok (.bipush (-9), 2) := by decide +kernel
theorem dX8_pairsOf_25 : decode cX8_pairsOf 25 = .ok (.if_icmp .eq 24, 3) := by decide +kernel
theorem dX8_pairsOf_28 : decode cX8_pairsOf 28 = .ok (.iload 4, 2) := by decide +kernel
theorem dX8_pairsOf_30 : decode cX8_pairsOf 30 = .ok (.iload_n 3, 1) := by decide +kernel
theorem dX8_pairsOf_31 : decode cX8_pairsOf 31 = .ok (.if_icmp .le 18, 3) := by decide +kernel
theorem dX8_pairsOf_34 : decode cX8_pairsOf 34 = .ok (.aload_n 0, 1) := by decide +kernel
theorem dX8_pairsOf_35 : decode cX8_pairsOf 35 = .ok (.aload_n 1, 1) := by decide +kernel
theorem dX8_pairsOf_36 : decode cX8_pairsOf 36 = .ok (.iload 4, 2) := by decide +kernel
theorem dX8_pairsOf_38 : decode cX8_pairsOf 38 = .ok (.invokevirtual 122, 3) := by decide +kernel
theorem dX8_pairsOf_41 : decode cX8_pairsOf 41 = .ok (.iload_n 3, 1) := by decide +kernel
theorem dX8_pairsOf_42 : decode cX8_pairsOf 42 = .ok (.if_icmp .ne 7, 3) := by decide +kernel
theorem dX8_pairsOf_45 : decode cX8_pairsOf 45 = .ok (.iconst 1, 1) := by decide +kernel
theorem dX8_pairsOf_46 : decode cX8_pairsOf 46 = .ok (.goto 4, 3) := by decide +kernel
theorem dX8_pairsOf_49 : decode cX8_pairsOf 49 = .ok (.iconst 0, 1) := by decide +kernel
theorem dX8_pairsOf_50 : decode cX8_pairsOf 50 = .ok (.iadd, 1) := by decide +kernel
theorem dX8_pairsOf_51 : decode cX8_pairsOf 51 = .ok (.istore_n 2, 1) := by decide +kernel
theorem dX8_pairsOf_52 : decode cX8_pairsOf 52 = .ok (.iinc 3 1, 3) := by decide +kernel
theorem dX8_pairsOf_55 : decode cX8_pairsOf 55 = .ok (.goto (-51), 3) := by decide +kernel
theorem dX8_pairsOf_58 : decode cX8_pairsOf 58 = .ok (.iload_n 2, 1) := by decide +kernel
theorem dX8_pairsOf_59 : decode cX8_pairsOf 59 = .ok (.ireturn, 1) := by decide +kernel
theorem dX8_thatAre_0 : decode cX8_thatAre 0 = .ok (.iconst 0, 1) := by decide +kernel
theorem dX8_thatAre_1 : decode cX8_thatAre 1 = .ok (.istore_n 3, 1) := by decide +kernel
theorem dX8_thatAre_2 : decode cX8_thatAre 2 = .ok (.iconst 0, 1) := by decide +kernel
theorem dX8_thatAre_3 : decode cX8_thatAre 3 = .ok (.istore 4, 2) := by decide +kernel
theorem dX8_thatAre_5 : decode cX8_thatAre 5 = .ok (.iload 4, 2) := by decide +kernel
theorem dX8_thatAre_7 : decode cX8_thatAre 7 = .ok (.aload_n 0, 1) := by decide +kernel
theorem dX8_thatAre_8 : decode cX8_thatAre 8 = .ok (.getfield 60, 3) := by decide +kernel
theorem dX8_thatAre_11 : decode cX8_thatAre 11 = .ok (.if_icmp .ge 31, 3) := by decide +kernel
theorem dX8_thatAre_14 : decode cX8_thatAre 14 = .ok (.iload_n 3, 1) := by decide +kernel
theorem dX8_thatAre_15 : decode cX8_thatAre 15 = .ok (.aload_n 1, 1) := by decide +kernel
theorem dX8_thatAre_16 : decode cX8_thatAre 16 = .ok (.bipush 30, 2) := by decide +kernel
theorem dX8_thatAre_18 : decode cX8_thatAre 18 = .ok (.iload 4, 2) := by decide +kernel
theorem dX8_thatAre_20 : decode cX8_thatAre 20 = .ok (.iadd, 1) := by decide +kernel
theorem dX8_thatAre_21 : decode cX8_thatAre 21 = .ok (.iaload, 1) := by decide +kernel
theorem dX8_thatAre_22 : decode cX8_thatAre 22 = .ok (.iload_n 2, 1) := by decide +kernel
theorem dX8_thatAre_23 : decode cX8_thatAre 23 = .ok (.if_icmp .ne 10, 3) := by decide +kernel
theorem dX8_thatAre_26 : decode cX8_thatAre 26 = .ok (.iconst 1, 1) := by decide +kernel
theorem dX8_thatAre_27 : decode cX8_thatAre 27 = .ok (.iload 4, 2) := by decide +kernel
theorem dX8_thatAre_29 : decode cX8_thatAre 29 = .ok (.ishl, 1) := by decide +kernel
theorem dX8_thatAre_30 : decode cX8_thatAre 30 = .ok (.goto 4, 3) := by decide +kernel
theorem dX8_thatAre_33 : decode cX8_thatAre 33 = .ok (.iconst 0, 1) := by decide +kernel
theorem dX8_thatAre_34 : decode cX8_thatAre 34 = .ok (.ior, 1) := by decide +kernel
theorem dX8_thatAre_35 : decode cX8_thatAre 35 = .ok (.istore_n 3, 1) := by decide +kernel
theorem dX8_thatAre_36 : decode cX8_thatAre 36 = .ok (.iinc 4 1, 3) := by decide +kernel
theorem dX8_thatAre_39 : decode cX8_thatAre 39 = .ok (.goto (-34), 3) := by decide +kernel
theorem dX8_thatAre_42 : decode cX8_thatAre 42 = .ok (.iload_n 3, 1) := by decide +kernel
theorem dX8_thatAre_43 : decode cX8_thatAre 43 = .ok (.ireturn, 1) := by decide +kernel
theorem dX8_places_0 : decode cX8_places 0 = .ok (.iconst 0, 1) := by decide +kernel
theorem dX8_places_1 : decode cX8_places 1 = .ok (.istore_n 1, 1) := by decide +kernel
theorem dX8_places_2 : decode cX8_places 2 = .ok (.iconst 0, 1) := by decide +kernel
theorem dX8_places_3 : decode cX8_places 3 = .ok (.istore_n 2, 1) := by decide +kernel
theorem dX8_places_4 : decode cX8_places 4 = .ok (.iload_n 2, 1) := by decide +kernel
theorem dX8_places_5 : decode cX8_places 5 = .ok (.aload_n 0, 1) := by decide +kernel
theorem dX8_places_6 : decode cX8_places 6 = .ok (.getfield 60, 3) := by decide +kernel
theorem dX8_places_9 : decode cX8_places 9 = .ok (.if_icmp .ge 37, 3) := by decide +kernel
theorem dX8_places_12 : decode cX8_places 12 = .ok (.iload_n 1, 1) := by decide +kernel
theorem dX8_places_13 : decode cX8_places 13 = .ok (.aload_n 0, 1) := by decide +kernel
theorem dX8_places_14 : decode cX8_places 14 = .ok (.getfield 22, 3) := by decide +kernel
theorem dX8_places_17 : decode cX8_places 17 = .ok (.bipush 30, 2) := by decide +kernel
theorem dX8_places_19 : decode cX8_places 19 = .ok (.iload_n 2, 1) := by decide +kernel
theorem dX8_places_20 : decode cX8_places 20 = .ok (.iadd, 1) := by decide +kernel
theorem dX8_places_21 : decode cX8_places 21 = .ok (.iaload, 1) := by decide +kernel
theorem dX8_places_22 : decode cX8_places 22 = .ok (.iconst 2, 1) := by decide +kernel
theorem dX8_places_23 : decode cX8_places 23 = .ok (.if_icmp .ne 7, 3) := by decide +kernel
theorem dX8_places_26 : decode cX8_places 26 = .ok (.iconst 0, 1) := by decide +kernel
theorem dX8_places_27 : decode cX8_places 27 = .ok (.goto 11, 3) := by decide +kernel
theorem dX8_places_30 : decode cX8_places 30 = .ok (.iconst 1, 1) := by decide +kernel
theorem dX8_places_31 : decode cX8_places 31 = .ok (.aload_n 0, 1) := by decide +kernel
theorem dX8_places_32 : decode cX8_places 32 = .ok (.getfield 22, 3) := by decide +kernel
theorem dX8_places_35 : decode cX8_places 35 = .ok (.iload_n 2, 1) := by decide +kernel
theorem dX8_places_36 : decode cX8_places 36 = .ok (.iaload, 1) := by decide +kernel
theorem dX8_places_37 : decode cX8_places 37 = .ok (.ishl, 1) := by decide +kernel
theorem dX8_places_38 : decode cX8_places 38 = .ok (.ior, 1) := by decide +kernel
theorem dX8_places_39 : decode cX8_places 39 = .ok (.istore_n 1, 1) := by decide +kernel
theorem dX8_places_40 : decode cX8_places 40 = .ok (.iinc 2 1, 3) := by decide +kernel
theorem dX8_places_43 : decode cX8_places 43 = .ok (.goto (-39), 3) := by decide +kernel
theorem dX8_places_46 : decode cX8_places 46 = .ok (.iload_n 1, 1) := by decide +kernel
theorem dX8_places_47 : decode cX8_places 47 = .ok (.ireturn, 1) := by decide +kernel
theorem dX8_flavours_0 : decode cX8_flavours 0 = .ok (.iconst 0, 1) := by decide +kernel
theorem dX8_flavours_1 : decode cX8_flavours 1 = .ok (.istore_n 2, 1) := by decide +kernel
theorem dX8_flavours_2 : decode cX8_flavours 2 = .ok (.iconst 0, 1) := by decide +kernel
theorem dX8_flavours_3 : decode cX8_flavours 3 = .ok (.istore_n 3, 1) := by decide +kernel
theorem dX8_flavours_4 : decode cX8_flavours 4 = .ok (.iload_n 3, 1) := by decide +kernel
theorem dX8_flavours_5 : decode cX8_flavours 5 = .ok (.aload_n 0, 1) := by decide +kernel
theorem dX8_flavours_6 : decode cX8_flavours 6 = .ok (.getfield 60, 3) := by decide +kernel
theorem dX8_flavours_9 : decode cX8_flavours 9 = .ok (.if_icmp .ge 30, 3) := by decide +kernel
theorem dX8_flavours_12 : decode cX8_flavours 12 = .ok (.iload_n 2, 1) := by decide +kernel
theorem dX8_flavours_13 : decode cX8_flavours 13 = .ok (.aload_n 1, 1) := by decide +kernel
theorem dX8_flavours_14 : decode cX8_flavours 14 = .ok (.iload_n 3, 1) := by decide +kernel
theorem dX8_flavours_15 : decode cX8_flavours 15 = .ok (.invokestatic 102, 3) := by decide +kernel
theorem dX8_flavours_18 : decode cX8_flavours 18 = .ok (.ifCond .eq 12, 3) := by decide +kernel
theorem dX8_flavours_21 : decode cX8_flavours 21 = .ok (.aload_n 1, 1) := by decide +kernel
theorem dX8_flavours_22 : decode cX8_flavours 22 = .ok (.bipush 6, 2) := by decide +kernel
theorem dX8_flavours_24 : decode cX8_flavours 24 = .ok (.iload_n 3, 1) := by decide +kernel
theorem dX8_flavours_25 : decode cX8_flavours 25 = .ok (.iadd, 1) := by decide +kernel
theorem dX8_flavours_26 : decode cX8_flavours 26 = .ok (.iaload, 1) := by decide +kernel
theorem dX8_flavours_27 : decode cX8_flavours 27 = .ok (.goto 4, 3) := by decide +kernel
theorem dX8_flavours_30 : decode cX8_flavours 30 = .ok (.iconst 0, 1) := by decide +kernel
theorem dX8_flavours_31 : decode cX8_flavours 31 = .ok (.iadd, 1) := by decide +kernel
theorem dX8_flavours_32 : decode cX8_flavours 32 = .ok (.istore_n 2, 1) := by decide +kernel
theorem dX8_flavours_33 : decode cX8_flavours 33 = .ok (.iinc 3 1, 3) := by decide +kernel
theorem dX8_flavours_36 : decode cX8_flavours 36 = .ok (.goto (-32), 3) := by decide +kernel
theorem dX8_flavours_39 : decode cX8_flavours 39 = .ok (.iload_n 2, 1) := by decide +kernel
theorem dX8_flavours_40 : decode cX8_flavours 40 = .ok (.ireturn, 1) := by decide +kernel
theorem dX8_about_0 : decode cX8_about 0 = .ok (.aload_n 0, 1) := by decide +kernel
theorem dX8_about_1 : decode cX8_about 1 = .ok (.iconst 0, 1) := by decide +kernel
theorem dX8_about_2 : decode cX8_about 2 = .ok (.putfield 56, 3) := by decide +kernel
theorem dX8_about_5 : decode cX8_about 5 = .ok (.aload_n 0, 1) := by decide +kernel
theorem dX8_about_6 : decode cX8_about 6 = .ok (.bipush 63, 2) := by decide +kernel
theorem dX8_about_8 : decode cX8_about 8 = .ok (.putfield 109, 3) := by decide +kernel
theorem dX8_about_11 : decode cX8_about 11 = .ok (.iload_n 1, 1) := by decide +kernel
theorem dX8_about_12 : decode cX8_about 12 = .ok (.tableswitch 110 0 9 #[56, 61, 69, 69, 69, 81, 86, 95, 100, 105], 56) := by decide +kernel
theorem dX8_about_68 : decode cX8_about 68 = .ok (.aload_n 0, 1) := by decide +kernel
theorem dX8_about_69 : decode cX8_about 69 = .ok (.getfield 60, 3) := by decide +kernel
theorem dX8_about_72 : decode cX8_about 72 = .ok (.ireturn, 1) := by decide +kernel
theorem dX8_about_73 : decode cX8_about 73 = .ok (.aload_n 0, 1) := by decide +kernel
theorem dX8_about_74 : decode cX8_about 74 = .ok (.getfield 22, 3) := by decide +kernel
theorem dX8_about_77 : decode cX8_about 77 = .ok (.bipush 36, 2) := by decide +kernel
theorem dX8_about_79 : decode cX8_about 79 = .ok (.iaload, 1) := by decide +kernel
theorem dX8_about_80 : decode cX8_about 80 = .ok (.ireturn, 1) := by decide +kernel
theorem dX8_about_81 : decode cX8_about 81 = .ok (.aload_n 0, 1) := by decide +kernel
theorem dX8_about_82 : decode cX8_about 82 = .ok (.aload_n 0, 1) := by decide +kernel
theorem dX8_about_83 : decode cX8_about 83 = .ok (.getfield 22, 3) := by decide +kernel
theorem dX8_about_86 : decode cX8_about 86 = .ok (.iload_n 1, 1) := by decide +kernel
theorem dX8_about_87 : decode cX8_about 87 = .ok (.iconst 2, 1) := by decide +kernel
theorem dX8_about_88 : decode cX8_about 88 = .ok (.isub, 1) := by decide +kernel
theorem dX8_about_89 : decode cX8_about 89 = .ok (.invokevirtual 125, 3) := by decide +kernel
theorem dX8_about_92 : decode cX8_about 92 = .ok (.ireturn, 1) := by decide +kernel
theorem dX8_about_93 : decode cX8_about 93 = .ok (.aload_n 0, 1) := by decide +kernel
theorem dX8_about_94 : decode cX8_about 94 = .ok (.invokevirtual 128, 3) := by decide +kernel
theorem dX8_about_97 : decode cX8_about 97 = .ok (.ireturn, 1) := by decide +kernel
theorem dX8_about_98 : decode cX8_about 98 = .ok (.aload_n 0, 1) := by decide +kernel
theorem dX8_about_99 : decode cX8_about 99 = .ok (.aload_n 0, 1) := by decide +kernel
theorem dX8_about_100 : decode cX8_about 100 = .ok (.getfield 22, 3) := by decide +kernel
theorem dX8_about_103 : decode cX8_about 103 = .ok (.invokevirtual 131, 3) := by decide +kernel
theorem dX8_about_106 : decode cX8_about 106 = .ok (.ireturn, 1) := by decide +kernel
theorem dX8_about_107 : decode cX8_about 107 = .ok (.aload_n 0, 1) := by decide +kernel
theorem dX8_about_108 : decode cX8_about 108 = .ok (.getfield 99, 3) := by decide +kernel
theorem dX8_about_111 : decode cX8_about 111 = .ok (.ireturn, 1) := by decide +kernel
theorem dX8_about_112 : decode cX8_about 112 = .ok (.aload_n 0, 1) := by decide +kernel
theorem dX8_about_113 : decode cX8_about 113 = .ok (.getfield 135, 3) := by decide +kernel
theorem dX8_about_116 : decode cX8_about 116 = .ok (.ireturn, 1) := by decide +kernel
theorem dX8_about_117 : decode cX8_about 117 = .ok (.aload_n 0, 1) := by decide +kernel
theorem dX8_about_118 : decode cX8_about 118 = .ok (.getfield 69, 3) := by decide +kernel
theorem dX8_about_121 : decode cX8_about 121 = .ok (.ireturn, 1) := by decide +kernel
theorem dX8_about_122 : decode cX8_about 122 = .ok (.bipush (-2), 2) := by decide +kernel
theorem dX8_about_124 : decode cX8_about 124 = .ok (.ireturn, 1) := by decide +kernel
theorem dX8_jar_0 : decode cX8_jar 0 = .ok (.aload_n 0, 1) := by decide +kernel
theorem dX8_jar_1 : decode cX8_jar 1 = .ok (.iconst 0, 1) := by decide +kernel
theorem dX8_jar_2 : decode cX8_jar 2 = .ok (.putfield 56, 3) := by decide +kernel
theorem dX8_jar_5 : decode cX8_jar 5 = .ok (.aload_n 0, 1) := by decide +kernel
theorem dX8_jar_6 : decode cX8_jar 6 = .ok (.bipush 63, 2) := by decide +kernel
theorem dX8_jar_8 : decode cX8_jar 8 = .ok (.putfield 109, 3) := by decide +kernel
theorem dX8_jar_11 : decode cX8_jar 11 = .ok (.aload_n 0, 1) := by decide +kernel
theorem dX8_jar_12 : decode cX8_jar 12 = .ok (.iload_n 1, 1) := by decide +kernel
theorem dX8_jar_13 : decode cX8_jar 13 = .ok (.invokevirtual 138, 3) := by decide +kernel
theorem dX8_jar_16 : decode cX8_jar 16 = .ok (.ifCond .eq 5, 3) := by decide +kernel
theorem dX8_jar_19 : decode cX8_jar 19 = .ok (.iconst (-1), 1) := by decide +kernel
theorem dX8_jar_20 : decode cX8_jar 20 = .ok (.ireturn, 1) := by decide +kernel
theorem dX8_jar_21 : decode cX8_jar 21 = .ok (.iload_n 2, 1) := by decide +kernel
theorem dX8_jar_22 : decode cX8_jar 22 = .ok (.tableswitch 131 0 8 #[50, 57, 67, 77, 84, 91, 101, 111, 121], 50) := by decide +kernel
theorem dX8_jar_72 : decode cX8_jar 72 = .ok (.aload_n 0, 1) := by decide +kernel
theorem dX8_jar_73 : decode cX8_jar 73 = .ok (.getfield 22, 3) := by decide +kernel
theorem dX8_jar_76 : decode cX8_jar 76 = .ok (.iload_n 1, 1) := by decide +kernel
theorem dX8_jar_77 : decode cX8_jar 77 = .ok (.iaload, 1) := by decide +kernel
theorem dX8_jar_78 : decode cX8_jar 78 = .ok (.ireturn, 1) := by decide +kernel
theorem dX8_jar_79 : decode cX8_jar 79 = .ok (.aload_n 0, 1) := by decide +kernel
theorem dX8_jar_80 : decode cX8_jar 80 = .ok (.getfield 22, 3) := by decide +kernel
theorem dX8_jar_83 : decode cX8_jar 83 = .ok (.bipush 6, 2) := by decide +kernel
theorem dX8_jar_85 : decode cX8_jar 85 = .ok (.iload_n 1, 1) := by decide +kernel
theorem dX8_jar_86 : decode cX8_jar 86 = .ok (.iadd, 1) := by decide +kernel
theorem dX8_jar_87 : decode cX8_jar 87 = .ok (.iaload, 1) := by decide +kernel
theorem dX8_jar_88 : decode cX8_jar 88 = .ok (.ireturn, 1) := by decide +kernel
theorem dX8_jar_89 : decode cX8_jar 89 = .ok (.aload_n 0, 1) := by decide +kernel
theorem dX8_jar_90 : decode cX8_jar 90 = .ok (.getfield 22, 3) := by decide +kernel
theorem dX8_jar_93 : decode cX8_jar 93 = .ok (.bipush 12, 2) := by decide +kernel
theorem dX8_jar_95 : decode cX8_jar 95 = .ok (.iload_n 1, 1) := by decide +kernel
theorem dX8_jar_96 : decode cX8_jar 96 = .ok (.iadd, 1) := by decide +kernel
theorem dX8_jar_97 : decode cX8_jar 97 = .ok (.iaload, 1) := by decide +kernel
theorem dX8_jar_98 : decode cX8_jar 98 = .ok (.ireturn, 1) := by decide +kernel
theorem dX8_jar_99 : decode cX8_jar 99 = .ok (.aload_n 0, 1) := by decide +kernel
theorem dX8_jar_100 : decode cX8_jar 100 = .ok (.getfield 13, 3) := by decide +kernel
theorem dX8_jar_103 : decode cX8_jar 103 = .ok (.iload_n 1, 1) := by decide +kernel
theorem dX8_jar_104 : decode cX8_jar 104 = .ok (.iaload, 1) := by decide +kernel
theorem dX8_jar_105 : decode cX8_jar 105 = .ok (.ireturn, 1) := by decide +kernel
theorem dX8_jar_106 : decode cX8_jar 106 = .ok (.aload_n 0, 1) := by decide +kernel
theorem dX8_jar_107 : decode cX8_jar 107 = .ok (.getfield 16, 3) := by decide +kernel
theorem dX8_jar_110 : decode cX8_jar 110 = .ok (.iload_n 1, 1) := by decide +kernel
theorem dX8_jar_111 : decode cX8_jar 111 = .ok (.iaload, 1) := by decide +kernel
theorem dX8_jar_112 : decode cX8_jar 112 = .ok (.ireturn, 1) := by decide +kernel
theorem dX8_jar_113 : decode cX8_jar 113 = .ok (.aload_n 0, 1) := by decide +kernel
theorem dX8_jar_114 : decode cX8_jar 114 = .ok (.getfield 22, 3) := by decide +kernel
theorem dX8_jar_117 : decode cX8_jar 117 = .ok (.bipush 18, 2) := by decide +kernel
theorem dX8_jar_119 : decode cX8_jar 119 = .ok (.iload_n 1, 1) := by decide +kernel
theorem dX8_jar_120 : decode cX8_jar 120 = .ok (.iadd, 1) := by decide +kernel
theorem dX8_jar_121 : decode cX8_jar 121 = .ok (.iaload, 1) := by decide +kernel
theorem dX8_jar_122 : decode cX8_jar 122 = .ok (.ireturn, 1) := by decide +kernel
theorem dX8_jar_123 : decode cX8_jar 123 = .ok (.aload_n 0, 1) := by decide +kernel
theorem dX8_jar_124 : decode cX8_jar 124 = .ok (.getfield 22, 3) := by decide +kernel
theorem dX8_jar_127 : decode cX8_jar 127 = .ok (.bipush 24, 2) := by decide +kernel
theorem dX8_jar_129 : decode cX8_jar 129 = .ok (.iload_n 1, 1) := by decide +kernel
theorem dX8_jar_130 : decode cX8_jar 130 = .ok (.iadd, 1) := by decide +kernel
theorem dX8_jar_131 : decode cX8_jar 131 = .ok (.iaload, 1) := by decide +kernel
theorem dX8_jar_132 : decode cX8_jar 132 = .ok (.ireturn, 1) := by decide +kernel
theorem dX8_jar_133 : decode cX8_jar 133 = .ok (.aload_n 0, 1) := by decide +kernel
theorem dX8_jar_134 : decode cX8_jar 134 = .ok (.getfield 22, 3) := by decide +kernel
theorem dX8_jar_137 : decode cX8_jar 137 = .ok (.bipush 30, 2) := by decide +kernel
theorem dX8_jar_139 : decode cX8_jar 139 = .ok (.iload_n 1, 1) := by decide +kernel
theorem dX8_jar_140 : decode cX8_jar 140 = .ok (.iadd, 1) := by decide +kernel
theorem dX8_jar_141 : decode cX8_jar 141 = .ok (.iaload, 1) := by decide +kernel
theorem dX8_jar_142 : decode cX8_jar 142 = .ok (.ireturn, 1) := by decide +kernel
theorem dX8_jar_143 : decode cX8_jar 143 = .ok (.aload_n 0, 1) := by decide +kernel
theorem dX8_jar_144 : decode cX8_jar 144 = .ok (.aload_n 0, 1) := by decide +kernel
theorem dX8_jar_145 : decode cX8_jar 145 = .ok (.getfield 22, 3) := by decide +kernel
theorem dX8_jar_148 : decode cX8_jar 148 = .ok (.iload_n 1, 1) := by decide +kernel
theorem dX8_jar_149 : decode cX8_jar 149 = .ok (.invokevirtual 122, 3) := by decide +kernel
theorem dX8_jar_152 : decode cX8_jar 152 = .ok (.ireturn, 1) := by decide +kernel
theorem dX8_jar_153 : decode cX8_jar 153 = .ok (.bipush (-2), 2) := by decide +kernel
theorem dX8_jar_155 : decode cX8_jar 155 = .ok (.ireturn, 1) := by decide +kernel
theorem dX8_at_0 : decode cX8_at 0 = .ok (.aload_n 0, 1) := by decide +kernel
theorem dX8_at_1 : decode cX8_at 1 = .ok (.iconst 0, 1) := by decide +kernel
theorem dX8_at_2 : decode cX8_at 2 = .ok (.putfield 56, 3) := by decide +kernel
theorem dX8_at_5 : decode cX8_at 5 = .ok (.aload_n 0, 1) := by decide +kernel
theorem dX8_at_6 : decode cX8_at 6 = .ok (.bipush 63, 2) := by decide +kernel
theorem dX8_at_8 : decode cX8_at 8 = .ok (.putfield 109, 3) := by decide +kernel
theorem dX8_at_11 : decode cX8_at 11 = .ok (.iload_n 1, 1) := by decide +kernel
theorem dX8_at_12 : decode cX8_at 12 = .ok (.i2l, 1) := by decide +kernel
theorem dX8_at_13 : decode cX8_at 13 = .ok (.lconst 0, 1) := by decide +kernel
theorem dX8_at_14 : decode cX8_at 14 = .ok (.ldc2_w 78, 3) := by decide +kernel
theorem dX8_at_17 : decode cX8_at 17 = .ok (.invokestatic 63, 3) := by decide +kernel
theorem dX8_at_20 : decode cX8_at 20 = .ok (.ifCond .eq 15, 3) := by decide +kernel
theorem dX8_at_23 : decode cX8_at 23 = .ok (.aload_n 0, 1) := by decide +kernel
theorem dX8_at_24 : decode cX8_at 24 = .ok (.aload_n 0, 1) := by decide +kernel
theorem dX8_at_25 : decode cX8_at 25 = .ok (.getfield 22, 3) := by decide +kernel
theorem dX8_at_28 : decode cX8_at 28 = .ok (.iload_n 1, 1) := by decide +kernel
theorem dX8_at_29 : decode cX8_at 29 = .ok (.invokevirtual 115, 3) := by decide +kernel
theorem dX8_at_32 : decode cX8_at 32 = .ok (.goto 4, 3) := by decide +kernel
theorem dX8_at_35 : decode cX8_at 35 = .ok (.iconst (-1), 1) := by decide +kernel
theorem dX8_at_36 : decode cX8_at 36 = .ok (.ireturn, 1) := by decide +kernel
theorem dX8_note_0 : decode cX8_note 0 = .ok (.aload_n 0, 1) := by decide +kernel
theorem dX8_note_1 : decode cX8_note 1 = .ok (.getfield 99, 3) := by decide +kernel
theorem dX8_note_4 : decode cX8_note 4 = .ok (.bipush 14, 2) := by decide +kernel
theorem dX8_note_6 : decode cX8_note 6 = .ok (.if_icmp .ne 43, 3) := by decide +kernel
theorem dX8_note_9 : decode cX8_note 9 = .ok (.iconst 0, 1) := by decide +kernel
theorem dX8_note_10 : decode cX8_note 10 = .ok (.istore_n 1, 1) := by decide +kernel
theorem dX8_note_11 : decode cX8_note 11 = .ok (.iload_n 1, 1) := by decide +kernel
theorem dX8_note_12 : decode cX8_note 12 = .ok (.sipush 481, 3) := by decide +kernel
theorem dX8_note_15 : decode cX8_note 15 = .ok (.if_icmp .ge 24, 3) := by decide +kernel
theorem dX8_note_18 : decode cX8_note 18 = .ok (.aload_n 0, 1) := by decide +kernel
theorem dX8_note_19 : decode cX8_note 19 = .ok (.getfield 28, 3) := by decide +kernel
theorem dX8_note_22 : decode cX8_note 22 = .ok (.iload_n 1, 1) := by decide +kernel
theorem dX8_note_23 : decode cX8_note 23 = .ok (.aload_n 0, 1) := by decide +kernel
theorem dX8_note_24 : decode cX8_note 24 = .ok (.getfield 28, 3) := by decide +kernel
theorem dX8_note_27 : decode cX8_note 27 = .ok (.iload_n 1, 1) := by decide +kernel
theorem dX8_note_28 : decode cX8_note 28 = .ok (.bipush 37, 2) := by decide +kernel
theorem dX8_note_30 : decode cX8_note 30 = .ok (.iadd, 1) := by decide +kernel
theorem dX8_note_31 : decode cX8_note 31 = .ok (.iaload, 1) := by decide +kernel
theorem dX8_note_32 : decode cX8_note 32 = .ok (.iastore, 1) := by decide +kernel
theorem dX8_note_33 : decode cX8_note 33 = .ok (.iinc 1 1, 3) := by decide +kernel
theorem dX8_note_36 : decode cX8_note 36 = .ok (.goto (-25), 3) := by decide +kernel
theorem dX8_note_39 : decode cX8_note 39 = .ok (.aload_n 0, 1) := by decide +kernel
theorem dX8_note_40 : decode cX8_note 40 = .ok (.dup, 1) := by decide +kernel
theorem dX8_note_41 : decode cX8_note 41 = .ok (.getfield 99, 3) := by decide +kernel
theorem dX8_note_44 : decode cX8_note 44 = .ok (.iconst 1, 1) := by decide +kernel
theorem dX8_note_45 : decode cX8_note 45 = .ok (.isub, 1) := by decide +kernel
theorem dX8_note_46 : decode cX8_note 46 = .ok (.putfield 99, 3) := by decide +kernel
theorem dX8_note_49 : decode cX8_note 49 = .ok (.iconst 0, 1) := by decide +kernel
theorem dX8_note_50 : decode cX8_note 50 = .ok (.istore_n 1, 1) := by decide +kernel
theorem dX8_note_51 : decode cX8_note 51 = .ok (.iload_n 1, 1) := by decide +kernel
theorem dX8_note_52 : decode cX8_note 52 = .ok (.bipush 37, 2) := by decide +kernel
theorem dX8_note_54 : decode cX8_note 54 = .ok (.if_icmp .ge 29, 3) := by decide +kernel
theorem dX8_note_57 : decode cX8_note 57 = .ok (.aload_n 0, 1) := by decide +kernel
theorem dX8_note_58 : decode cX8_note 58 = .ok (.getfield 28, 3) := by decide +kernel
theorem dX8_note_61 : decode cX8_note 61 = .ok (.bipush 37, 2) := by decide +kernel
theorem dX8_note_63 : decode cX8_note 63 = .ok (.aload_n 0, 1) := by decide +kernel
theorem dX8_note_64 : decode cX8_note 64 = .ok (.getfield 99, 3) := by decide +kernel
theorem dX8_note_67 : decode cX8_note 67 = .ok (.imul, 1) := by decide +kernel
theorem dX8_note_68 : decode cX8_note 68 = .ok (.iload_n 1, 1) := by decide +kernel
theorem dX8_note_69 : decode cX8_note 69 = .ok (.iadd, 1) := by decide +kernel
theorem dX8_note_70 : decode cX8_note 70 = .ok (.aload_n 0, 1) := by decide +kernel
theorem dX8_note_71 : decode cX8_note 71 = .ok (.getfield 22, 3) := by decide +kernel
theorem dX8_note_74 : decode cX8_note 74 = .ok (.iload_n 1, 1) := by decide +kernel
theorem dX8_note_75 : decode cX8_note 75 = .ok (.iaload, 1) := by decide +kernel
theorem dX8_note_76 : decode cX8_note 76 = .ok (.iastore, 1) := by decide +kernel
theorem dX8_note_77 : decode cX8_note 77 = .ok (.iinc 1 1, 3) := by decide +kernel
theorem dX8_note_80 : decode cX8_note 80 = .ok (.goto (-29), 3) := by decide +kernel
theorem dX8_note_83 : decode cX8_note 83 = .ok (.aload_n 0, 1) := by decide +kernel
theorem dX8_note_84 : decode cX8_note 84 = .ok (.dup, 1) := by decide +kernel
theorem dX8_note_85 : decode cX8_note 85 = .ok (.getfield 99, 3) := by decide +kernel
theorem dX8_note_88 : decode cX8_note 88 = .ok (.iconst 1, 1) := by decide +kernel
theorem dX8_note_89 : decode cX8_note 89 = .ok (.iadd, 1) := by decide +kernel
theorem dX8_note_90 : decode cX8_note 90 = .ok (.putfield 99, 3) := by decide +kernel
theorem dX8_note_93 : decode cX8_note 93 = .ok (.return_, 1) := by decide +kernel
