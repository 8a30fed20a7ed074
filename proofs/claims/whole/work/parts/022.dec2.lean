theorem dX8_week_0 : decode cX8_week 0 = .ok (.aload_n 0, 1) := by decide +kernel
theorem dX8_week_1 : decode cX8_week 1 = .ok (.iconst 0, 1) := by decide +kernel
theorem dX8_week_2 : decode cX8_week 2 = .ok (.putfield 56, 3) := by decide +kernel
theorem dX8_week_5 : decode cX8_week 5 = .ok (.aload_n 0, 1) := by decide +kernel
theorem dX8_week_6 : decode cX8_week 6 = .ok (.invokevirtual 142, 3) := by decide +kernel
theorem dX8_week_9 : decode cX8_week 9 = .ok (.aload_n 0, 1) := by decide +kernel
theorem dX8_week_10 : decode cX8_week 10 = .ok (.aload_n 0, 1) := by decide +kernel
theorem dX8_week_11 : decode cX8_week 11 = .ok (.getfield 22, 3) := by decide +kernel
theorem dX8_week_14 : decode cX8_week 14 = .ok (.invokevirtual 145, 3) := by decide +kernel
theorem dX8_week_17 : decode cX8_week 17 = .ok (.aload_n 0, 1) := by decide +kernel
theorem dX8_week_18 : decode cX8_week 18 = .ok (.aload_n 0, 1) := by decide +kernel
theorem dX8_week_19 : decode cX8_week 19 = .ok (.getfield 22, 3) := by decide +kernel
theorem dX8_week_22 : decode cX8_week 22 = .ok (.invokevirtual 149, 3) := by decide +kernel
theorem dX8_week_25 : decode cX8_week 25 = .ok (.ireturn, 1) := by decide +kernel
theorem dX8_shake_0 : decode cX8_shake 0 = .ok (.aload_n 0, 1) := by decide +kernel
theorem dX8_shake_1 : decode cX8_shake 1 = .ok (.iconst 0, 1) := by decide +kernel
theorem dX8_shake_2 : decode cX8_shake 2 = .ok (.putfield 56, 3) := by decide +kernel
theorem dX8_shake_5 : decode cX8_shake 5 = .ok (.aload_n 0, 1) := by decide +kernel
theorem dX8_shake_6 : decode cX8_shake 6 = .ok (.invokevirtual 142, 3) := by decide +kernel
theorem dX8_shake_9 : decode cX8_shake 9 = .ok (.aload_n 0, 1) := by decide +kernel
theorem dX8_shake_10 : decode cX8_shake 10 = .ok (.aload_n 0, 1) := by decide +kernel
theorem dX8_shake_11 : decode cX8_shake 11 = .ok (.getfield 22, 3) := by decide +kernel
theorem dX8_shake_14 : decode cX8_shake 14 = .ok (.invokevirtual 152, 3) := by decide +kernel
theorem dX8_shake_17 : decode cX8_shake 17 = .ok (.ireturn, 1) := by decide +kernel
theorem dX8_canSet_0 : decode cX8_canSet 0 = .ok (.aload_n 1, 1) := by decide +kernel
theorem dX8_canSet_1 : decode cX8_canSet 1 = .ok (.iload_n 2, 1) := by decide +kernel
theorem dX8_canSet_2 : decode cX8_canSet 2 = .ok (.invokestatic 102, 3) := by decide +kernel
theorem dX8_canSet_5 : decode cX8_canSet 5 = .ok (.ifCond .eq 18, 3) := by decide +kernel
theorem dX8_canSet_8 : decode cX8_canSet 8 = .ok (.aload_n 0, 1) := by decide +kernel
theorem dX8_canSet_9 : decode cX8_canSet 9 = .ok (.aload_n 1, 1) := by decide +kernel
theorem dX8_canSet_10 : decode cX8_canSet 10 = .ok (.iload_n 3, 1) := by decide +kernel
theorem dX8_canSet_11 : decode cX8_canSet 11 = .ok (.invokevirtual 115, 3) := by decide +kernel
theorem dX8_canSet_14 : decode cX8_canSet 14 = .ok (.bipush (-9), 2) := by decide +kernel
theorem dX8_canSet_16 : decode cX8_canSet 16 = .ok (.if_icmp .ne 7, 3) := by decide +kernel
theorem dX8_canSet_19 : decode cX8_canSet 19 = .ok (.iconst 1, 1) := by decide +kernel
theorem dX8_canSet_20 : decode cX8_canSet 20 = .ok (.goto 4, 3) := by decide +kernel
theorem dX8_canSet_23 : decode cX8_canSet 23 = .ok (.iconst 0, 1) := by decide +kernel
theorem dX8_canSet_24 : decode cX8_canSet 24 = .ok (.ireturn, 1) := by decide +kernel
theorem dX8_set_0 : decode cX8_set 0 = .ok (.aload_n 0, 1) := by decide +kernel
theorem dX8_set_1 : decode cX8_set 1 = .ok (.iconst 0, 1) := by decide +kernel
theorem dX8_set_2 : decode cX8_set 2 = .ok (.putfield 56, 3) := by decide +kernel
theorem dX8_set_5 : decode cX8_set 5 = .ok (.aload_n 0, 1) := by decide +kernel
theorem dX8_set_6 : decode cX8_set 6 = .ok (.bipush 63, 2) := by decide +kernel
theorem dX8_set_8 : decode cX8_set 8 = .ok (.putfield 109, 3) := by decide +kernel
theorem dX8_set_11 : decode cX8_set 11 = .ok (.aload_n 0, 1) := by decide +kernel
theorem dX8_set_12 : decode cX8_set 12 = .ok (.iload_n 1, 1) := by decide +kernel
theorem dX8_set_13 : decode cX8_set 13 = .ok (.invokevirtual 138, 3) := by decide +kernel
theorem dX8_set_16 : decode cX8_set 16 = .ok (.ifCond .ne 15, 3) := by decide +kernel
theorem dX8_set_19 : decode cX8_set 19 = .ok (.iload_n 2, 1) := by decide +kernel
theorem dX8_set_20 : decode cX8_set 20 = .ok (.i2l, 1) := by decide +kernel
theorem dX8_set_21 : decode cX8_set 21 = .ok (.lconst 0, 1) := by decide +kernel
theorem dX8_set_22 : decode cX8_set 22 = .ok (.ldc2_w 78, 3) := by decide +kernel
theorem dX8_set_25 : decode cX8_set 25 = .ok (.invokestatic 63, 3) := by decide +kernel
theorem dX8_set_28 : decode cX8_set 28 = .ok (.ifCond .ne 5, 3) := by decide +kernel
theorem dX8_set_31 : decode cX8_set 31 = .ok (.iconst (-1), 1) := by decide +kernel
theorem dX8_set_32 : decode cX8_set 32 = .ok (.ireturn, 1) := by decide +kernel
theorem dX8_set_33 : decode cX8_set 33 = .ok (.aload_n 0, 1) := by decide +kernel
theorem dX8_set_34 : decode cX8_set 34 = .ok (.aload_n 0, 1) := by decide +kernel
theorem dX8_set_35 : decode cX8_set 35 = .ok (.getfield 22, 3) := by decide +kernel
theorem dX8_set_38 : decode cX8_set 38 = .ok (.iload_n 1, 1) := by decide +kernel
theorem dX8_set_39 : decode cX8_set 39 = .ok (.iload_n 2, 1) := by decide +kernel
theorem dX8_set_40 : decode cX8_set 40 = .ok (.invokevirtual 155, 3) := by decide +kernel
theorem dX8_set_43 : decode cX8_set 43 = .ok (.ifCond .ne 6, 3) := by decide +kernel
theorem dX8_set_46 : decode cX8_set 46 = .ok (.bipush (-3), 2) := by decide +kernel
theorem dX8_set_48 : decode cX8_set 48 = .ok (.ireturn, 1) := by decide +kernel
theorem dX8_set_49 : decode cX8_set 49 = .ok (.aload_n 0, 1) := by decide +kernel
theorem dX8_set_50 : decode cX8_set 50 = .ok (.invokevirtual 142, 3) := by decide +kernel
theorem dX8_set_53 : decode cX8_set 53 = .ok (.aload_n 0, 1) := by decide +kernel
theorem dX8_set_54 : decode cX8_set 54 = .ok (.getfield 22, 3) := by decide +kernel
theorem dX8_set_57 : decode cX8_set 57 = .ok (.iload_n 1, 1) := by decide +kernel
theorem dX8_set_58 : decode cX8_set 58 = .ok (.iaload, 1) := by decide +kernel
theorem dX8_set_59 : decode cX8_set 59 = .ok (.istore_n 3, 1) := by decide +kernel
theorem dX8_set_60 : decode cX8_set 60 = .ok (.aload_n 0, 1) := by decide +kernel
theorem dX8_set_61 : decode cX8_set 61 = .ok (.getfield 22, 3) := by decide +kernel
theorem dX8_set_64 : decode cX8_set 64 = .ok (.iload_n 1, 1) := by decide +kernel
theorem dX8_set_65 : decode cX8_set 65 = .ok (.iload_n 2, 1) := by decide +kernel
theorem dX8_set_66 : decode cX8_set 66 = .ok (.iastore, 1) := by decide +kernel
theorem dX8_set_67 : decode cX8_set 67 = .ok (.iload_n 3, 1) := by decide +kernel
theorem dX8_set_68 : decode cX8_set 68 = .ok (.ireturn, 1) := by decide +kernel
theorem dX8_canPour_0 : decode cX8_canPour 0 = .ok (.aload_n 0, 1) := by decide +kernel
theorem dX8_canPour_1 : decode cX8_canPour 1 = .ok (.iload_n 1, 1) := by decide +kernel
theorem dX8_canPour_2 : decode cX8_canPour 2 = .ok (.invokestatic 102, 3) := by decide +kernel
theorem dX8_canPour_5 : decode cX8_canPour 5 = .ok (.ifCond .eq 17, 3) := by decide +kernel
theorem dX8_canPour_8 : decode cX8_canPour 8 = .ok (.aload_n 0, 1) := by decide +kernel
theorem dX8_canPour_9 : decode cX8_canPour 9 = .ok (.bipush 12, 2) := by decide +kernel
theorem dX8_canPour_11 : decode cX8_canPour 11 = .ok (.iload_n 1, 1) := by decide +kernel
theorem dX8_canPour_12 : decode cX8_canPour 12 = .ok (.iadd, 1) := by decide +kernel
theorem dX8_canPour_13 : decode cX8_canPour 13 = .ok (.iaload, 1) := by decide +kernel
theorem dX8_canPour_14 : decode cX8_canPour 14 = .ok (.iload_n 2, 1) := by decide +kernel
theorem dX8_canPour_15 : decode cX8_canPour 15 = .ok (.if_icmp .eq 7, 3) := by decide +kernel
theorem dX8_canPour_18 : decode cX8_canPour 18 = .ok (.iconst 1, 1) := by decide +kernel
theorem dX8_canPour_19 : decode cX8_canPour 19 = .ok (.goto 4, 3) := by decide +kernel
theorem dX8_canPour_22 : decode cX8_canPour 22 = .ok (.iconst 0, 1) := by decide +kernel
theorem dX8_canPour_23 : decode cX8_canPour 23 = .ok (.ireturn, 1) := by decide +kernel
theorem dX8_goPour_0 : decode cX8_goPour 0 = .ok (.aload_n 0, 1) := by decide +kernel
theorem dX8_goPour_1 : decode cX8_goPour 1 = .ok (.bipush 12, 2) := by decide +kernel
theorem dX8_goPour_3 : decode cX8_goPour 3 = .ok (.iload_n 1, 1) := by decide +kernel
theorem dX8_goPour_4 : decode cX8_goPour 4 = .ok (.iadd, 1) := by decide +kernel
theorem dX8_goPour_5 : decode cX8_goPour 5 = .ok (.iload_n 2, 1) := by decide +kernel
theorem dX8_goPour_6 : decode cX8_goPour 6 = .ok (.iastore, 1) := by decide +kernel
theorem dX8_goPour_7 : decode cX8_goPour 7 = .ok (.aload_n 0, 1) := by decide +kernel
theorem dX8_goPour_8 : decode cX8_goPour 8 = .ok (.bipush 18, 2) := by decide +kernel
theorem dX8_goPour_10 : decode cX8_goPour 10 = .ok (.iload_n 1, 1) := by decide +kernel
theorem dX8_goPour_11 : decode cX8_goPour 11 = .ok (.iadd, 1) := by decide +kernel
theorem dX8_goPour_12 : decode cX8_goPour 12 = .ok (.iconst 0, 1) := by decide +kernel
theorem dX8_goPour_13 : decode cX8_goPour 13 = .ok (.iastore, 1) := by decide +kernel
theorem dX8_goPour_14 : decode cX8_goPour 14 = .ok (.return_, 1) := by decide +kernel
theorem dX8_pour_0 : decode cX8_pour 0 = .ok (.aload_n 0, 1) := by decide +kernel
theorem dX8_pour_1 : decode cX8_pour 1 = .ok (.iconst 0, 1) := by decide +kernel
theorem dX8_pour_2 : decode cX8_pour 2 = .ok (.putfield 56, 3) := by decide +kernel
theorem dX8_pour_5 : decode cX8_pour 5 = .ok (.aload_n 0, 1) := by decide +kernel
theorem dX8_pour_6 : decode cX8_pour 6 = .ok (.iload_n 1, 1) := by decide +kernel
theorem dX8_pour_7 : decode cX8_pour 7 = .ok (.invokevirtual 138, 3) := by decide +kernel
theorem dX8_pour_10 : decode cX8_pour 10 = .ok (.ifCond .ne 15, 3) := by decide +kernel
theorem dX8_pour_13 : decode cX8_pour 13 = .ok (.iload_n 2, 1) := by decide +kernel
theorem dX8_pour_14 : decode cX8_pour 14 = .ok (.i2l, 1) := by decide +kernel
theorem dX8_pour_15 : decode cX8_pour 15 = .ok (.lconst 0, 1) := by decide +kernel
theorem dX8_pour_16 : decode cX8_pour 16 = .ok (.ldc2_w 159, 3) := by decide +kernel
theorem dX8_pour_19 : decode cX8_pour 19 = .ok (.invokestatic 63, 3) := by decide +kernel
theorem dX8_pour_22 : decode cX8_pour 22 = .ok (.ifCond .ne 5, 3) := by decide +kernel
theorem dX8_pour_25 : decode cX8_pour 25 = .ok (.iconst (-1), 1) := by decide +kernel
theorem dX8_pour_26 : decode cX8_pour 26 = .ok (.ireturn, 1) := by decide +kernel
theorem dX8_pour_27 : decode cX8_pour 27 = .ok (.aload_n 0, 1) := by decide +kernel
theorem dX8_pour_28 : decode cX8_pour 28 = .ok (.getfield 22, 3) := by decide +kernel
theorem dX8_pour_31 : decode cX8_pour 31 = .ok (.iload_n 1, 1) := by decide +kernel
theorem dX8_pour_32 : decode cX8_pour 32 = .ok (.iload_n 2, 1) := by decide +kernel
theorem dX8_pour_33 : decode cX8_pour 33 = .ok (.invokestatic 161, 3) := by decide +kernel
theorem dX8_pour_36 : decode cX8_pour 36 = .ok (.ifCond .ne 6, 3) := by decide +kernel
theorem dX8_pour_39 : decode cX8_pour 39 = .ok (.bipush (-3), 2) := by decide +kernel
theorem dX8_pour_41 : decode cX8_pour 41 = .ok (.ireturn, 1) := by decide +kernel
theorem dX8_pour_42 : decode cX8_pour 42 = .ok (.aload_n 0, 1) := by decide +kernel
theorem dX8_pour_43 : decode cX8_pour 43 = .ok (.invokevirtual 142, 3) := by decide +kernel
theorem dX8_pour_46 : decode cX8_pour 46 = .ok (.aload_n 0, 1) := by decide +kernel
theorem dX8_pour_47 : decode cX8_pour 47 = .ok (.getfield 22, 3) := by decide +kernel
theorem dX8_pour_50 : decode cX8_pour 50 = .ok (.bipush 12, 2) := by decide +kernel
theorem dX8_pour_52 : decode cX8_pour 52 = .ok (.iload_n 1, 1) := by decide +kernel
theorem dX8_pour_53 : decode cX8_pour 53 = .ok (.iadd, 1) := by decide +kernel
theorem dX8_pour_54 : decode cX8_pour 54 = .ok (.iaload, 1) := by decide +kernel
theorem dX8_pour_55 : decode cX8_pour 55 = .ok (.istore_n 3, 1) := by decide +kernel
theorem dX8_pour_56 : decode cX8_pour 56 = .ok (.aload_n 0, 1) := by decide +kernel
theorem dX8_pour_57 : decode cX8_pour 57 = .ok (.getfield 22, 3) := by decide +kernel
theorem dX8_pour_60 : decode cX8_pour 60 = .ok (.iload_n 1, 1) := by decide +kernel
theorem dX8_pour_61 : decode cX8_pour 61 = .ok (.iload_n 2, 1) := by decide +kernel
theorem dX8_pour_62 : decode cX8_pour 62 = .ok (.invokestatic 164, 3) := by decide +kernel
theorem dX8_pour_65 : decode cX8_pour 65 = .ok (.iload_n 3, 1) := by decide +kernel
theorem dX8_pour_66 : decode cX8_pour 66 = .ok (.ireturn, 1) := by decide +kernel
theorem dX8_open_0 : decode cX8_open 0 = .ok (.aload_n 0, 1) := by decide +kernel
theorem dX8_open_1 : decode cX8_open 1 = .ok (.iconst 0, 1) := by decide +kernel
theorem dX8_open_2 : decode cX8_open 2 = .ok (.putfield 56, 3) := by decide +kernel
theorem dX8_open_5 : decode cX8_open 5 = .ok (.aload_n 0, 1) := by decide +kernel
theorem dX8_open_6 : decode cX8_open 6 = .ok (.iload_n 1, 1) := by decide +kernel
theorem dX8_open_7 : decode cX8_open 7 = .ok (.invokevirtual 138, 3) := by decide +kernel
theorem dX8_open_10 : decode cX8_open 10 = .ok (.ifCond .eq 5, 3) := by decide +kernel
theorem dX8_open_13 : decode cX8_open 13 = .ok (.iconst (-1), 1) := by decide +kernel
theorem dX8_open_14 : decode cX8_open 14 = .ok (.ireturn, 1) := by decide +kernel
theorem dX8_open_15 : decode cX8_open 15 = .ok (.aload_n 0, 1) := by decide +kernel
theorem dX8_open_16 : decode cX8_open 16 = .ok (.getfield 22, 3) := by decide +kernel
theorem dX8_open_19 : decode cX8_open 19 = .ok (.iload_n 1, 1) := by decide +kernel
theorem dX8_open_20 : decode cX8_open 20 = .ok (.invokestatic 102, 3) := by decide +kernel
theorem dX8_open_23 : decode cX8_open 23 = .ok (.ifCond .ne 6, 3) := by decide +kernel
theorem dX8_open_26 : decode cX8_open 26 = .ok (.bipush (-3), 2) := by decide +kernel
theorem dX8_open_28 : decode cX8_open 28 = .ok (.ireturn, 1) := by decide +kernel
theorem dX8_open_29 : decode cX8_open 29 = .ok (.aload_n 0, 1) := by decide +kernel
theorem dX8_open_30 : decode cX8_open 30 = .ok (.invokevirtual 142, 3) := by decide +kernel
theorem dX8_open_33 : decode cX8_open 33 = .ok (.aload_n 0, 1) := by decide +kernel
theorem dX8_open_34 : decode cX8_open 34 = .ok (.getfield 22, 3) := by decide +kernel
theorem dX8_open_37 : decode cX8_open 37 = .ok (.bipush 30, 2) := by decide +kernel
theorem dX8_open_39 : decode cX8_open 39 = .ok (.iload_n 1, 1) := by decide +kernel
theorem dX8_open_40 : decode cX8_open 40 = .ok (.iadd, 1) := by decide +kernel
theorem dX8_open_41 : decode cX8_open 41 = .ok (.iconst 2, 1) := by decide +kernel
theorem dX8_open_42 : decode cX8_open 42 = .ok (.iastore, 1) := by decide +kernel
theorem dX8_open_43 : decode cX8_open 43 = .ok (.aload_n 0, 1) := by decide +kernel
theorem dX8_open_44 : decode cX8_open 44 = .ok (.getfield 22, 3) := by decide +kernel
theorem dX8_open_47 : decode cX8_open 47 = .ok (.bipush 6, 2) := by decide +kernel
theorem dX8_open_49 : decode cX8_open 49 = .ok (.iload_n 1, 1) := by decide +kernel
theorem dX8_open_50 : decode cX8_open 50 = .ok (.iadd, 1) := by decide +kernel
theorem dX8_open_51 : decode cX8_open 51 = .ok (.iaload, 1) := by decide +kernel
theorem dX8_open_52 : decode cX8_open 52 = .ok (.ireturn, 1) := by decide +kernel
theorem dX8_undo_0 : decode cX8_undo 0 = .ok (.aload_n 0, 1) := by decide +kernel
theorem dX8_undo_1 : decode cX8_undo 1 = .ok (.iconst 0, 1) := by decide +kernel
theorem dX8_undo_2 : decode cX8_undo 2 = .ok (.putfield 56, 3) := by decide +kernel
theorem dX8_undo_5 : decode cX8_undo 5 = .ok (.aload_n 0, 1) := by decide +kernel
theorem dX8_undo_6 : decode cX8_undo 6 = .ok (.getfield 99, 3) := by decide +kernel
theorem dX8_undo_9 : decode cX8_undo 9 = .ok (.ifCond .ne 6, 3) := by decide +kernel
theorem dX8_undo_12 : decode cX8_undo 12 = .ok (.bipush (-3), 2) := by decide +kernel
theorem dX8_undo_14 : decode cX8_undo 14 = .ok (.ireturn, 1) := by decide +kernel
theorem dX8_undo_15 : decode cX8_undo 15 = .ok (.aload_n 0, 1) := by decide +kernel
theorem dX8_undo_16 : decode cX8_undo 16 = .ok (.dup, 1) := by decide +kernel
theorem dX8_undo_17 : decode cX8_undo 17 = .ok (.getfield 99, 3) := by decide +kernel
theorem dX8_undo_20 : decode cX8_undo 20 = .ok (.iconst 1, 1) := by decide +kernel
theorem dX8_undo_21 : decode cX8_undo 21 = .ok (.isub, 1) := by decide +kernel
theorem dX8_undo_22 : decode cX8_undo 22 = .ok (.putfield 99, 3) := by decide +kernel
theorem dX8_undo_25 : decode cX8_undo 25 = .ok (.iconst 0, 1) := by decide +kernel
theorem dX8_undo_26 : decode cX8_undo 26 = .ok (.istore_n 1, 1) := by decide +kernel
theorem dX8_undo_27 : decode cX8_undo 27 = .ok (.iload_n 1, 1) := by decide +kernel
theorem dX8_undo_28 : decode cX8_undo 28 = .ok (.bipush 37, 2) := by decide +kernel
theorem dX8_undo_30 : decode cX8_undo 30 = .ok (.if_icmp .ge 29, 3) := by decide +kernel
theorem dX8_undo_33 : decode cX8_undo 33 = .ok (.aload_n 0, 1) := by decide +kernel
theorem dX8_undo_34 : decode cX8_undo 34 = .ok (.getfield 22, 3) := by decide +kernel
theorem dX8_undo_37 : decode cX8_undo 37 = .ok (.iload_n 1, 1) := by decide +kernel
theorem dX8_undo_38 : decode cX8_undo 38 = .ok (.aload_n 0, 1) := by decide +kernel
theorem dX8_undo_39 : decode cX8_undo 39 = .ok (.getfield 28, 3) := by decide +kernel
theorem dX8_undo_42 : decode cX8_undo 42 = .ok (.bipush 37, 2) := by decide +kernel
theorem dX8_undo_44 : decode cX8_undo 44 = .ok (.aload_n 0, 1) := by decide +kernel
theorem dX8_undo_45 : decode cX8_undo 45 = .ok (.getfield 99, 3) := by decide +kernel
theorem dX8_undo_48 : decode cX8_undo 48 = .ok (.imul, 1) := by decide +kernel
theorem dX8_undo_49 : decode cX8_undo 49 = .ok (.iload_n 1, 1) := by decide +kernel
theorem dX8_undo_50 : decode cX8_undo 50 = .ok (.iadd, 1) := by decide +kernel
theorem dX8_undo_51 : decode cX8_undo 51 = .ok (.iaload, 1) := by decide +kernel
theorem dX8_undo_52 : decode cX8_undo 52 = .ok (.iastore, 1) := by decide +kernel
theorem dX8_undo_53 : decode cX8_undo 53 = .ok (.iinc 1 1, 3) := by decide +kernel
theorem dX8_undo_56 : decode cX8_undo 56 = .ok (.goto (-29), 3) := by decide +kernel
theorem dX8_undo_59 : decode cX8_undo 59 = .ok (.aload_n 0, 1) := by decide +kernel
theorem dX8_undo_60 : decode cX8_undo 60 = .ok (.getfield 99, 3) := by decide +kernel
theorem dX8_undo_63 : decode cX8_undo 63 = .ok (.ireturn, 1) := by decide +kernel
theorem dX8_begin_0 : decode cX8_begin 0 = .ok (.aload_n 0, 1) := by decide +kernel
theorem dX8_begin_1 : decode cX8_begin 1 = .ok (.bipush 63, 2) := by decide +kernel
theorem dX8_begin_3 : decode cX8_begin 3 = .ok (.putfield 109, 3) := by decide +kernel
theorem dX8_begin_6 : decode cX8_begin 6 = .ok (.iconst 0, 1) := by decide +kernel
theorem dX8_begin_7 : decode cX8_begin 7 = .ok (.istore_n 1, 1) := by decide +kernel
theorem dX8_begin_8 : decode cX8_begin 8 = .ok (.iload_n 1, 1) := by decide +kernel
theorem dX8_begin_9 : decode cX8_begin 9 = .ok (.bipush 37, 2) := by decide +kernel
theorem dX8_begin_11 : decode cX8_begin 11 = .ok (.if_icmp .ge 21, 3) := by decide +kernel
theorem dX8_begin_14 : decode cX8_begin 14 = .ok (.aload_n 0, 1) := by decide +kernel
theorem dX8_begin_15 : decode cX8_begin 15 = .ok (.getfield 25, 3) := by decide +kernel
theorem dX8_begin_18 : decode cX8_begin 18 = .ok (.iload_n 1, 1) := by decide +kernel
theorem dX8_begin_19 : decode cX8_begin 19 = .ok (.aload_n 0, 1) := by decide +kernel
theorem dX8_begin_20 : decode cX8_begin 20 = .ok (.getfield 22, 3) := by decide +kernel
theorem dX8_begin_23 : decode cX8_begin 23 = .ok (.iload_n 1, 1) := by decide +kernel
theorem dX8_begin_24 : decode cX8_begin 24 = .ok (.iaload, 1) := by decide +kernel
theorem dX8_begin_25 : decode cX8_begin 25 = .ok (.iastore, 1) := by decide +kernel
theorem dX8_begin_26 : decode cX8_begin 26 = .ok (.iinc 1 1, 3) := by decide +kernel
theorem dX8_begin_29 : decode cX8_begin 29 = .ok (.goto (-21), 3) := by decide +kernel
theorem dX8_begin_32 : decode cX8_begin 32 = .ok (.return_, 1) := by decide +kernel
theorem dX8_goWeeks_0 : decode cX8_goWeeks 0 = .ok (.iconst 0, 1) := by decide +kernel
theorem dX8_goWeeks_1 : decode cX8_goWeeks 1 = .ok (.istore_n 2, 1) := by decide +kernel
theorem dX8_goWeeks_2 : decode cX8_goWeeks 2 = .ok (.iload_n 2, 1) := by decide +kernel
theorem dX8_goWeeks_3 : decode cX8_goWeeks 3 = .ok (.iload_n 1, 1) := by decide +kernel
theorem dX8_goWeeks_4 : decode cX8_goWeeks 4 = .ok (.if_icmp .ge 17, 3) := by decide +kernel
theorem dX8_goWeeks_7 : decode cX8_goWeeks 7 = .ok (.aload_n 0, 1) := by decide +kernel
theorem dX8_goWeeks_8 : decode cX8_goWeeks 8 = .ok (.aload_n 0, 1) := by decide +kernel
theorem dX8_goWeeks_9 : decode cX8_goWeeks 9 = .ok (.getfield 25, 3) := by decide +kernel
theorem dX8_goWeeks_12 : decode cX8_goWeeks 12 = .ok (.invokevirtual 145, 3) := by decide +kernel
theorem dX8_goWeeks_15 : decode cX8_goWeeks 15 = .ok (.iinc 2 1, 3) := by decide +kernel
theorem dX8_goWeeks_18 : decode cX8_goWeeks 18 = .ok (.goto (-16), 3) := by decide +kernel
theorem dX8_goWeeks_21 : decode cX8_goWeeks 21 = .ok (.return_, 1) := by decide +kernel
theorem dX8_later_0 : decode cX8_later 0 = .ok (.aload_n 0, 1) := by decide +kernel
theorem dX8_later_1 : decode cX8_later 1 = .ok (.iconst 0, 1) := by decide +kernel
theorem dX8_later_2 : decode cX8_later 2 = .ok (.putfield 56, 3) := by decide +kernel
theorem dX8_later_5 : decode cX8_later 5 = .ok (.aload_n 0, 1) := by decide +kernel
theorem dX8_later_6 : decode cX8_later 6 = .ok (.iload_n 1, 1) := by decide +kernel
theorem dX8_later_7 : decode cX8_later 7 = .ok (.invokevirtual 138, 3) := by decide +kernel
theorem dX8_later_10 : decode cX8_later 10 = .ok (.ifCond .eq 5, 3) := by decide +kernel
theorem dX8_later_13 : decode cX8_later 13 = .ok (.iconst (-1), 1) := by decide +kernel
theorem dX8_later_14 : decode cX8_later 14 = .ok (.ireturn, 1) := by decide +kernel
theorem dX8_later_15 : decode cX8_later 15 = .ok (.iload_n 2, 1) := by decide +kernel
theorem dX8_later_16 : decode cX8_later 16 = .ok (.i2l, 1) := by decide +kernel
theorem dX8_later_17 : decode cX8_later 17 = .ok (.lconst 0, 1) := by decide +kernel
theorem dX8_later_18 : decode cX8_later 18 = .ok (.ldc2_w 168, 3) := by decide +kernel
theorem dX8_later_21 : decode cX8_later 21 = .ok (.invokestatic 63, 3) := by decide +kernel
theorem dX8_later_24 : decode cX8_later 24 = .ok (.ifCond .eq 13, 3) := by decide +kernel
theorem dX8_later_27 : decode cX8_later 27 = .ok (.iload_n 3, 1) := by decide +kernel
theorem dX8_later_28 : decode cX8_later 28 = .ok (.i2l, 1) := by decide +kernel
theorem dX8_later_29 : decode cX8_later 29 = .ok (.lconst 0, 1) := by decide +kernel
theorem dX8_later_30 : decode cX8_later 30 = .ok (.lconst 1, 1) := by decide +kernel
theorem dX8_later_31 : decode cX8_later 31 = .ok (.invokestatic 63, 3) := by decide +kernel
theorem dX8_later_34 : decode cX8_later 34 = .ok (.ifCond .ne 6, 3) := by decide +kernel
theorem dX8_later_37 : decode cX8_later 37 = .ok (.bipush (-2), 2) := by decide +kernel
theorem dX8_later_39 : decode cX8_later 39 = .ok (.ireturn, 1) := by decide +kernel
theorem dX8_later_40 : decode cX8_later 40 = .ok (.aload_n 0, 1) := by decide +kernel
theorem dX8_later_41 : decode cX8_later 41 = .ok (.invokevirtual 170, 3) := by decide +kernel
theorem dX8_later_44 : decode cX8_later 44 = .ok (.aload_n 0, 1) := by decide +kernel
theorem dX8_later_45 : decode cX8_later 45 = .ok (.iload_n 2, 1) := by decide +kernel
theorem dX8_later_46 : decode cX8_later 46 = .ok (.invokevirtual 173, 3) := by decide +kernel
theorem dX8_later_49 : decode cX8_later 49 = .ok (.iload_n 3, 1) := by decide +kernel
theorem dX8_later_50 : decode cX8_later 50 = .ok (.ifCond .ne 15, 3) := by decide +kernel
theorem dX8_later_53 : decode cX8_later 53 = .ok (.aload_n 0, 1) := by decide +kernel
theorem dX8_later_54 : decode cX8_later 54 = .ok (.getfield 25, 3) := by decide +kernel
theorem dX8_later_57 : decode cX8_later 57 = .ok (.bipush 6, 2) := by decide +kernel
theorem dX8_later_59 : decode cX8_later 59 = .ok (.iload_n 1, 1) := by decide +kernel
theorem dX8_later_60 : decode cX8_later 60 = .ok (.iadd, 1) := by decide +kernel
theorem dX8_later_61 : decode cX8_later 61 = .ok (.iaload, 1) := by decide +kernel
theorem dX8_later_62 : decode cX8_later 62 = .ok (.goto 12, 3) := by decide +kernel
theorem dX8_later_65 : decode cX8_later 65 = .ok (.aload_n 0, 1) := by decide +kernel
theorem dX8_later_66 : decode cX8_later 66 = .ok (.aload_n 0, 1) := by decide +kernel
theorem dX8_later_67 : decode cX8_later 67 = .ok (.getfield 25, 3) := by decide +kernel
theorem dX8_later_70 : decode cX8_later 70 = .ok (.iload_n 1, 1) := by decide +kernel
theorem dX8_later_71 : decode cX8_later 71 = .ok (.invokevirtual 122, 3) := by decide +kernel
theorem dX8_later_74 : decode cX8_later 74 = .ok (.ireturn, 1) := by decide +kernel
theorem dX8_becomes_0 : decode cX8_becomes 0 = .ok (.aload_n 0, 1) := by decide +kernel
theorem dX8_becomes_1 : decode cX8_becomes 1 = .ok (.iconst 0, 1) := by decide +kernel
theorem dX8_becomes_2 : decode cX8_becomes 2 = .ok (.putfield 56, 3) := by decide +kernel
theorem dX8_becomes_5 : decode cX8_becomes 5 = .ok (.aload_n 0, 1) := by decide +kernel
theorem dX8_becomes_6 : decode cX8_becomes 6 = .ok (.iload_n 1, 1) := by decide +kernel
theorem dX8_becomes_7 : decode cX8_becomes 7 = .ok (.invokevirtual 138, 3) := by decide +kernel
theorem dX8_becomes_10 : decode cX8_becomes 10 = .ok (.ifCond .eq 5, 3) := by decide +kernel
theorem dX8_becomes_13 : decode cX8_becomes 13 = .ok (.iconst (-1), 1) := by decide +kernel
theorem dX8_becomes_14 : decode cX8_becomes 14 = .ok (.ireturn, 1) := by decide +kernel
theorem dX8_becomes_15 : decode cX8_becomes 15 = .ok (.iload_n 2, 1) := by decide +kernel
theorem dX8_becomes_16 : decode cX8_becomes 16 = .ok (.i2l, 1) := by decide +kernel
theorem dX8_becomes_17 : decode cX8_becomes 17 = .ok (.lconst 0, 1) := by decide +kernel
theorem dX8_becomes_18 : decode cX8_becomes 18 = .ok (.ldc2_w 177, 3) := by decide +kernel
theorem dX8_becomes_21 : decode cX8_becomes 21 = .ok (.invokestatic 63, 3) := by decide +kernel
theorem dX8_becomes_24 : decode cX8_becomes 24 = .ok (.ifCond .ne 6, 3) := by decide +kernel
theorem dX8_becomes_27 : decode cX8_becomes 27 = .ok (.bipush (-2), 2) := by decide +kernel
theorem dX8_becomes_29 : decode cX8_becomes 29 = .ok (.ireturn, 1) := by decide +kernel
theorem dX8_becomes_30 : decode cX8_becomes 30 = .ok (.aload_n 0, 1) := by decide +kernel
theorem dX8_becomes_31 : decode cX8_becomes 31 = .ok (.getfield 22, 3) := by decide +kernel
theorem dX8_becomes_34 : decode cX8_becomes 34 = .ok (.iload_n 1, 1) := by decide +kernel
theorem dX8_becomes_35 : decode cX8_becomes 35 = .ok (.invokestatic 102, 3) := by decide +kernel
theorem dX8_becomes_38 : decode cX8_becomes 38 = .ok (.ifCond .ne 6, 3) := by decide +kernel
theorem dX8_becomes_41 : decode cX8_becomes 41 = .ok (.bipush (-3), 2) := by decide +kernel
theorem dX8_becomes_43 : decode cX8_becomes 43 = .ok (.ireturn, 1) := by decide +kernel
theorem dX8_becomes_44 : decode cX8_becomes 44 = .ok (.aload_n 0, 1) := by decide +kernel
theorem dX8_becomes_45 : decode cX8_becomes 45 = .ok (.invokevirtual 170, 3) := by decide +kernel
theorem dX8_becomes_48 : decode cX8_becomes 48 = .ok (.iconst 0, 1) := by decide +kernel
theorem dX8_becomes_49 : decode cX8_becomes 49 = .ok (.istore_n 3, 1) := by decide +kernel
theorem dX8_becomes_50 : decode cX8_becomes 50 = .ok (.iload_n 3, 1) := by decide +kernel
theorem dX8_becomes_51 : decode cX8_becomes 51 = .ok (.bipush 20, 2) := by decide +kernel
theorem dX8_becomes_53 : decode cX8_becomes 53 = .ok (.if_icmp .gt 32, 3) := by decide +kernel
theorem dX8_becomes_56 : decode cX8_becomes 56 = .ok (.aload_n 0, 1) := by decide +kernel
theorem dX8_becomes_57 : decode cX8_becomes 57 = .ok (.getfield 25, 3) := by decide +kernel
theorem dX8_becomes_60 : decode cX8_becomes 60 = .ok (.bipush 6, 2) := by decide +kernel
theorem dX8_becomes_62 : decode cX8_becomes 62 = .ok (.iload_n 1, 1) := by decide +kernel
theorem dX8_becomes_63 : decode cX8_becomes 63 = .ok (.iadd, 1) := by decide +kernel
theorem dX8_becomes_64 : decode cX8_becomes 64 = .ok (.iaload, 1) := by decide +kernel
theorem dX8_becomes_65 : decode cX8_becomes 65 = .ok (.iload_n 2, 1) := by decide +kernel
theorem dX8_becomes_66 : decode cX8_becomes 66 = .ok (.if_icmp .ne 5, 3) := by decide +kernel
theorem dX8_becomes_69 : decode cX8_becomes 69 = .ok (.iload_n 3, 1) := by decide +kernel
theorem dX8_becomes_70 : decode cX8_becomes 70 = .ok (.ireturn, 1) := by decide +kernel
theorem dX8_becomes_71 : decode cX8_becomes 71 = .ok (.aload_n 0, 1) := by decide +kernel
theorem dX8_becomes_72 : decode cX8_becomes 72 = .ok (.aload_n 0, 1) := by decide +kernel
theorem dX8_becomes_73 : decode cX8_becomes 73 = .ok (.getfield 25, 3) := by decide +kernel
theorem dX8_becomes_76 : decode cX8_becomes 76 = .ok (.invokevirtual 145, 3) := by decide +kernel
theorem dX8_becomes_79 : decode cX8_becomes 79 = .ok (.iinc 3 1, 3) := by decide +kernel
theorem dX8_becomes_82 : decode cX8_becomes 82 = .ok (.goto (-32), 3) := by decide +kernel
theorem dX8_becomes_85 : decode cX8_becomes 85 = .ok (.bipush (-9), 2) := by decide +kernel
theorem dX8_becomes_87 : decode cX8_becomes 87 = .ok (.ireturn, 1) := by decide +kernel
theorem dX8_fails_0 : decode cX8_fails 0 = .ok (.aload_n 0, 1) := by decide +kernel
theorem dX8_fails_1 : decode cX8_fails 1 = .ok (.iconst 0, 1) := by decide +kernel
theorem dX8_fails_2 : decode cX8_fails 2 = .ok (.putfield 56, 3) := by decide +kernel
theorem dX8_fails_5 : decode cX8_fails 5 = .ok (.aload_n 0, 1) := by decide +kernel
theorem dX8_fails_6 : decode cX8_fails 6 = .ok (.iload_n 1, 1) := by decide +kernel
theorem dX8_fails_7 : decode cX8_fails 7 = .ok (.invokevirtual 138, 3) := by decide +kernel
theorem dX8_fails_10 : decode cX8_fails 10 = .ok (.ifCond .eq 5, 3) := by decide +kernel
theorem dX8_fails_13 : decode cX8_fails 13 = .ok (.iconst (-1), 1) := by decide +kernel
theorem dX8_fails_14 : decode cX8_fails 14 = .ok (.ireturn, 1) := by decide +kernel
theorem dX8_fails_15 : decode cX8_fails 15 = .ok (.aload_n 0, 1) := by decide +kernel
theorem dX8_fails_16 : decode cX8_fails 16 = .ok (.getfield 22, 3) := by decide +kernel
theorem dX8_fails_19 : decode cX8_fails 19 = .ok (.iload_n 1, 1) := by decide +kernel
theorem dX8_fails_20 : decode cX8_fails 20 = .ok (.invokestatic 102, 3) := by decide +kernel
theorem dX8_fails_23 : decode cX8_fails 23 = .ok (.ifCond .ne 6, 3) := by decide +kernel
theorem dX8_fails_26 : decode cX8_fails 26 = .ok (.bipush (-3), 2) := by decide +kernel
theorem dX8_fails_28 : decode cX8_fails 28 = .ok (.ireturn, 1) := by decide +kernel
theorem dX8_fails_29 : decode cX8_fails 29 = .ok (.aload_n 0, 1) := by decide +kernel
theorem dX8_fails_30 : decode cX8_fails 30 = .ok (.invokevirtual 170, 3) := by decide +kernel
theorem dX8_fails_33 : decode cX8_fails 33 = .ok (.iconst 0, 1) := by decide +kernel
theorem dX8_fails_34 : decode cX8_fails 34 = .ok (.istore_n 2, 1) := by decide +kernel
theorem dX8_fails_35 : decode cX8_fails 35 = .ok (.iload_n 2, 1) := by decide +kernel
theorem dX8_fails_36 : decode cX8_fails 36 = .ok (.bipush 20, 2) := by decide +kernel
theorem dX8_fails_38 : decode cX8_fails 38 = .ok (.if_icmp .gt 37, 3) := by decide +kernel
theorem dX8_fails_41 : decode cX8_fails 41 = .ok (.aload_n 0, 1) := by decide +kernel
theorem dX8_fails_42 : decode cX8_fails 42 = .ok (.getfield 16, 3) := by decide +kernel
theorem dX8_fails_45 : decode cX8_fails 45 = .ok (.iload_n 1, 1) := by decide +kernel
theorem dX8_fails_46 : decode cX8_fails 46 = .ok (.iaload, 1) := by decide +kernel
theorem dX8_fails_47 : decode cX8_fails 47 = .ok (.aload_n 0, 1) := by decide +kernel
theorem dX8_fails_48 : decode cX8_fails 48 = .ok (.getfield 25, 3) := by decide +kernel
theorem dX8_fails_51 : decode cX8_fails 51 = .ok (.bipush 18, 2) := by decide +kernel
theorem dX8_fails_53 : decode cX8_fails 53 = .ok (.iload_n 1, 1) := by decide +kernel
theorem dX8_fails_54 : decode cX8_fails 54 = .ok (.iadd, 1) := by decide +kernel
theorem dX8_fails_55 : decode cX8_fails 55 = .ok (.iaload, 1) := by decide +kernel
theorem dX8_fails_56 : decode cX8_fails 56 = .ok (.if_icmp .ge 5, 3) := by decide +kernel
theorem dX8_fails_59 : decode cX8_fails 59 = .ok (.iload_n 2, 1) := by decide +kernel
theorem dX8_fails_60 : decode cX8_fails 60 = .ok (.ireturn, 1) := by decide +kernel
theorem dX8_fails_61 : decode cX8_fails 61 = .ok (.aload_n 0, 1) := by decide +kernel
theorem dX8_fails_62 : decode cX8_fails 62 = .ok (.aload_n 0, 1) := by decide +kernel
theorem dX8_fails_63 : decode cX8_fails 63 = .ok (.getfield 25, 3) := by decide +kernel
theorem dX8_fails_66 : decode cX8_fails 66 = .ok (.invokevirtual 145, 3) := by decide +kernel
theorem dX8_fails_69 : decode cX8_fails 69 = .ok (.iinc 2 1, 3) := by decide +kernel
theorem dX8_fails_72 : decode cX8_fails 72 = .ok (.goto (-37), 3) := by decide +kernel
theorem dX8_fails_75 : decode cX8_fails 75 = .ok (.bipush (-9), 2) := by decide +kernel
theorem dX8_fails_77 : decode cX8_fails 77 = .ok (.ireturn, 1) := by decide +kernel
theorem dX8_stuff_0 : decode cX8_stuff 0 = .ok (.aload_n 0, 1) := by decide +kernel
theorem dX8_stuff_1 : decode cX8_stuff 1 = .ok (.iconst 0, 1) := by decide +kernel
theorem dX8_stuff_2 : decode cX8_stuff 2 = .ok (.putfield 56, 3) := by decide +kernel
theorem dX8_stuff_5 : decode cX8_stuff 5 = .ok (.aload_n 0, 1) := by decide +kernel
theorem dX8_stuff_6 : decode cX8_stuff 6 = .ok (.iload_n 1, 1) := by decide +kernel
theorem dX8_stuff_7 : decode cX8_stuff 7 = .ok (.invokevirtual 138, 3) := by decide +kernel
theorem dX8_stuff_10 : decode cX8_stuff 10 = .ok (.ifCond .eq 5, 3) := by decide +kernel
theorem dX8_stuff_13 : decode cX8_stuff 13 = .ok (.iconst (-1), 1) := by decide +kernel
theorem dX8_stuff_14 : decode cX8_stuff 14 = .ok (.ireturn, 1) := by decide +kernel
theorem dX8_stuff_15 : decode cX8_stuff 15 = .ok (.iload_n 2, 1) := by decide +kernel
theorem dX8_stuff_16 : decode cX8_stuff 16 = .ok (.i2l, 1) := by decide +kernel
theorem dX8_stuff_17 : decode cX8_stuff 17 = .ok (.lconst 1, 1) := by decide +kernel
theorem dX8_stuff_18 : decode cX8_stuff 18 = .ok (.ldc2_w 179, 3) := by decide +kernel
theorem dX8_stuff_21 : decode cX8_stuff 21 = .ok (.invokestatic 63, 3) := by decide +kernel
theorem dX8_stuff_24 : decode cX8_stuff 24 = .ok (.ifCond .eq 26, 3) := by decide +kernel
theorem dX8_stuff_27 : decode cX8_stuff 27 = .ok (.iload_n 3, 1) := by decide +kernel
theorem dX8_stuff_28 : decode cX8_stuff 28 = .ok (.i2l, 1) := by decide +kernel
theorem dX8_stuff_29 : decode cX8_stuff 29 = .ok (.lconst 0, 1) := by decide +kernel
theorem dX8_stuff_30 : decode cX8_stuff 30 = .ok (.ldc2_w 177, 3) := by decide +kernel
theorem dX8_stuff_33 : decode cX8_stuff 33 = .ok (.invokestatic 63, 3) := by decide +kernel
theorem dX8_stuff_36 : decode cX8_stuff 36 = .ok (.ifCond .eq 14, 3) := by decide +kernel
theorem dX8_stuff_39 : decode cX8_stuff 39 = .ok (.iload 4, 2) := by decide +kernel
theorem dX8_stuff_41 : decode cX8_stuff 41 = .ok (.i2l, 1) := by decide +kernel
theorem dX8_stuff_42 : decode cX8_stuff 42 = .ok (.lconst 0, 1) := by decide +kernel
theorem dX8_stuff_43 : decode cX8_stuff 43 = .ok (.lconst 1, 1) := by decide +kernel
theorem dX8_stuff_44 : decode cX8_stuff 44 = .ok (.invokestatic 63, 3) := by decide +kernel
theorem dX8_stuff_47 : decode cX8_stuff 47 = .ok (.ifCond .ne 6, 3) := by decide +kernel
theorem dX8_stuff_50 : decode cX8_stuff 50 = .ok (.bipush (-2), 2) := by decide +kernel
theorem dX8_stuff_52 : decode cX8_stuff 52 = .ok (.ireturn, 1) := by decide +kernel
theorem dX8_stuff_53 : decode cX8_stuff 53 = .ok (.aload_n 0, 1) := by decide +kernel
theorem dX8_stuff_54 : decode cX8_stuff 54 = .ok (.getfield 22, 3) := by decide +kernel
theorem dX8_stuff_57 : decode cX8_stuff 57 = .ok (.iload_n 1, 1) := by decide +kernel
theorem dX8_stuff_58 : decode cX8_stuff 58 = .ok (.invokestatic 102, 3) := by decide +kernel
theorem dX8_stuff_61 : decode cX8_stuff 61 = .ok (.ifCond .ne 6, 3) := by decide +kernel
theorem dX8_stuff_64 : decode cX8_stuff 64 = .ok (.bipush (-3), 2) := by decide +kernel
theorem dX8_stuff_66 : decode cX8_stuff 66 = .ok (.ireturn, 1) := by decide +kernel
theorem dX8_stuff_67 : decode cX8_stuff 67 = .ok (.aload_n 0, 1) := by decide +kernel
theorem dX8_stuff_68 : decode cX8_stuff 68 = .ok (.bipush (-9), 2) := by decide +kernel
theorem dX8_stuff_70 : decode cX8_stuff 70 = .ok (.putfield 181, 3) := by decide +kernel
theorem dX8_stuff_73 : decode cX8_stuff 73 = .ok (.aload_n 0, 1) := by decide +kernel
theorem dX8_stuff_74 : decode cX8_stuff 74 = .ok (.bipush 99, 2) := by decide +kernel
theorem dX8_stuff_76 : decode cX8_stuff 76 = .ok (.putfield 184, 3) := by decide +kernel
theorem dX8_stuff_79 : decode cX8_stuff 79 = .ok (.iconst 0, 1) := by decide +kernel
theorem dX8_stuff_80 : decode cX8_stuff 80 = .ok (.istore 5, 2) := by decide +kernel
theorem dX8_stuff_82 : decode cX8_stuff 82 = .ok (.iload 5, 2) := by decide +kernel
theorem dX8_stuff_84 : decode cX8_stuff 84 = .ok (.iconst 4, 1) := by decide +kernel
theorem dX8_stuff_85 : decode cX8_stuff 85 = .ok (.if_icmp .ge 101, 3) := by decide +kernel
theorem dX8_stuff_88 : decode cX8_stuff 88 = .ok (.aload_n 0, 1) := by decide +kernel
theorem dX8_stuff_89 : decode cX8_stuff 89 = .ok (.invokevirtual 170, 3) := by decide +kernel
theorem dX8_stuff_92 : decode cX8_stuff 92 = .ok (.aload_n 0, 1) := by decide +kernel
theorem dX8_stuff_93 : decode cX8_stuff 93 = .ok (.getfield 25, 3) := by decide +kernel
theorem dX8_stuff_96 : decode cX8_stuff 96 = .ok (.bipush 12, 2) := by decide +kernel
theorem dX8_stuff_98 : decode cX8_stuff 98 = .ok (.iload_n 1, 1) := by decide +kernel
theorem dX8_stuff_99 : decode cX8_stuff 99 = .ok (.iadd, 1) := by decide +kernel
theorem dX8_stuff_100 : decode cX8_stuff 100 = .ok (.iload 5, 2) := by decide +kernel
theorem dX8_stuff_102 : decode cX8_stuff 102 = .ok (.iastore, 1) := by decide +kernel
theorem dX8_stuff_103 : decode cX8_stuff 103 = .ok (.aload_n 0, 1) := by decide +kernel
theorem dX8_stuff_104 : decode cX8_stuff 104 = .ok (.iload_n 2, 1) := by decide +kernel
theorem dX8_stuff_105 : decode cX8_stuff 105 = .ok (.invokevirtual 173, 3) := by decide +kernel
theorem dX8_stuff_108 : decode cX8_stuff 108 = .ok (.aload_n 0, 1) := by decide +kernel
theorem dX8_stuff_109 : decode cX8_stuff 109 = .ok (.getfield 25, 3) := by decide +kernel
theorem dX8_stuff_112 : decode cX8_stuff 112 = .ok (.bipush 6, 2) := by decide +kernel
theorem dX8_stuff_114 : decode cX8_stuff 114 = .ok (.iload_n 1, 1) := by decide +kernel
theorem dX8_stuff_115 : decode cX8_stuff 115 = .ok (.iadd, 1) := by decide +kernel
theorem dX8_stuff_116 : decode cX8_stuff 116 = .ok (.iaload, 1) := by decide +kernel
theorem dX8_stuff_117 : decode cX8_stuff 117 = .ok (.iload_n 3, 1) := by decide +kernel
theorem dX8_stuff_118 : decode cX8_stuff 118 = .ok (.isub, 1) := by decide +kernel
theorem dX8_stuff_119 : decode cX8_stuff 119 = .ok (.istore 6, 2) := by decide +kernel
theorem dX8_stuff_121 : decode cX8_stuff 121 = .ok (.iload 6, 2) := by decide +kernel
theorem dX8_stuff_123 : decode cX8_stuff 123 = .ok (.ifCond .ge 9, 3) := by decide +kernel
theorem dX8_stuff_126 : decode cX8_stuff 126 = .ok (.iload 6, 2) := by decide +kernel
theorem dX8_stuff_128 : decode cX8_stuff 128 = .ok (.ineg, 1) := by decide +kernel
theorem dX8_stuff_129 : decode cX8_stuff 129 = .ok (.goto 5, 3) := by decide +kernel
theorem dX8_stuff_132 : decode cX8_stuff 132 = .ok (.iload 6, 2) := by decide +kernel
theorem dX8_stuff_134 : decode cX8_stuff 134 = .ok (.istore 6, 2) := by decide +kernel
theorem dX8_stuff_136 : decode cX8_stuff 136 = .ok (.aload_n 0, 1) := by decide +kernel
theorem dX8_stuff_137 : decode cX8_stuff 137 = .ok (.iload 6, 2) := by decide +kernel
theorem dX8_stuff_139 : decode cX8_stuff 139 = .ok (.aload_n 0, 1) := by decide +kernel
theorem dX8_stuff_140 : decode cX8_stuff 140 = .ok (.getfield 184, 3) := by decide +kernel
theorem dX8_stuff_143 : decode cX8_stuff 143 = .ok (.if_icmp .ge 8, 3) := by decide +kernel
theorem dX8_stuff_146 : decode cX8_stuff 146 = .ok (.iload 5, 2) := by decide +kernel
theorem dX8_stuff_148 : decode cX8_stuff 148 = .ok (.goto 7, 3) := by decide +kernel
theorem dX8_stuff_151 : decode cX8_stuff 151 = .ok (.aload_n 0, 1) := by decide +kernel
theorem dX8_stuff_152 : decode cX8_stuff 152 = .ok (.getfield 181, 3) := by decide +kernel
theorem dX8_stuff_155 : decode cX8_stuff 155 = .ok (.putfield 181, 3) := by decide +kernel
theorem dX8_stuff_158 : decode cX8_stuff 158 = .ok (.aload_n 0, 1) := by decide +kernel
theorem dX8_stuff_159 : decode cX8_stuff 159 = .ok (.iload 6, 2) := by decide +kernel
theorem dX8_stuff_161 : decode cX8_stuff 161 = .ok (.aload_n 0, 1) := by decide +kernel
theorem dX8_stuff_162 : decode cX8_stuff 162 = .ok (.getfield 184, 3) := by decide +kernel
theorem dX8_stuff_165 : decode cX8_stuff 165 = .ok (.if_icmp .ge 8, 3) := by decide +kernel
theorem dX8_stuff_168 : decode cX8_stuff 168 = .ok (.iload 6, 2) := by decide +kernel
theorem dX8_stuff_170 : decode cX8_stuff 170 = .ok (.goto 7, 3) := by decide +kernel
theorem dX8_stuff_173 : decode cX8_stuff 173 = .ok (.aload_n 0, 1) := by decide +kernel
theorem dX8_stuff_174 : decode cX8_stuff 174 = .ok (.getfield 184, 3) := by decide +kernel
theorem dX8_stuff_177 : decode cX8_stuff 177 = .ok (.putfield 184, 3) := by decide +kernel
theorem dX8_stuff_180 : decode cX8_stuff 180 = .ok (.iinc 5 1, 3) := by decide +kernel
theorem dX8_stuff_183 : decode cX8_stuff 183 = .ok (.goto (-101), 3) := by decide +kernel
theorem dX8_stuff_186 : decode cX8_stuff 186 = .ok (.iload 4, 2) := by decide +kernel
theorem dX8_stuff_188 : decode cX8_stuff 188 = .ok (.ifCond .ne 10, 3) := by decide +kernel
theorem dX8_stuff_191 : decode cX8_stuff 191 = .ok (.aload_n 0, 1) := by decide +kernel
theorem dX8_stuff_192 : decode cX8_stuff 192 = .ok (.getfield 181, 3) := by decide +kernel
theorem dX8_stuff_195 : decode cX8_stuff 195 = .ok (.goto 7, 3) := by decide +kernel
theorem dX8_stuff_198 : decode cX8_stuff 198 = .ok (.aload_n 0, 1) := by decide +kernel
theorem dX8_stuff_199 : decode cX8_stuff 199 = .ok (.getfield 184, 3) := by decide +kernel
theorem dX8_stuff_202 : decode cX8_stuff 202 = .ok (.ireturn, 1) := by decide +kernel
theorem dX8_nextOrder_0 : decode cX8_nextOrder 0 = .ok (.iload_n 1, 1) := by decide +kernel
theorem dX8_nextOrder_1 : decode cX8_nextOrder 1 = .ok (.iconst 2, 1) := by decide +kernel
theorem dX8_nextOrder_2 : decode cX8_nextOrder 2 = .ok (.isub, 1) := by decide +kernel
theorem dX8_nextOrder_3 : decode cX8_nextOrder 3 = .ok (.istore_n 2, 1) := by decide +kernel
theorem dX8_nextOrder_4 : decode cX8_nextOrder 4 = .ok (.iload_n 2, 1) := by decide +kernel
theorem dX8_nextOrder_5 : decode cX8_nextOrder 5 = .ok (.ifCond .lt 26, 3) := by decide +kernel
theorem dX8_nextOrder_8 : decode cX8_nextOrder 8 = .ok (.aload_n 0, 1) := by decide +kernel
theorem dX8_nextOrder_9 : decode cX8_nextOrder 9 = .ok (.getfield 44, 3) := by decide +kernel
theorem dX8_nextOrder_12 : decode cX8_nextOrder 12 = .ok (.iload_n 2, 1) := by decide +kernel
theorem dX8_nextOrder_13 : decode cX8_nextOrder 13 = .ok (.iaload, 1) := by decide +kernel
theorem dX8_nextOrder_14 : decode cX8_nextOrder 14 = .ok (.aload_n 0, 1) := by decide +kernel
theorem dX8_nextOrder_15 : decode cX8_nextOrder 15 = .ok (.getfield 44, 3) := by decide +kernel
theorem dX8_nextOrder_18 : decode cX8_nextOrder 18 = .ok (.iload_n 2, 1) := by decide +kernel
theorem dX8_nextOrder_19 : decode cX8_nextOrder 19 = .ok (.iconst 1, 1) := by decide +kernel
theorem dX8_nextOrder_20 : decode cX8_nextOrder 20 = .ok (.iadd, 1) := by decide +kernel
theorem dX8_nextOrder_21 : decode cX8_nextOrder 21 = .ok (.iaload, 1) := by decide +kernel
theorem dX8_nextOrder_22 : decode cX8_nextOrder 22 = .ok (.if_icmp .le 9, 3) := by decide +kernel
theorem dX8_nextOrder_25 : decode cX8_nextOrder 25 = .ok (.iinc 2 (-1), 3) := by decide +kernel
theorem dX8_nextOrder_28 : decode cX8_nextOrder 28 = .ok (.goto (-24), 3) := by decide +kernel
theorem dX8_nextOrder_31 : decode cX8_nextOrder 31 = .ok (.iload_n 2, 1) := by decide +kernel
theorem dX8_nextOrder_32 : decode cX8_nextOrder 32 = .ok (.ifCond .ge 5, 3) := by decide +kernel
theorem dX8_nextOrder_35 : decode cX8_nextOrder 35 = .ok (.iconst 0, 1) := by decide +kernel
theorem dX8_nextOrder_36 : decode cX8_nextOrder 36 = .ok (.ireturn, 1) := by decide +kernel
theorem dX8_nextOrder_37 : decode cX8_nextOrder 37 = .ok (.iload_n 1, 1) := by decide +kernel
theorem dX8_nextOrder_38 : decode cX8_nextOrder 38 = .ok (.iconst 1, 1) := by decide +kernel
theorem dX8_nextOrder_39 : decode cX8_nextOrder 39 = .ok (.isub, 1) := by decide +kernel
theorem dX8_nextOrder_40 : decode cX8_nextOrder 40 = .ok (.istore_n 3, 1) := by decide +kernel
theorem dX8_nextOrder_41 : decode cX8_nextOrder 41 = .ok (.aload_n 0, 1) := by decide +kernel
theorem dX8_nextOrder_42 : decode cX8_nextOrder 42 = .ok (.getfield 44, 3) := by decide +kernel
theorem dX8_nextOrder_45 : decode cX8_nextOrder 45 = .ok (.iload_n 3, 1) := by decide +kernel
theorem dX8_nextOrder_46 : decode cX8_nextOrder 46 = .ok (.iaload, 1) := by decide +kernel
theorem dX8_nextOrder_47 : decode cX8_nextOrder 47 = .ok (.aload_n 0, 1) := by decide +kernel
theorem dX8_nextOrder_48 : decode cX8_nextOrder 48 = .ok (.getfield 44, 3) := by decide +kernel
theorem dX8_nextOrder_51 : decode cX8_nextOrder 51 = .ok (.iload_n 2, 1) := by decide +kernel
theorem dX8_nextOrder_52 : decode cX8_nextOrder 52 = .ok (.iaload, 1) := by decide +kernel
theorem dX8_nextOrder_53 : decode cX8_nextOrder 53 = .ok (.if_icmp .ge 9, 3) := by decide +kernel
theorem dX8_nextOrder_56 : decode cX8_nextOrder 56 = .ok (.iinc 3 (-1), 3) := by decide +kernel
theorem dX8_nextOrder_59 : decode cX8_nextOrder 59 = .ok (.goto (-18), 3) := by decide +kernel
theorem dX8_nextOrder_62 : decode cX8_nextOrder 62 = .ok (.aload_n 0, 1) := by decide +kernel
theorem dX8_nextOrder_63 : decode cX8_nextOrder 63 = .ok (.getfield 44, 3) := by decide +kernel
theorem dX8_nextOrder_66 : decode cX8_nextOrder 66 = .ok (.iload_n 2, 1) := by decide +kernel
theorem dX8_nextOrder_67 : decode cX8_nextOrder 67 = .ok (.iaload, 1) := by decide +kernel
theorem dX8_nextOrder_68 : decode cX8_nextOrder 68 = .ok (.istore 4, 2) := by decide +kernel
theorem dX8_nextOrder_70 : decode cX8_nextOrder 70 = .ok (.aload_n 0, 1) := by decide +kernel
theorem dX8_nextOrder_71 : decode cX8_nextOrder 71 = .ok (.getfield 44, 3) := by decide +kernel
theorem dX8_nextOrder_74 : decode cX8_nextOrder 74 = .ok (.iload_n 2, 1) := by decide +kernel
theorem dX8_nextOrder_75 : decode cX8_nextOrder 75 = .ok (.aload_n 0, 1) := by decide +kernel
theorem dX8_nextOrder_76 : decode cX8_nextOrder 76 = .ok (.getfield 44, 3) := by decide +kernel
theorem dX8_nextOrder_79 : decode cX8_nextOrder 79 = .ok (.iload_n 3, 1) := by decide +kernel
theorem dX8_nextOrder_80 : decode cX8_nextOrder 80 = .ok (.iaload, 1) := by decide +kernel
theorem dX8_nextOrder_81 : decode cX8_nextOrder 81 = .ok (.iastore, 1) := by decide +kernel
theorem dX8_nextOrder_82 : decode cX8_nextOrder 82 = .ok (.aload_n 0, 1) := by decide +kernel
theorem dX8_nextOrder_83 : decode cX8_nextOrder 83 = .ok (.getfield 44, 3) := by decide +kernel
theorem dX8_nextOrder_86 : decode cX8_nextOrder 86 = .ok (.iload_n 3, 1) := by decide +kernel
theorem dX8_nextOrder_87 : decode cX8_nextOrder 87 = .ok (.iload 4, 2) := by decide +kernel
theorem dX8_nextOrder_89 : decode cX8_nextOrder 89 = .ok (.iastore, 1) := by decide +kernel
theorem dX8_nextOrder_90 : decode cX8_nextOrder 90 = .ok (.iload_n 2, 1) := by decide +kernel
theorem dX8_nextOrder_91 : decode cX8_nextOrder 91 = .ok (.iconst 1, 1) := by decide +kernel
theorem dX8_nextOrder_92 : decode cX8_nextOrder 92 = .ok (.iadd, 1) := by decide +kernel
theorem dX8_nextOrder_93 : decode cX8_nextOrder 93 = .ok (.istore 5, 2) := by decide +kernel
theorem dX8_nextOrder_95 : decode cX8_nextOrder 95 = .ok (.iload_n 1, 1) := by decide +kernel
theorem dX8_nextOrder_96 : decode cX8_nextOrder 96 = .ok (.iconst 1, 1) := by decide +kernel
theorem dX8_nextOrder_97 : decode cX8_nextOrder 97 = .ok (.isub, 1) := by decide +kernel
theorem dX8_nextOrder_98 : decode cX8_nextOrder 98 = .ok (.istore 6, 2) := by decide +kernel
theorem dX8_nextOrder_100 : decode cX8_nextOrder 100 = .ok (.iload 5, 2) := by decide +kernel
theorem dX8_nextOrder_102 : decode cX8_nextOrder 102 = .ok (.iload 6, 2) := by decide +kernel
theorem dX8_nextOrder_104 : decode cX8_nextOrder 104 = .ok (.if_icmp .ge 44, 3) := by decide +kernel
theorem dX8_nextOrder_107 : decode cX8_nextOrder 107 = .ok (.aload_n 0, 1) := by decide +kernel
theorem dX8_nextOrder_108 : decode cX8_nextOrder 108 = .ok (.getfield 44, 3) := by decide +kernel
theorem dX8_nextOrder_111 : decode cX8_nextOrder 111 = .ok (.iload 5, 2) := by decide +kernel
theorem dX8_nextOrder_113 : decode cX8_nextOrder 113 = .ok (.iaload, 1) := by decide +kernel
theorem dX8_nextOrder_114 : decode cX8_nextOrder 114 = .ok (.istore 4, 2) := by decide +kernel
theorem dX8_nextOrder_116 : decode cX8_nextOrder 116 = .ok (.aload_n 0, 1) := by decide +kernel
theorem dX8_nextOrder_117 : decode cX8_nextOrder 117 = .ok (.getfield 44, 3) := by decide +kernel
theorem dX8_nextOrder_120 : decode cX8_nextOrder 120 = .ok (.iload 5, 2) := by decide +kernel
theorem dX8_nextOrder_122 : decode cX8_nextOrder 122 = .ok (.aload_n 0, 1) := by decide +kernel
theorem dX8_nextOrder_123 : decode cX8_nextOrder 123 = .ok (.getfield 44, 3) := by decide +kernel
theorem dX8_nextOrder_126 : decode cX8_nextOrder 126 = .ok (.iload 6, 2) := by decide +kernel
theorem dX8_nextOrder_128 : decode cX8_nextOrder 128 = .ok (.iaload, 1) := by decide +kernel
theorem dX8_nextOrder_129 : decode cX8_nextOrder 129 = .ok (.iastore, 1) := by decide +kernel
theorem dX8_nextOrder_130 : decode cX8_nextOrder 130 = .ok (.aload_n 0, 1) := by decide +kernel
theorem dX8_nextOrder_131 : decode cX8_nextOrder 131 = .ok (.getfield 44, 3) := by decide +kernel
theorem dX8_nextOrder_134 : decode cX8_nextOrder 134 = .ok (.iload 6, 2) := by decide +kernel
theorem dX8_nextOrder_136 : decode cX8_nextOrder 136 = .ok (.iload 4, 2) := by decide +kernel
theorem dX8_nextOrder_138 : decode cX8_nextOrder 138 = .ok (.iastore, 1) := by decide +kernel
theorem dX8_nextOrder_139 : decode cX8_nextOrder 139 = .ok (.iinc 5 1, 3) := by decide +kernel
theorem dX8_nextOrder_142 : decode cX8_nextOrder 142 = .ok (.iinc 6 (-1), 3) := by decide +kernel
theorem dX8_nextOrder_145 : decode cX8_nextOrder 145 = .ok (.goto (-45), 3) := by decide +kernel
theorem dX8_nextOrder_148 : decode cX8_nextOrder 148 = .ok (.iconst 1, 1) := by decide +kernel
theorem dX8_nextOrder_149 : decode cX8_nextOrder 149 = .ok (.ireturn, 1) := by decide +kernel
theorem dX8_laySpots_0 : decode cX8_laySpots 0 = .ok (.iconst 0, 1) := by decide +kernel
theorem dX8_laySpots_1 : decode cX8_laySpots 1 = .ok (.istore_n 1, 1) := by decide +kernel
theorem dX8_laySpots_2 : decode cX8_laySpots 2 = .ok (.iconst 0, 1) := by decide +kernel
theorem dX8_laySpots_3 : decode cX8_laySpots 3 = .ok (.istore_n 2, 1) := by decide +kernel
theorem dX8_laySpots_4 : decode cX8_laySpots 4 = .ok (.iload_n 2, 1) := by decide +kernel
theorem dX8_laySpots_5 : decode cX8_laySpots 5 = .ok (.bipush 8, 2) := by decide +kernel
theorem dX8_laySpots_7 : decode cX8_laySpots 7 = .ok (.if_icmp .ge 56, 3) := by decide +kernel
theorem dX8_laySpots_10 : decode cX8_laySpots 10 = .ok (.iconst 0, 1) := by decide +kernel
theorem dX8_laySpots_11 : decode cX8_laySpots 11 = .ok (.istore_n 3, 1) := by decide +kernel
theorem dX8_laySpots_12 : decode cX8_laySpots 12 = .ok (.iload_n 3, 1) := by decide +kernel
theorem dX8_laySpots_13 : decode cX8_laySpots 13 = .ok (.aload_n 0, 1) := by decide +kernel
theorem dX8_laySpots_14 : decode cX8_laySpots 14 = .ok (.getfield 60, 3) := by decide +kernel
theorem dX8_laySpots_17 : decode cX8_laySpots 17 = .ok (.if_icmp .ge 40, 3) := by decide +kernel
theorem dX8_laySpots_20 : decode cX8_laySpots 20 = .ok (.aload_n 0, 1) := by decide +kernel
theorem dX8_laySpots_21 : decode cX8_laySpots 21 = .ok (.getfield 22, 3) := by decide +kernel
theorem dX8_laySpots_24 : decode cX8_laySpots 24 = .ok (.iload_n 3, 1) := by decide +kernel
theorem dX8_laySpots_25 : decode cX8_laySpots 25 = .ok (.invokestatic 102, 3) := by decide +kernel
theorem dX8_laySpots_28 : decode cX8_laySpots 28 = .ok (.ifCond .eq 23, 3) := by decide +kernel
theorem dX8_laySpots_31 : decode cX8_laySpots 31 = .ok (.aload_n 0, 1) := by decide +kernel
theorem dX8_laySpots_32 : decode cX8_laySpots 32 = .ok (.getfield 22, 3) := by decide +kernel
theorem dX8_laySpots_35 : decode cX8_laySpots 35 = .ok (.iload_n 3, 1) := by decide +kernel
theorem dX8_laySpots_36 : decode cX8_laySpots 36 = .ok (.iaload, 1) := by decide +kernel
theorem dX8_laySpots_37 : decode cX8_laySpots 37 = .ok (.iload_n 2, 1) := by decide +kernel
theorem dX8_laySpots_38 : decode cX8_laySpots 38 = .ok (.if_icmp .ne 13, 3) := by decide +kernel
theorem dX8_laySpots_41 : decode cX8_laySpots 41 = .ok (.aload_n 0, 1) := by decide +kernel
theorem dX8_laySpots_42 : decode cX8_laySpots 42 = .ok (.getfield 44, 3) := by decide +kernel
theorem dX8_laySpots_45 : decode cX8_laySpots 45 = .ok (.iload_n 1, 1) := by decide +kernel
theorem dX8_laySpots_46 : decode cX8_laySpots 46 = .ok (.iload_n 2, 1) := by decide +kernel
theorem dX8_laySpots_47 : decode cX8_laySpots 47 = .ok (.iastore, 1) := by decide +kernel
theorem dX8_laySpots_48 : decode cX8_laySpots 48 = .ok (.iinc 1 1, 3) := by decide +kernel
theorem dX8_laySpots_51 : decode cX8_laySpots 51 = .ok (.iinc 3 1, 3) := by decide +kernel
theorem dX8_laySpots_54 : decode cX8_laySpots 54 = .ok (.goto (-42), 3) := by decide +kernel
theorem dX8_laySpots_57 : decode cX8_laySpots 57 = .ok (.iinc 2 1, 3) := by decide +kernel
theorem dX8_laySpots_60 : decode cX8_laySpots 60 = .ok (.goto (-56), 3) := by decide +kernel
theorem dX8_laySpots_63 : decode cX8_laySpots 63 = .ok (.iconst 0, 1) := by decide +kernel
theorem dX8_laySpots_64 : decode cX8_laySpots 64 = .ok (.istore_n 1, 1) := by decide +kernel
theorem dX8_laySpots_65 : decode cX8_laySpots 65 = .ok (.iconst 0, 1) := by decide +kernel
theorem dX8_laySpots_66 : decode cX8_laySpots 66 = .ok (.istore_n 2, 1) := by decide +kernel
theorem dX8_laySpots_67 : decode cX8_laySpots 67 = .ok (.iload_n 2, 1) := by decide +kernel
theorem dX8_laySpots_68 : decode cX8_laySpots 68 = .ok (.aload_n 0, 1) := by decide +kernel
theorem dX8_laySpots_69 : decode cX8_laySpots 69 = .ok (.getfield 60, 3) := by decide +kernel
theorem dX8_laySpots_72 : decode cX8_laySpots 72 = .ok (.if_icmp .ge 30, 3) := by decide +kernel
theorem dX8_laySpots_75 : decode cX8_laySpots 75 = .ok (.aload_n 0, 1) := by decide +kernel
theorem dX8_laySpots_76 : decode cX8_laySpots 76 = .ok (.getfield 22, 3) := by decide +kernel
theorem dX8_laySpots_79 : decode cX8_laySpots 79 = .ok (.iload_n 2, 1) := by decide +kernel
theorem dX8_laySpots_80 : decode cX8_laySpots 80 = .ok (.invokestatic 102, 3) := by decide +kernel
theorem dX8_laySpots_83 : decode cX8_laySpots 83 = .ok (.ifCond .eq 13, 3) := by decide +kernel
theorem dX8_laySpots_86 : decode cX8_laySpots 86 = .ok (.aload_n 0, 1) := by decide +kernel
theorem dX8_laySpots_87 : decode cX8_laySpots 87 = .ok (.getfield 47, 3) := by decide +kernel
theorem dX8_laySpots_90 : decode cX8_laySpots 90 = .ok (.iload_n 1, 1) := by decide +kernel
theorem dX8_laySpots_91 : decode cX8_laySpots 91 = .ok (.iload_n 2, 1) := by decide +kernel
theorem dX8_laySpots_92 : decode cX8_laySpots 92 = .ok (.iastore, 1) := by decide +kernel
theorem dX8_laySpots_93 : decode cX8_laySpots 93 = .ok (.iinc 1 1, 3) := by decide +kernel
theorem dX8_laySpots_96 : decode cX8_laySpots 96 = .ok (.iinc 2 1, 3) := by decide +kernel
theorem dX8_laySpots_99 : decode cX8_laySpots 99 = .ok (.goto (-32), 3) := by decide +kernel
theorem dX8_laySpots_102 : decode cX8_laySpots 102 = .ok (.iload_n 1, 1) := by decide +kernel
theorem dX8_laySpots_103 : decode cX8_laySpots 103 = .ok (.ireturn, 1) := by decide +kernel
theorem dX8_findRow_0 : decode cX8_findRow 0 = .ok (.aload_n 0, 1) := by decide +kernel
theorem dX8_findRow_1 : decode cX8_findRow 1 = .ok (.invokevirtual 187, 3) := by decide +kernel
theorem dX8_findRow_4 : decode cX8_findRow 4 = .ok (.istore_n 1, 1) := by decide +kernel
theorem dX8_findRow_5 : decode cX8_findRow 5 = .ok (.aload_n 0, 1) := by decide +kernel
theorem dX8_findRow_6 : decode cX8_findRow 6 = .ok (.iload_n 1, 1) := by decide +kernel
theorem dX8_findRow_7 : decode cX8_findRow 7 = .ok (.ifCond .ne 7, 3) := by decide +kernel
theorem dX8_findRow_10 : decode cX8_findRow 10 = .ok (.iconst 0, 1) := by decide +kernel
theorem dX8_findRow_11 : decode cX8_findRow 11 = .ok (.goto 5, 3) := by decide +kernel
theorem dX8_findRow_14 : decode cX8_findRow 14 = .ok (.bipush (-9), 2) := by decide +kernel
theorem dX8_findRow_16 : decode cX8_findRow 16 = .ok (.putfield 190, 3) := by decide +kernel
theorem dX8_findRow_19 : decode cX8_findRow 19 = .ok (.aload_n 0, 1) := by decide +kernel
theorem dX8_findRow_20 : decode cX8_findRow 20 = .ok (.iconst 0, 1) := by decide +kernel
theorem dX8_findRow_21 : decode cX8_findRow 21 = .ok (.putfield 193, 3) := by decide +kernel
theorem dX8_findRow_24 : decode cX8_findRow 24 = .ok (.iload_n 1, 1) := by decide +kernel
theorem dX8_findRow_25 : decode cX8_findRow 25 = .ok (.ifCond .le 7, 3) := by decide +kernel
theorem dX8_findRow_28 : decode cX8_findRow 28 = .ok (.iconst 1, 1) := by decide +kernel
theorem dX8_findRow_29 : decode cX8_findRow 29 = .ok (.goto 4, 3) := by decide +kernel
theorem dX8_findRow_32 : decode cX8_findRow 32 = .ok (.iconst 0, 1) := by decide +kernel
theorem dX8_findRow_33 : decode cX8_findRow 33 = .ok (.istore_n 2, 1) := by decide +kernel
theorem dX8_findRow_34 : decode cX8_findRow 34 = .ok (.iload_n 2, 1) := by decide +kernel
theorem dX8_findRow_35 : decode cX8_findRow 35 = .ok (.ifCond .eq 120, 3) := by decide +kernel
theorem dX8_findRow_38 : decode cX8_findRow 38 = .ok (.aload_n 0, 1) := by decide +kernel
theorem dX8_findRow_39 : decode cX8_findRow 39 = .ok (.invokevirtual 170, 3) := by decide +kernel
theorem dX8_findRow_42 : decode cX8_findRow 42 = .ok (.iconst 0, 1) := by decide +kernel
theorem dX8_findRow_43 : decode cX8_findRow 43 = .ok (.istore_n 3, 1) := by decide +kernel
theorem dX8_findRow_44 : decode cX8_findRow 44 = .ok (.iconst 0, 1) := by decide +kernel
theorem dX8_findRow_45 : decode cX8_findRow 45 = .ok (.istore 4, 2) := by decide +kernel
theorem dX8_findRow_47 : decode cX8_findRow 47 = .ok (.iload 4, 2) := by decide +kernel
theorem dX8_findRow_49 : decode cX8_findRow 49 = .ok (.iload_n 1, 1) := by decide +kernel
theorem dX8_findRow_50 : decode cX8_findRow 50 = .ok (.if_icmp .ge 43, 3) := by decide +kernel
theorem dX8_findRow_53 : decode cX8_findRow 53 = .ok (.aload_n 0, 1) := by decide +kernel
theorem dX8_findRow_54 : decode cX8_findRow 54 = .ok (.getfield 25, 3) := by decide +kernel
theorem dX8_findRow_57 : decode cX8_findRow 57 = .ok (.aload_n 0, 1) := by decide +kernel
theorem dX8_findRow_58 : decode cX8_findRow 58 = .ok (.getfield 47, 3) := by decide +kernel
theorem dX8_findRow_61 : decode cX8_findRow 61 = .ok (.iload 4, 2) := by decide +kernel
theorem dX8_findRow_63 : decode cX8_findRow 63 = .ok (.iaload, 1) := by decide +kernel
theorem dX8_findRow_64 : decode cX8_findRow 64 = .ok (.aload_n 0, 1) := by decide +kernel
theorem dX8_findRow_65 : decode cX8_findRow 65 = .ok (.getfield 44, 3) := by decide +kernel
theorem dX8_findRow_68 : decode cX8_findRow 68 = .ok (.iload 4, 2) := by decide +kernel
theorem dX8_findRow_70 : decode cX8_findRow 70 = .ok (.iaload, 1) := by decide +kernel
theorem dX8_findRow_71 : decode cX8_findRow 71 = .ok (.iastore, 1) := by decide +kernel
theorem dX8_findRow_72 : decode cX8_findRow 72 = .ok (.bipush 10, 2) := by decide +kernel
theorem dX8_findRow_74 : decode cX8_findRow 74 = .ok (.iload_n 3, 1) := by decide +kernel
theorem dX8_findRow_75 : decode cX8_findRow 75 = .ok (.imul, 1) := by decide +kernel
theorem dX8_findRow_76 : decode cX8_findRow 76 = .ok (.aload_n 0, 1) := by decide +kernel
theorem dX8_findRow_77 : decode cX8_findRow 77 = .ok (.getfield 44, 3) := by decide +kernel
theorem dX8_findRow_80 : decode cX8_findRow 80 = .ok (.iload 4, 2) := by decide +kernel
theorem dX8_findRow_82 : decode cX8_findRow 82 = .ok (.iaload, 1) := by decide +kernel
theorem dX8_findRow_83 : decode cX8_findRow 83 = .ok (.iadd, 1) := by decide +kernel
theorem dX8_findRow_84 : decode cX8_findRow 84 = .ok (.iconst 1, 1) := by decide +kernel
theorem dX8_findRow_85 : decode cX8_findRow 85 = .ok (.iadd, 1) := by decide +kernel
theorem dX8_findRow_86 : decode cX8_findRow 86 = .ok (.istore_n 3, 1) := by decide +kernel
theorem dX8_findRow_87 : decode cX8_findRow 87 = .ok (.iinc 4 1, 3) := by decide +kernel
theorem dX8_findRow_90 : decode cX8_findRow 90 = .ok (.goto (-43), 3) := by decide +kernel
theorem dX8_findRow_93 : decode cX8_findRow 93 = .ok (.aload_n 0, 1) := by decide +kernel
theorem dX8_findRow_94 : decode cX8_findRow 94 = .ok (.aload_n 0, 1) := by decide +kernel
theorem dX8_findRow_95 : decode cX8_findRow 95 = .ok (.getfield 25, 3) := by decide +kernel
theorem dX8_findRow_98 : decode cX8_findRow 98 = .ok (.invokevirtual 131, 3) := by decide +kernel
theorem dX8_findRow_101 : decode cX8_findRow 101 = .ok (.istore 4, 2) := by decide +kernel
theorem dX8_findRow_103 : decode cX8_findRow 103 = .ok (.aload_n 0, 1) := by decide +kernel
theorem dX8_findRow_104 : decode cX8_findRow 104 = .ok (.iload 4, 2) := by decide +kernel
theorem dX8_findRow_106 : decode cX8_findRow 106 = .ok (.aload_n 0, 1) := by decide +kernel
theorem dX8_findRow_107 : decode cX8_findRow 107 = .ok (.getfield 190, 3) := by decide +kernel
theorem dX8_findRow_110 : decode cX8_findRow 110 = .ok (.if_icmp .le 7, 3) := by decide +kernel
theorem dX8_findRow_113 : decode cX8_findRow 113 = .ok (.iload_n 3, 1) := by decide +kernel
theorem dX8_findRow_114 : decode cX8_findRow 114 = .ok (.goto 7, 3) := by decide +kernel
theorem dX8_findRow_117 : decode cX8_findRow 117 = .ok (.aload_n 0, 1) := by decide +kernel
theorem dX8_findRow_118 : decode cX8_findRow 118 = .ok (.getfield 193, 3) := by decide +kernel
theorem dX8_findRow_121 : decode cX8_findRow 121 = .ok (.putfield 193, 3) := by decide +kernel
theorem dX8_findRow_124 : decode cX8_findRow 124 = .ok (.aload_n 0, 1) := by decide +kernel
theorem dX8_findRow_125 : decode cX8_findRow 125 = .ok (.iload 4, 2) := by decide +kernel
theorem dX8_findRow_127 : decode cX8_findRow 127 = .ok (.aload_n 0, 1) := by decide +kernel
theorem dX8_findRow_128 : decode cX8_findRow 128 = .ok (.getfield 190, 3) := by decide +kernel
theorem dX8_findRow_131 : decode cX8_findRow 131 = .ok (.if_icmp .le 8, 3) := by decide +kernel
theorem dX8_findRow_134 : decode cX8_findRow 134 = .ok (.iload 4, 2) := by decide +kernel
theorem dX8_findRow_136 : decode cX8_findRow 136 = .ok (.goto 7, 3) := by decide +kernel
theorem dX8_findRow_139 : decode cX8_findRow 139 = .ok (.aload_n 0, 1) := by decide +kernel
theorem dX8_findRow_140 : decode cX8_findRow 140 = .ok (.getfield 190, 3) := by decide +kernel
theorem dX8_findRow_143 : decode cX8_findRow 143 = .ok (.putfield 190, 3) := by decide +kernel
theorem dX8_findRow_146 : decode cX8_findRow 146 = .ok (.aload_n 0, 1) := by decide +kernel
theorem dX8_findRow_147 : decode cX8_findRow 147 = .ok (.iload_n 1, 1) := by decide +kernel
theorem dX8_findRow_148 : decode cX8_findRow 148 = .ok (.invokevirtual 196, 3) := by decide +kernel
theorem dX8_findRow_151 : decode cX8_findRow 151 = .ok (.istore_n 2, 1) := by decide +kernel
theorem dX8_findRow_152 : decode cX8_findRow 152 = .ok (.goto (-118), 3) := by decide +kernel
theorem dX8_findRow_155 : decode cX8_findRow 155 = .ok (.return_, 1) := by decide +kernel
theorem dX8_row_0 : decode cX8_row 0 = .ok (.aload_n 0, 1) := by decide +kernel
theorem dX8_row_1 : decode cX8_row 1 = .ok (.iconst 0, 1) := by decide +kernel
theorem dX8_row_2 : decode cX8_row 2 = .ok (.putfield 56, 3) := by decide +kernel
theorem dX8_row_5 : decode cX8_row 5 = .ok (.aload_n 0, 1) := by decide +kernel
theorem dX8_row_6 : decode cX8_row 6 = .ok (.invokevirtual 199, 3) := by decide +kernel
theorem dX8_row_9 : decode cX8_row 9 = .ok (.iload_n 1, 1) := by decide +kernel
theorem dX8_row_10 : decode cX8_row 10 = .ok (.ifCond .eq 10, 3) := by decide +kernel
theorem dX8_row_13 : decode cX8_row 13 = .ok (.aload_n 0, 1) := by decide +kernel
theorem dX8_row_14 : decode cX8_row 14 = .ok (.getfield 193, 3) := by decide +kernel
theorem dX8_row_17 : decode cX8_row 17 = .ok (.goto 7, 3) := by decide +kernel
theorem dX8_row_20 : decode cX8_row 20 = .ok (.aload_n 0, 1) := by decide +kernel
theorem dX8_row_21 : decode cX8_row 21 = .ok (.getfield 190, 3) := by decide +kernel
theorem dX8_row_24 : decode cX8_row 24 = .ok (.ireturn, 1) := by decide +kernel
theorem dX8_longPower_0 : decode cX8_longPower 0 = .ok (.lconst 1, 1) := by decide +kernel
theorem dX8_longPower_1 : decode cX8_longPower 1 = .ok (.lstore_n 3, 1) := by decide +kernel
theorem dX8_longPower_2 : decode cX8_longPower 2 = .ok (.iconst 0, 1) := by decide +kernel
theorem dX8_longPower_3 : decode cX8_longPower 3 = .ok (.istore 5, 2) := by decide +kernel
theorem dX8_longPower_5 : decode cX8_longPower 5 = .ok (.iload 5, 2) := by decide +kernel
theorem dX8_longPower_7 : decode cX8_longPower 7 = .ok (.iload_n 2, 1) := by decide +kernel
theorem dX8_longPower_8 : decode cX8_longPower 8 = .ok (.if_icmp .ge 13, 3) := by decide +kernel
theorem dX8_longPower_11 : decode cX8_longPower 11 = .ok (.lload_n 3, 1) := by decide +kernel
theorem dX8_longPower_12 : decode cX8_longPower 12 = .ok (.lload_n 0, 1) := by decide +kernel
theorem dX8_longPower_13 : decode cX8_longPower 13 = .ok (.lmul, 1) := by decide +kernel
theorem dX8_longPower_14 : decode cX8_longPower 14 = .ok (.lstore_n 3, 1) := by decide +kernel
theorem dX8_longPower_15 : decode cX8_longPower 15 = .ok (.iinc 5 1, 3) := by decide +kernel
theorem dX8_longPower_18 : decode cX8_longPower 18 = .ok (.goto (-13), 3) := by decide +kernel
theorem dX8_longPower_21 : decode cX8_longPower 21 = .ok (.lload_n 3, 1) := by decide +kernel
theorem dX8_longPower_22 : decode cX8_longPower 22 = .ok (.lreturn, 1) := by decide +kernel
theorem dX8_doesTo_0 : decode cX8_doesTo 0 = .ok (.iload_n 1, 1) := by decide +kernel
theorem dX8_doesTo_1 : decode cX8_doesTo 1 = .ok (.iconst 2, 1) := by decide +kernel
theorem dX8_doesTo_2 : decode cX8_doesTo 2 = .ok (.if_icmp .ne 31, 3) := by decide +kernel
theorem dX8_doesTo_5 : decode cX8_doesTo 5 = .ok (.iload_n 3, 1) := by decide +kernel
theorem dX8_doesTo_6 : decode cX8_doesTo 6 = .ok (.bipush 8, 2) := by decide +kernel
theorem dX8_doesTo_8 : decode cX8_doesTo 8 = .ok (.if_icmp .ge 25, 3) := by decide +kernel
theorem dX8_doesTo_11 : decode cX8_doesTo 11 = .ok (.aload_n 0, 1) := by decide +kernel
theorem dX8_doesTo_12 : decode cX8_doesTo 12 = .ok (.aload_n 0, 1) := by decide +kernel
theorem dX8_doesTo_13 : decode cX8_doesTo 13 = .ok (.getfield 25, 3) := by decide +kernel
theorem dX8_doesTo_16 : decode cX8_doesTo 16 = .ok (.iload_n 2, 1) := by decide +kernel
theorem dX8_doesTo_17 : decode cX8_doesTo 17 = .ok (.iload_n 3, 1) := by decide +kernel
theorem dX8_doesTo_18 : decode cX8_doesTo 18 = .ok (.invokevirtual 155, 3) := by decide +kernel
theorem dX8_doesTo_21 : decode cX8_doesTo 21 = .ok (.ifCond .eq 12, 3) := by decide +kernel
theorem dX8_doesTo_24 : decode cX8_doesTo 24 = .ok (.aload_n 0, 1) := by decide +kernel
theorem dX8_doesTo_25 : decode cX8_doesTo 25 = .ok (.getfield 25, 3) := by decide +kernel
theorem dX8_doesTo_28 : decode cX8_doesTo 28 = .ok (.iload_n 2, 1) := by decide +kernel
theorem dX8_doesTo_29 : decode cX8_doesTo 29 = .ok (.iload_n 3, 1) := by decide +kernel
theorem dX8_doesTo_30 : decode cX8_doesTo 30 = .ok (.iastore, 1) := by decide +kernel
theorem dX8_doesTo_31 : decode cX8_doesTo 31 = .ok (.iconst 1, 1) := by decide +kernel
theorem dX8_doesTo_32 : decode cX8_doesTo 32 = .ok (.ireturn, 1) := by decide +kernel
theorem dX8_doesTo_33 : decode cX8_doesTo 33 = .ok (.iload_n 1, 1) := by decide +kernel
theorem dX8_doesTo_34 : decode cX8_doesTo 34 = .ok (.iconst 3, 1) := by decide +kernel
theorem dX8_doesTo_35 : decode cX8_doesTo 35 = .ok (.if_icmp .ne 31, 3) := by decide +kernel
theorem dX8_doesTo_38 : decode cX8_doesTo 38 = .ok (.iload_n 3, 1) := by decide +kernel
theorem dX8_doesTo_39 : decode cX8_doesTo 39 = .ok (.iconst 4, 1) := by decide +kernel
theorem dX8_doesTo_40 : decode cX8_doesTo 40 = .ok (.if_icmp .ge 26, 3) := by decide +kernel
theorem dX8_doesTo_43 : decode cX8_doesTo 43 = .ok (.aload_n 0, 1) := by decide +kernel
theorem dX8_doesTo_44 : decode cX8_doesTo 44 = .ok (.getfield 25, 3) := by decide +kernel
theorem dX8_doesTo_47 : decode cX8_doesTo 47 = .ok (.iload_n 2, 1) := by decide +kernel
theorem dX8_doesTo_48 : decode cX8_doesTo 48 = .ok (.iload_n 3, 1) := by decide +kernel
theorem dX8_doesTo_49 : decode cX8_doesTo 49 = .ok (.invokestatic 161, 3) := by decide +kernel
theorem dX8_doesTo_52 : decode cX8_doesTo 52 = .ok (.ifCond .eq 14, 3) := by decide +kernel
theorem dX8_doesTo_55 : decode cX8_doesTo 55 = .ok (.aload_n 0, 1) := by decide +kernel
theorem dX8_doesTo_56 : decode cX8_doesTo 56 = .ok (.getfield 25, 3) := by decide +kernel
theorem dX8_doesTo_59 : decode cX8_doesTo 59 = .ok (.iload_n 2, 1) := by decide +kernel
theorem dX8_doesTo_60 : decode cX8_doesTo 60 = .ok (.iload_n 3, 1) := by decide +kernel
theorem dX8_doesTo_61 : decode cX8_doesTo 61 = .ok (.invokestatic 164, 3) := by decide +kernel
theorem dX8_doesTo_64 : decode cX8_doesTo 64 = .ok (.iconst 1, 1) := by decide +kernel
theorem dX8_doesTo_65 : decode cX8_doesTo 65 = .ok (.ireturn, 1) := by decide +kernel
theorem dX8_doesTo_66 : decode cX8_doesTo 66 = .ok (.iload_n 1, 1) := by decide +kernel
theorem dX8_doesTo_67 : decode cX8_doesTo 67 = .ok (.iconst 5, 1) := by decide +kernel
theorem dX8_doesTo_68 : decode cX8_doesTo 68 = .ok (.if_icmp .ne 30, 3) := by decide +kernel
theorem dX8_doesTo_71 : decode cX8_doesTo 71 = .ok (.iload_n 3, 1) := by decide +kernel
theorem dX8_doesTo_72 : decode cX8_doesTo 72 = .ok (.aload_n 0, 1) := by decide +kernel
theorem dX8_doesTo_73 : decode cX8_doesTo 73 = .ok (.getfield 60, 3) := by decide +kernel
theorem dX8_doesTo_76 : decode cX8_doesTo 76 = .ok (.if_icmp .ge 20, 3) := by decide +kernel
theorem dX8_doesTo_79 : decode cX8_doesTo 79 = .ok (.aload_n 0, 1) := by decide +kernel
theorem dX8_doesTo_80 : decode cX8_doesTo 80 = .ok (.aload_n 0, 1) := by decide +kernel
theorem dX8_doesTo_81 : decode cX8_doesTo 81 = .ok (.getfield 25, 3) := by decide +kernel
theorem dX8_doesTo_84 : decode cX8_doesTo 84 = .ok (.iload_n 2, 1) := by decide +kernel
theorem dX8_doesTo_85 : decode cX8_doesTo 85 = .ok (.invokevirtual 122, 3) := by decide +kernel
theorem dX8_doesTo_88 : decode cX8_doesTo 88 = .ok (.iload_n 3, 1) := by decide +kernel
theorem dX8_doesTo_89 : decode cX8_doesTo 89 = .ok (.if_icmp .ne 7, 3) := by decide +kernel
theorem dX8_doesTo_92 : decode cX8_doesTo 92 = .ok (.iconst 1, 1) := by decide +kernel
theorem dX8_doesTo_93 : decode cX8_doesTo 93 = .ok (.goto 4, 3) := by decide +kernel
theorem dX8_doesTo_96 : decode cX8_doesTo 96 = .ok (.iconst 0, 1) := by decide +kernel
theorem dX8_doesTo_97 : decode cX8_doesTo 97 = .ok (.ireturn, 1) := by decide +kernel
theorem dX8_doesTo_98 : decode cX8_doesTo 98 = .ok (.iload_n 1, 1) := by decide +kernel
theorem dX8_doesTo_99 : decode cX8_doesTo 99 = .ok (.bipush 6, 2) := by decide +kernel
theorem dX8_doesTo_101 : decode cX8_doesTo 101 = .ok (.if_icmp .ne 31, 3) := by decide +kernel
theorem dX8_doesTo_104 : decode cX8_doesTo 104 = .ok (.aload_n 0, 1) := by decide +kernel
theorem dX8_doesTo_105 : decode cX8_doesTo 105 = .ok (.getfield 25, 3) := by decide +kernel
theorem dX8_doesTo_108 : decode cX8_doesTo 108 = .ok (.iload_n 2, 1) := by decide +kernel
theorem dX8_doesTo_109 : decode cX8_doesTo 109 = .ok (.invokestatic 102, 3) := by decide +kernel
theorem dX8_doesTo_112 : decode cX8_doesTo 112 = .ok (.ifCond .eq 20, 3) := by decide +kernel
theorem dX8_doesTo_115 : decode cX8_doesTo 115 = .ok (.aload_n 0, 1) := by decide +kernel
theorem dX8_doesTo_116 : decode cX8_doesTo 116 = .ok (.getfield 25, 3) := by decide +kernel
theorem dX8_doesTo_119 : decode cX8_doesTo 119 = .ok (.bipush 6, 2) := by decide +kernel
theorem dX8_doesTo_121 : decode cX8_doesTo 121 = .ok (.iload_n 2, 1) := by decide +kernel
theorem dX8_doesTo_122 : decode cX8_doesTo 122 = .ok (.iadd, 1) := by decide +kernel
theorem dX8_doesTo_123 : decode cX8_doesTo 123 = .ok (.iaload, 1) := by decide +kernel
theorem dX8_doesTo_124 : decode cX8_doesTo 124 = .ok (.iload_n 3, 1) := by decide +kernel
theorem dX8_doesTo_125 : decode cX8_doesTo 125 = .ok (.if_icmp .ne 7, 3) := by decide +kernel
theorem dX8_doesTo_128 : decode cX8_doesTo 128 = .ok (.iconst 1, 1) := by decide +kernel
theorem dX8_doesTo_129 : decode cX8_doesTo 129 = .ok (.goto 4, 3) := by decide +kernel
theorem dX8_doesTo_132 : decode cX8_doesTo 132 = .ok (.iconst 0, 1) := by decide +kernel
theorem dX8_doesTo_133 : decode cX8_doesTo 133 = .ok (.ireturn, 1) := by decide +kernel
theorem dX8_does_0 : decode cX8_does 0 = .ok (.iload_n 1, 1) := by decide +kernel
theorem dX8_does_1 : decode cX8_does 1 = .ok (.bipush 100, 2) := by decide +kernel
theorem dX8_does_3 : decode cX8_does 3 = .ok (.idiv, 1) := by decide +kernel
theorem dX8_does_4 : decode cX8_does 4 = .ok (.istore_n 2, 1) := by decide +kernel
theorem dX8_does_5 : decode cX8_does 5 = .ok (.iload_n 1, 1) := by decide +kernel
theorem dX8_does_6 : decode cX8_does 6 = .ok (.bipush 10, 2) := by decide +kernel
theorem dX8_does_8 : decode cX8_does 8 = .ok (.idiv, 1) := by decide +kernel
theorem dX8_does_9 : decode cX8_does 9 = .ok (.bipush 10, 2) := by decide +kernel
theorem dX8_does_11 : decode cX8_does 11 = .ok (.irem, 1) := by decide +kernel
theorem dX8_does_12 : decode cX8_does 12 = .ok (.istore_n 3, 1) := by decide +kernel
theorem dX8_does_13 : decode cX8_does 13 = .ok (.iload_n 1, 1) := by decide +kernel
theorem dX8_does_14 : decode cX8_does 14 = .ok (.bipush 10, 2) := by decide +kernel
theorem dX8_does_16 : decode cX8_does 16 = .ok (.irem, 1) := by decide +kernel
theorem dX8_does_17 : decode cX8_does 17 = .ok (.istore 4, 2) := by decide +kernel
theorem dX8_does_19 : decode cX8_does 19 = .ok (.iload_n 1, 1) := by decide +kernel
theorem dX8_does_20 : decode cX8_does 20 = .ok (.ifCond .ne 13, 3) := by decide +kernel
theorem dX8_does_23 : decode cX8_does 23 = .ok (.aload_n 0, 1) := by decide +kernel
theorem dX8_does_24 : decode cX8_does 24 = .ok (.aload_n 0, 1) := by decide +kernel
theorem dX8_does_25 : decode cX8_does 25 = .ok (.getfield 25, 3) := by decide +kernel
theorem dX8_does_28 : decode cX8_does 28 = .ok (.invokevirtual 145, 3) := by decide +kernel
theorem dX8_does_31 : decode cX8_does 31 = .ok (.iconst 1, 1) := by decide +kernel
theorem dX8_does_32 : decode cX8_does 32 = .ok (.ireturn, 1) := by decide +kernel
theorem dX8_does_33 : decode cX8_does 33 = .ok (.iload_n 1, 1) := by decide +kernel
theorem dX8_does_34 : decode cX8_does 34 = .ok (.bipush 100, 2) := by decide +kernel
theorem dX8_does_36 : decode cX8_does 36 = .ok (.if_icmp .ne 14, 3) := by decide +kernel
theorem dX8_does_39 : decode cX8_does 39 = .ok (.aload_n 0, 1) := by decide +kernel
theorem dX8_does_40 : decode cX8_does 40 = .ok (.aload_n 0, 1) := by decide +kernel
theorem dX8_does_41 : decode cX8_does 41 = .ok (.getfield 25, 3) := by decide +kernel
theorem dX8_does_44 : decode cX8_does 44 = .ok (.invokevirtual 152, 3) := by decide +kernel
theorem dX8_does_47 : decode cX8_does 47 = .ok (.pop, 1) := by decide +kernel
theorem dX8_does_48 : decode cX8_does 48 = .ok (.iconst 1, 1) := by decide +kernel
theorem dX8_does_49 : decode cX8_does 49 = .ok (.ireturn, 1) := by decide +kernel
theorem dX8_does_50 : decode cX8_does 50 = .ok (.iload_n 2, 1) := by decide +kernel
theorem dX8_does_51 : decode cX8_does 51 = .ok (.iconst 4, 1) := by decide +kernel
theorem dX8_does_52 : decode cX8_does 52 = .ok (.if_icmp .ne 54, 3) := by decide +kernel
theorem dX8_does_55 : decode cX8_does 55 = .ok (.iload_n 3, 1) := by decide +kernel
theorem dX8_does_56 : decode cX8_does 56 = .ok (.ifCond .ne 28, 3) := by decide +kernel
theorem dX8_does_59 : decode cX8_does 59 = .ok (.aload_n 0, 1) := by decide +kernel
theorem dX8_does_60 : decode cX8_does 60 = .ok (.iload 4, 2) := by decide +kernel
theorem dX8_does_62 : decode cX8_does 62 = .ok (.invokevirtual 138, 3) := by decide +kernel
theorem dX8_does_65 : decode cX8_does 65 = .ok (.ifCond .ne 19, 3) := by decide +kernel
theorem dX8_does_68 : decode cX8_does 68 = .ok (.aload_n 0, 1) := by decide +kernel
theorem dX8_does_69 : decode cX8_does 69 = .ok (.getfield 25, 3) := by decide +kernel
theorem dX8_does_72 : decode cX8_does 72 = .ok (.iload 4, 2) := by decide +kernel
theorem dX8_does_74 : decode cX8_does 74 = .ok (.invokestatic 102, 3) := by decide +kernel
theorem dX8_does_77 : decode cX8_does 77 = .ok (.ifCond .eq 7, 3) := by decide +kernel
theorem dX8_does_80 : decode cX8_does 80 = .ok (.iconst 1, 1) := by decide +kernel
theorem dX8_does_81 : decode cX8_does 81 = .ok (.goto 4, 3) := by decide +kernel
theorem dX8_does_84 : decode cX8_does 84 = .ok (.iconst 0, 1) := by decide +kernel
theorem dX8_does_85 : decode cX8_does 85 = .ok (.istore 5, 2) := by decide +kernel
theorem dX8_does_87 : decode cX8_does 87 = .ok (.iload 5, 2) := by decide +kernel
theorem dX8_does_89 : decode cX8_does 89 = .ok (.ifCond .eq 14, 3) := by decide +kernel
theorem dX8_does_92 : decode cX8_does 92 = .ok (.aload_n 0, 1) := by decide +kernel
theorem dX8_does_93 : decode cX8_does 93 = .ok (.getfield 25, 3) := by decide +kernel
theorem dX8_does_96 : decode cX8_does 96 = .ok (.bipush 30, 2) := by decide +kernel
theorem dX8_does_98 : decode cX8_does 98 = .ok (.iload 4, 2) := by decide +kernel
theorem dX8_does_100 : decode cX8_does 100 = .ok (.iadd, 1) := by decide +kernel
theorem dX8_does_101 : decode cX8_does 101 = .ok (.iconst 2, 1) := by decide +kernel
theorem dX8_does_102 : decode cX8_does 102 = .ok (.iastore, 1) := by decide +kernel
theorem dX8_does_103 : decode cX8_does 103 = .ok (.iload 5, 2) := by decide +kernel
theorem dX8_does_105 : decode cX8_does 105 = .ok (.ireturn, 1) := by decide +kernel
theorem dX8_does_106 : decode cX8_does 106 = .ok (.aload_n 0, 1) := by decide +kernel
theorem dX8_does_107 : decode cX8_does 107 = .ok (.iload_n 3, 1) := by decide +kernel
theorem dX8_does_108 : decode cX8_does 108 = .ok (.invokevirtual 138, 3) := by decide +kernel
theorem dX8_does_111 : decode cX8_does 111 = .ok (.ifCond .ne 18, 3) := by decide +kernel
theorem dX8_does_114 : decode cX8_does 114 = .ok (.aload_n 0, 1) := by decide +kernel
theorem dX8_does_115 : decode cX8_does 115 = .ok (.iload_n 2, 1) := by decide +kernel
theorem dX8_does_116 : decode cX8_does 116 = .ok (.iload_n 3, 1) := by decide +kernel
theorem dX8_does_117 : decode cX8_does 117 = .ok (.iload 4, 2) := by decide +kernel
theorem dX8_does_119 : decode cX8_does 119 = .ok (.invokevirtual 202, 3) := by decide +kernel
theorem dX8_does_122 : decode cX8_does 122 = .ok (.ifCond .eq 7, 3) := by decide +kernel
theorem dX8_does_125 : decode cX8_does 125 = .ok (.iconst 1, 1) := by decide +kernel
theorem dX8_does_126 : decode cX8_does 126 = .ok (.goto 4, 3) := by decide +kernel
theorem dX8_does_129 : decode cX8_does 129 = .ok (.iconst 0, 1) := by decide +kernel
theorem dX8_does_130 : decode cX8_does 130 = .ok (.ireturn, 1) := by decide +kernel
theorem dX8_judge_0 : decode cX8_judge 0 = .ok (.aload_n 0, 1) := by decide +kernel
theorem dX8_judge_1 : decode cX8_judge 1 = .ok (.iconst 0, 1) := by decide +kernel
theorem dX8_judge_2 : decode cX8_judge 2 = .ok (.putfield 56, 3) := by decide +kernel
theorem dX8_judge_5 : decode cX8_judge 5 = .ok (.iload_n 1, 1) := by decide +kernel
theorem dX8_judge_6 : decode cX8_judge 6 = .ok (.i2l, 1) := by decide +kernel
theorem dX8_judge_7 : decode cX8_judge 7 = .ok (.lconst 1, 1) := by decide +kernel
theorem dX8_judge_8 : decode cX8_judge 8 = .ok (.ldc2_w 206, 3) := by decide +kernel
theorem dX8_judge_11 : decode cX8_judge 11 = .ok (.invokestatic 63, 3) := by decide +kernel
theorem dX8_judge_14 : decode cX8_judge 14 = .ok (.ifCond .eq 20, 3) := by decide +kernel
theorem dX8_judge_17 : decode cX8_judge 17 = .ok (.lload_n 2, 1) := by decide +kernel
theorem dX8_judge_18 : decode cX8_judge 18 = .ok (.lconst 0, 1) := by decide +kernel
theorem dX8_judge_19 : decode cX8_judge 19 = .ok (.ldc2_w 208, 3) := by decide +kernel
theorem dX8_judge_22 : decode cX8_judge 22 = .ok (.iload_n 1, 1) := by decide +kernel
theorem dX8_judge_23 : decode cX8_judge 23 = .ok (.invokestatic 210, 3) := by decide +kernel
theorem dX8_judge_26 : decode cX8_judge 26 = .ok (.lconst 1, 1) := by decide +kernel
theorem dX8_judge_27 : decode cX8_judge 27 = .ok (.lsub, 1) := by decide +kernel
theorem dX8_judge_28 : decode cX8_judge 28 = .ok (.invokestatic 63, 3) := by decide +kernel
theorem dX8_judge_31 : decode cX8_judge 31 = .ok (.ifCond .ne 6, 3) := by decide +kernel
theorem dX8_judge_34 : decode cX8_judge 34 = .ok (.bipush (-2), 2) := by decide +kernel
theorem dX8_judge_36 : decode cX8_judge 36 = .ok (.ireturn, 1) := by decide +kernel
theorem dX8_judge_37 : decode cX8_judge 37 = .ok (.aload_n 0, 1) := by decide +kernel
theorem dX8_judge_38 : decode cX8_judge 38 = .ok (.invokevirtual 170, 3) := by decide +kernel
theorem dX8_judge_41 : decode cX8_judge 41 = .ok (.iconst 0, 1) := by decide +kernel
theorem dX8_judge_42 : decode cX8_judge 42 = .ok (.istore 4, 2) := by decide +kernel
theorem dX8_judge_44 : decode cX8_judge 44 = .ok (.iload 4, 2) := by decide +kernel
theorem dX8_judge_46 : decode cX8_judge 46 = .ok (.iload_n 1, 1) := by decide +kernel
theorem dX8_judge_47 : decode cX8_judge 47 = .ok (.if_icmp .ge 38, 3) := by decide +kernel
theorem dX8_judge_50 : decode cX8_judge 50 = .ok (.aload_n 0, 1) := by decide +kernel
theorem dX8_judge_51 : decode cX8_judge 51 = .ok (.lload_n 2, 1) := by decide +kernel
theorem dX8_judge_52 : decode cX8_judge 52 = .ok (.ldc2_w 208, 3) := by decide +kernel
theorem dX8_judge_55 : decode cX8_judge 55 = .ok (.iload_n 1, 1) := by decide +kernel
theorem dX8_judge_56 : decode cX8_judge 56 = .ok (.iconst 1, 1) := by decide +kernel
theorem dX8_judge_57 : decode cX8_judge 57 = .ok (.isub, 1) := by decide +kernel
theorem dX8_judge_58 : decode cX8_judge 58 = .ok (.iload 4, 2) := by decide +kernel
theorem dX8_judge_60 : decode cX8_judge 60 = .ok (.isub, 1) := by decide +kernel
theorem dX8_judge_61 : decode cX8_judge 61 = .ok (.invokestatic 210, 3) := by decide +kernel
theorem dX8_judge_64 : decode cX8_judge 64 = .ok (.ldiv, 1) := by decide +kernel
theorem dX8_judge_65 : decode cX8_judge 65 = .ok (.ldc2_w 208, 3) := by decide +kernel
theorem dX8_judge_68 : decode cX8_judge 68 = .ok (.lrem, 1) := by decide +kernel
theorem dX8_judge_69 : decode cX8_judge 69 = .ok (.l2i, 1) := by decide +kernel
theorem dX8_judge_70 : decode cX8_judge 70 = .ok (.invokevirtual 214, 3) := by decide +kernel
theorem dX8_judge_73 : decode cX8_judge 73 = .ok (.ifCond .ne 6, 3) := by decide +kernel
theorem dX8_judge_76 : decode cX8_judge 76 = .ok (.iload 4, 2) := by decide +kernel
theorem dX8_judge_78 : decode cX8_judge 78 = .ok (.ireturn, 1) := by decide +kernel
theorem dX8_judge_79 : decode cX8_judge 79 = .ok (.iinc 4 1, 3) := by decide +kernel
theorem dX8_judge_82 : decode cX8_judge 82 = .ok (.goto (-38), 3) := by decide +kernel
theorem dX8_judge_85 : decode cX8_judge 85 = .ok (.bipush (-9), 2) := by decide +kernel
theorem dX8_judge_87 : decode cX8_judge 87 = .ok (.ireturn, 1) := by decide +kernel
theorem dX8_ways_0 : decode cX8_ways 0 = .ok (.iconst 1, 1) := by decide +kernel
theorem dX8_ways_1 : decode cX8_ways 1 = .ok (.istore_n 1, 1) := by decide +kernel
theorem dX8_ways_2 : decode cX8_ways 2 = .ok (.iconst 2, 1) := by decide +kernel
theorem dX8_ways_3 : decode cX8_ways 3 = .ok (.istore_n 2, 1) := by decide +kernel
theorem dX8_ways_4 : decode cX8_ways 4 = .ok (.iload_n 2, 1) := by decide +kernel
theorem dX8_ways_5 : decode cX8_ways 5 = .ok (.iload_n 0, 1) := by decide +kernel
theorem dX8_ways_6 : decode cX8_ways 6 = .ok (.if_icmp .gt 13, 3) := by decide +kernel
theorem dX8_ways_9 : decode cX8_ways 9 = .ok (.iload_n 1, 1) := by decide +kernel
theorem dX8_ways_10 : decode cX8_ways 10 = .ok (.iload_n 2, 1) := by decide +kernel
theorem dX8_ways_11 : decode cX8_ways 11 = .ok (.imul, 1) := by decide +kernel
theorem dX8_ways_12 : decode cX8_ways 12 = .ok (.istore_n 1, 1) := by decide +kernel
theorem dX8_ways_13 : decode cX8_ways 13 = .ok (.iinc 2 1, 3) := by decide +kernel
theorem dX8_ways_16 : decode cX8_ways 16 = .ok (.goto (-12), 3) := by decide +kernel
theorem dX8_ways_19 : decode cX8_ways 19 = .ok (.iload_n 1, 1) := by decide +kernel
theorem dX8_ways_20 : decode cX8_ways 20 = .ok (.ireturn, 1) := by decide +kernel
theorem dX8_divisor_0 : decode cX8_divisor 0 = .ok (.iload_n 0, 1) := by decide +kernel
theorem dX8_divisor_1 : decode cX8_divisor 1 = .ok (.ifCond .ge 8, 3) := by decide +kernel
theorem dX8_divisor_4 : decode cX8_divisor 4 = .ok (.iload_n 0, 1) := by decide +kernel
theorem dX8_divisor_5 : decode cX8_divisor 5 = .ok (.ineg, 1) := by decide +kernel
theorem dX8_divisor_6 : decode cX8_divisor 6 = .ok (.goto 4, 3) := by decide +kernel
theorem dX8_divisor_9 : decode cX8_divisor 9 = .ok (.iload_n 0, 1) := by decide +kernel
theorem dX8_divisor_10 : decode cX8_divisor 10 = .ok (.istore_n 2, 1) := by decide +kernel
theorem dX8_divisor_11 : decode cX8_divisor 11 = .ok (.iload_n 1, 1) := by decide +kernel
theorem dX8_divisor_12 : decode cX8_divisor 12 = .ok (.istore_n 3, 1) := by decide +kernel
theorem dX8_divisor_13 : decode cX8_divisor 13 = .ok (.iload_n 3, 1) := by decide +kernel
theorem dX8_divisor_14 : decode cX8_divisor 14 = .ok (.ifCond .eq 16, 3) := by decide +kernel
theorem dX8_divisor_17 : decode cX8_divisor 17 = .ok (.iload_n 2, 1) := by decide +kernel
theorem dX8_divisor_18 : decode cX8_divisor 18 = .ok (.iload_n 3, 1) := by decide +kernel
theorem dX8_divisor_19 : decode cX8_divisor 19 = .ok (.irem, 1) := by decide +kernel
theorem dX8_divisor_20 : decode cX8_divisor 20 = .ok (.istore 4, 2) := by decide +kernel
theorem dX8_divisor_22 : decode cX8_divisor 22 = .ok (.iload_n 3, 1) := by decide +kernel
theorem dX8_divisor_23 : decode cX8_divisor 23 = .ok (.istore_n 2, 1) := by decide +kernel
theorem dX8_divisor_24 : decode cX8_divisor 24 = .ok (.iload 4, 2) := by decide +kernel
theorem dX8_divisor_26 : decode cX8_divisor 26 = .ok (.istore_n 3, 1) := by decide +kernel
theorem dX8_divisor_27 : decode cX8_divisor 27 = .ok (.goto (-14), 3) := by decide +kernel
theorem dX8_divisor_30 : decode cX8_divisor 30 = .ok (.iload_n 2, 1) := by decide +kernel
theorem dX8_divisor_31 : decode cX8_divisor 31 = .ok (.ireturn, 1) := by decide +kernel
theorem dX8_fraction_0 : decode cX8_fraction 0 = .ok (.iload_n 0, 1) := by decide +kernel
theorem dX8_fraction_1 : decode cX8_fraction 1 = .ok (.iload_n 1, 1) := by decide +kernel
theorem dX8_fraction_2 : decode cX8_fraction 2 = .ok (.invokestatic 217, 3) := by decide +kernel
theorem dX8_fraction_5 : decode cX8_fraction 5 = .ok (.istore_n 3, 1) := by decide +kernel
theorem dX8_fraction_6 : decode cX8_fraction 6 = .ok (.iload_n 2, 1) := by decide +kernel
theorem dX8_fraction_7 : decode cX8_fraction 7 = .ok (.ifCond .eq 9, 3) := by decide +kernel
theorem dX8_fraction_10 : decode cX8_fraction 10 = .ok (.iload_n 0, 1) := by decide +kernel
theorem dX8_fraction_11 : decode cX8_fraction 11 = .ok (.iload_n 3, 1) := by decide +kernel
theorem dX8_fraction_12 : decode cX8_fraction 12 = .ok (.idiv, 1) := by decide +kernel
theorem dX8_fraction_13 : decode cX8_fraction 13 = .ok (.goto 6, 3) := by decide +kernel
theorem dX8_fraction_16 : decode cX8_fraction 16 = .ok (.iload_n 1, 1) := by decide +kernel
theorem dX8_fraction_17 : decode cX8_fraction 17 = .ok (.iload_n 3, 1) := by decide +kernel
theorem dX8_fraction_18 : decode cX8_fraction 18 = .ok (.idiv, 1) := by decide +kernel
theorem dX8_fraction_19 : decode cX8_fraction 19 = .ok (.ireturn, 1) := by decide +kernel
theorem dX8_seenBy_0 : decode cX8_seenBy 0 = .ok (.aload_n 0, 1) := by decide +kernel
theorem dX8_seenBy_1 : decode cX8_seenBy 1 = .ok (.iload_n 1, 1) := by decide +kernel
theorem dX8_seenBy_2 : decode cX8_seenBy 2 = .ok (.putfield 109, 3) := by decide +kernel
theorem dX8_seenBy_5 : decode cX8_seenBy 5 = .ok (.iconst 0, 1) := by decide +kernel
theorem dX8_seenBy_6 : decode cX8_seenBy 6 = .ok (.istore_n 2, 1) := by decide +kernel
theorem dX8_seenBy_7 : decode cX8_seenBy 7 = .ok (.iconst 0, 1) := by decide +kernel
theorem dX8_seenBy_8 : decode cX8_seenBy 8 = .ok (.istore_n 3, 1) := by decide +kernel
theorem dX8_seenBy_9 : decode cX8_seenBy 9 = .ok (.iload_n 3, 1) := by decide +kernel
theorem dX8_seenBy_10 : decode cX8_seenBy 10 = .ok (.aload_n 0, 1) := by decide +kernel
theorem dX8_seenBy_11 : decode cX8_seenBy 11 = .ok (.getfield 60, 3) := by decide +kernel
theorem dX8_seenBy_14 : decode cX8_seenBy 14 = .ok (.if_icmp .ge 38, 3) := by decide +kernel
theorem dX8_seenBy_17 : decode cX8_seenBy 17 = .ok (.aload_n 0, 1) := by decide +kernel
theorem dX8_seenBy_18 : decode cX8_seenBy 18 = .ok (.aload_n 0, 1) := by decide +kernel
theorem dX8_seenBy_19 : decode cX8_seenBy 19 = .ok (.getfield 22, 3) := by decide +kernel
theorem dX8_seenBy_22 : decode cX8_seenBy 22 = .ok (.iload_n 3, 1) := by decide +kernel
theorem dX8_seenBy_23 : decode cX8_seenBy 23 = .ok (.invokevirtual 122, 3) := by decide +kernel
theorem dX8_seenBy_26 : decode cX8_seenBy 26 = .ok (.istore 4, 2) := by decide +kernel
theorem dX8_seenBy_28 : decode cX8_seenBy 28 = .ok (.iload_n 2, 1) := by decide +kernel
theorem dX8_seenBy_29 : decode cX8_seenBy 29 = .ok (.iload 4, 2) := by decide +kernel
theorem dX8_seenBy_31 : decode cX8_seenBy 31 = .ok (.bipush (-9), 2) := by decide +kernel
theorem dX8_seenBy_33 : decode cX8_seenBy 33 = .ok (.if_icmp .ne 7, 3) := by decide +kernel
theorem dX8_seenBy_36 : decode cX8_seenBy 36 = .ok (.iconst 0, 1) := by decide +kernel
theorem dX8_seenBy_37 : decode cX8_seenBy 37 = .ok (.goto 7, 3) := by decide +kernel
theorem dX8_seenBy_40 : decode cX8_seenBy 40 = .ok (.iconst 1, 1) := by decide +kernel
theorem dX8_seenBy_41 : decode cX8_seenBy 41 = .ok (.iload 4, 2) := by decide +kernel
theorem dX8_seenBy_43 : decode cX8_seenBy 43 = .ok (.ishl, 1) := by decide +kernel
theorem dX8_seenBy_44 : decode cX8_seenBy 44 = .ok (.ior, 1) := by decide +kernel
theorem dX8_seenBy_45 : decode cX8_seenBy 45 = .ok (.istore_n 2, 1) := by decide +kernel
theorem dX8_seenBy_46 : decode cX8_seenBy 46 = .ok (.iinc 3 1, 3) := by decide +kernel
theorem dX8_seenBy_49 : decode cX8_seenBy 49 = .ok (.goto (-40), 3) := by decide +kernel
theorem dX8_seenBy_52 : decode cX8_seenBy 52 = .ok (.aload_n 0, 1) := by decide +kernel
theorem dX8_seenBy_53 : decode cX8_seenBy 53 = .ok (.bipush 63, 2) := by decide +kernel
theorem dX8_seenBy_55 : decode cX8_seenBy 55 = .ok (.putfield 109, 3) := by decide +kernel
theorem dX8_seenBy_58 : decode cX8_seenBy 58 = .ok (.iload_n 2, 1) := by decide +kernel
theorem dX8_seenBy_59 : decode cX8_seenBy 59 = .ok (.invokestatic 220, 3) := by decide +kernel
theorem dX8_seenBy_62 : decode cX8_seenBy 62 = .ok (.ireturn, 1) := by decide +kernel
theorem dX8_share_0 : decode cX8_share 0 = .ok (.aload_n 0, 1) := by decide +kernel
theorem dX8_share_1 : decode cX8_share 1 = .ok (.iconst 0, 1) := by decide +kernel
theorem dX8_share_2 : decode cX8_share 2 = .ok (.putfield 56, 3) := by decide +kernel
theorem dX8_share_5 : decode cX8_share 5 = .ok (.aload_n 0, 1) := by decide +kernel
theorem dX8_share_6 : decode cX8_share 6 = .ok (.iload_n 1, 1) := by decide +kernel
theorem dX8_share_7 : decode cX8_share 7 = .ok (.invokevirtual 138, 3) := by decide +kernel
theorem dX8_share_10 : decode cX8_share 10 = .ok (.ifCond .eq 5, 3) := by decide +kernel
theorem dX8_share_13 : decode cX8_share 13 = .ok (.iconst (-1), 1) := by decide +kernel
theorem dX8_share_14 : decode cX8_share 14 = .ok (.ireturn, 1) := by decide +kernel
theorem dX8_share_15 : decode cX8_share 15 = .ok (.iconst 0, 1) := by decide +kernel
theorem dX8_share_16 : decode cX8_share 16 = .ok (.istore_n 3, 1) := by decide +kernel
theorem dX8_share_17 : decode cX8_share 17 = .ok (.iload_n 3, 1) := by decide +kernel
theorem dX8_share_18 : decode cX8_share 18 = .ok (.iconst 1, 1) := by decide +kernel
theorem dX8_share_19 : decode cX8_share 19 = .ok (.aload_n 0, 1) := by decide +kernel
theorem dX8_share_20 : decode cX8_share 20 = .ok (.getfield 60, 3) := by decide +kernel
theorem dX8_share_23 : decode cX8_share 23 = .ok (.ishl, 1) := by decide +kernel
theorem dX8_share_24 : decode cX8_share 24 = .ok (.if_icmp .ge 20, 3) := by decide +kernel
theorem dX8_share_27 : decode cX8_share 27 = .ok (.aload_n 0, 1) := by decide +kernel
theorem dX8_share_28 : decode cX8_share 28 = .ok (.getfield 53, 3) := by decide +kernel
theorem dX8_share_31 : decode cX8_share 31 = .ok (.iload_n 3, 1) := by decide +kernel
theorem dX8_share_32 : decode cX8_share 32 = .ok (.aload_n 0, 1) := by decide +kernel
theorem dX8_share_33 : decode cX8_share 33 = .ok (.iload_n 3, 1) := by decide +kernel
theorem dX8_share_34 : decode cX8_share 34 = .ok (.invokevirtual 224, 3) := by decide +kernel
theorem dX8_share_37 : decode cX8_share 37 = .ok (.iastore, 1) := by decide +kernel
theorem dX8_share_38 : decode cX8_share 38 = .ok (.iinc 3 1, 3) := by decide +kernel
theorem dX8_share_41 : decode cX8_share 41 = .ok (.goto (-24), 3) := by decide +kernel
theorem dX8_share_44 : decode cX8_share 44 = .ok (.iconst 0, 1) := by decide +kernel
theorem dX8_share_45 : decode cX8_share 45 = .ok (.istore_n 3, 1) := by decide +kernel
theorem dX8_share_46 : decode cX8_share 46 = .ok (.iconst 0, 1) := by decide +kernel
theorem dX8_share_47 : decode cX8_share 47 = .ok (.istore 4, 2) := by decide +kernel
theorem dX8_share_49 : decode cX8_share 49 = .ok (.iload 4, 2) := by decide +kernel
theorem dX8_share_51 : decode cX8_share 51 = .ok (.iconst 1, 1) := by decide +kernel
theorem dX8_share_52 : decode cX8_share 52 = .ok (.aload_n 0, 1) := by decide +kernel
theorem dX8_share_53 : decode cX8_share 53 = .ok (.getfield 60, 3) := by decide +kernel
theorem dX8_share_56 : decode cX8_share 56 = .ok (.ishl, 1) := by decide +kernel
theorem dX8_share_57 : decode cX8_share 57 = .ok (.if_icmp .ge 66, 3) := by decide +kernel
theorem dX8_share_60 : decode cX8_share 60 = .ok (.iload 4, 2) := by decide +kernel
theorem dX8_share_62 : decode cX8_share 62 = .ok (.iload_n 1, 1) := by decide +kernel
theorem dX8_share_63 : decode cX8_share 63 = .ok (.invokestatic 83, 3) := by decide +kernel
theorem dX8_share_66 : decode cX8_share 66 = .ok (.ifCond .ne 51, 3) := by decide +kernel
theorem dX8_share_69 : decode cX8_share 69 = .ok (.iload 4, 2) := by decide +kernel
theorem dX8_share_71 : decode cX8_share 71 = .ok (.invokestatic 220, 3) := by decide +kernel
theorem dX8_share_74 : decode cX8_share 74 = .ok (.istore 5, 2) := by decide +kernel
theorem dX8_share_76 : decode cX8_share 76 = .ok (.iload_n 3, 1) := by decide +kernel
theorem dX8_share_77 : decode cX8_share 77 = .ok (.iload 5, 2) := by decide +kernel
theorem dX8_share_79 : decode cX8_share 79 = .ok (.invokestatic 227, 3) := by decide +kernel
theorem dX8_share_82 : decode cX8_share 82 = .ok (.aload_n 0, 1) := by decide +kernel
theorem dX8_share_83 : decode cX8_share 83 = .ok (.getfield 60, 3) := by decide +kernel
theorem dX8_share_86 : decode cX8_share 86 = .ok (.iconst 1, 1) := by decide +kernel
theorem dX8_share_87 : decode cX8_share 87 = .ok (.isub, 1) := by decide +kernel
theorem dX8_share_88 : decode cX8_share 88 = .ok (.iload 5, 2) := by decide +kernel
theorem dX8_share_90 : decode cX8_share 90 = .ok (.isub, 1) := by decide +kernel
theorem dX8_share_91 : decode cX8_share 91 = .ok (.invokestatic 227, 3) := by decide +kernel
theorem dX8_share_94 : decode cX8_share 94 = .ok (.imul, 1) := by decide +kernel
theorem dX8_share_95 : decode cX8_share 95 = .ok (.aload_n 0, 1) := by decide +kernel
theorem dX8_share_96 : decode cX8_share 96 = .ok (.getfield 53, 3) := by decide +kernel
theorem dX8_share_99 : decode cX8_share 99 = .ok (.iload 4, 2) := by decide +kernel
theorem dX8_share_101 : decode cX8_share 101 = .ok (.iconst 1, 1) := by decide +kernel
theorem dX8_share_102 : decode cX8_share 102 = .ok (.iload_n 1, 1) := by decide +kernel
theorem dX8_share_103 : decode cX8_share 103 = .ok (.ishl, 1) := by decide +kernel
theorem dX8_share_104 : decode cX8_share 104 = .ok (.ior, 1) := by decide +kernel
theorem dX8_share_105 : decode cX8_share 105 = .ok (.iaload, 1) := by decide +kernel
theorem dX8_share_106 : decode cX8_share 106 = .ok (.aload_n 0, 1) := by decide +kernel
theorem dX8_share_107 : decode cX8_share 107 = .ok (.getfield 53, 3) := by decide +kernel
theorem dX8_share_110 : decode cX8_share 110 = .ok (.iload 4, 2) := by decide +kernel
theorem dX8_share_112 : decode cX8_share 112 = .ok (.iaload, 1) := by decide +kernel
theorem dX8_share_113 : decode cX8_share 113 = .ok (.isub, 1) := by decide +kernel
theorem dX8_share_114 : decode cX8_share 114 = .ok (.imul, 1) := by decide +kernel
theorem dX8_share_115 : decode cX8_share 115 = .ok (.iadd, 1) := by decide +kernel
theorem dX8_share_116 : decode cX8_share 116 = .ok (.istore_n 3, 1) := by decide +kernel
theorem dX8_share_117 : decode cX8_share 117 = .ok (.iinc 4 1, 3) := by decide +kernel
theorem dX8_share_120 : decode cX8_share 120 = .ok (.goto (-71), 3) := by decide +kernel
theorem dX8_share_123 : decode cX8_share 123 = .ok (.iload_n 3, 1) := by decide +kernel
theorem dX8_share_124 : decode cX8_share 124 = .ok (.aload_n 0, 1) := by decide +kernel
theorem dX8_share_125 : decode cX8_share 125 = .ok (.getfield 60, 3) := by decide +kernel
theorem dX8_share_128 : decode cX8_share 128 = .ok (.invokestatic 227, 3) := by decide +kernel
theorem dX8_share_131 : decode cX8_share 131 = .ok (.iload_n 2, 1) := by decide +kernel
theorem dX8_share_132 : decode cX8_share 132 = .ok (.invokestatic 230, 3) := by decide +kernel
theorem dX8_share_135 : decode cX8_share 135 = .ok (.ireturn, 1) := by decide +kernel
theorem dX8_taste_0 : decode cX8_taste 0 = .ok (.aload_n 0, 1) := by decide +kernel
theorem dX8_taste_1 : decode cX8_taste 1 = .ok (.iconst 0, 1) := by decide +kernel
theorem dX8_taste_2 : decode cX8_taste 2 = .ok (.putfield 56, 3) := by decide +kernel
theorem dX8_taste_5 : decode cX8_taste 5 = .ok (.iload_n 1, 1) := by decide +kernel
theorem dX8_taste_6 : decode cX8_taste 6 = .ok (.i2l, 1) := by decide +kernel
theorem dX8_taste_7 : decode cX8_taste 7 = .ok (.lconst 0, 1) := by decide +kernel
theorem dX8_taste_8 : decode cX8_taste 8 = .ok (.ldc2_w 177, 3) := by decide +kernel
theorem dX8_taste_11 : decode cX8_taste 11 = .ok (.invokestatic 63, 3) := by decide +kernel
theorem dX8_taste_14 : decode cX8_taste 14 = .ok (.ifCond .eq 15, 3) := by decide +kernel
theorem dX8_taste_17 : decode cX8_taste 17 = .ok (.iload_n 2, 1) := by decide +kernel
theorem dX8_taste_18 : decode cX8_taste 18 = .ok (.i2l, 1) := by decide +kernel
theorem dX8_taste_19 : decode cX8_taste 19 = .ok (.lconst 0, 1) := by decide +kernel
theorem dX8_taste_20 : decode cX8_taste 20 = .ok (.ldc2_w 177, 3) := by decide +kernel
theorem dX8_taste_23 : decode cX8_taste 23 = .ok (.invokestatic 63, 3) := by decide +kernel
theorem dX8_taste_26 : decode cX8_taste 26 = .ok (.ifCond .ne 6, 3) := by decide +kernel
theorem dX8_taste_29 : decode cX8_taste 29 = .ok (.bipush (-2), 2) := by decide +kernel
theorem dX8_taste_31 : decode cX8_taste 31 = .ok (.ireturn, 1) := by decide +kernel
theorem dX8_taste_32 : decode cX8_taste 32 = .ok (.aload_n 0, 1) := by decide +kernel
theorem dX8_taste_33 : decode cX8_taste 33 = .ok (.getfield 135, 3) := by decide +kernel
theorem dX8_taste_36 : decode cX8_taste 36 = .ok (.bipush 6, 2) := by decide +kernel
theorem dX8_taste_38 : decode cX8_taste 38 = .ok (.if_icmp .ne 6, 3) := by decide +kernel
theorem dX8_taste_41 : decode cX8_taste 41 = .ok (.bipush (-4), 2) := by decide +kernel
theorem dX8_taste_43 : decode cX8_taste 43 = .ok (.ireturn, 1) := by decide +kernel
theorem dX8_taste_44 : decode cX8_taste 44 = .ok (.aload_n 0, 1) := by decide +kernel
theorem dX8_taste_45 : decode cX8_taste 45 = .ok (.getfield 38, 3) := by decide +kernel
theorem dX8_taste_48 : decode cX8_taste 48 = .ok (.aload_n 0, 1) := by decide +kernel
theorem dX8_taste_49 : decode cX8_taste 49 = .ok (.getfield 135, 3) := by decide +kernel
theorem dX8_taste_52 : decode cX8_taste 52 = .ok (.iload_n 1, 1) := by decide +kernel
theorem dX8_taste_53 : decode cX8_taste 53 = .ok (.iastore, 1) := by decide +kernel
theorem dX8_taste_54 : decode cX8_taste 54 = .ok (.aload_n 0, 1) := by decide +kernel
theorem dX8_taste_55 : decode cX8_taste 55 = .ok (.getfield 41, 3) := by decide +kernel
theorem dX8_taste_58 : decode cX8_taste 58 = .ok (.aload_n 0, 1) := by decide +kernel
theorem dX8_taste_59 : decode cX8_taste 59 = .ok (.getfield 135, 3) := by decide +kernel
theorem dX8_taste_62 : decode cX8_taste 62 = .ok (.iload_n 2, 1) := by decide +kernel
theorem dX8_taste_63 : decode cX8_taste 63 = .ok (.iastore, 1) := by decide +kernel
theorem dX8_taste_64 : decode cX8_taste 64 = .ok (.aload_n 0, 1) := by decide +kernel
theorem dX8_taste_65 : decode cX8_taste 65 = .ok (.dup, 1) := by decide +kernel
theorem dX8_taste_66 : decode cX8_taste 66 = .ok (.getfield 135, 3) := by decide +kernel
theorem dX8_taste_69 : decode cX8_taste 69 = .ok (.iconst 1, 1) := by decide +kernel
theorem dX8_taste_70 : decode cX8_taste 70 = .ok (.iadd, 1) := by decide +kernel
theorem dX8_taste_71 : decode cX8_taste 71 = .ok (.putfield 135, 3) := by decide +kernel
theorem dX8_taste_74 : decode cX8_taste 74 = .ok (.aload_n 0, 1) := by decide +kernel
theorem dX8_taste_75 : decode cX8_taste 75 = .ok (.getfield 135, 3) := by decide +kernel
theorem dX8_taste_78 : decode cX8_taste 78 = .ok (.ireturn, 1) := by decide +kernel
theorem dX8_untaste_0 : decode cX8_untaste 0 = .ok (.aload_n 0, 1) := by decide +kernel
theorem dX8_untaste_1 : decode cX8_untaste 1 = .ok (.iconst 0, 1) := by decide +kernel
theorem dX8_untaste_2 : decode cX8_untaste 2 = .ok (.putfield 56, 3) := by decide +kernel
theorem dX8_untaste_5 : decode cX8_untaste 5 = .ok (.aload_n 0, 1) := by decide +kernel
theorem dX8_untaste_6 : decode cX8_untaste 6 = .ok (.getfield 135, 3) := by decide +kernel
theorem dX8_untaste_9 : decode cX8_untaste 9 = .ok (.istore_n 1, 1) := by decide +kernel
theorem dX8_untaste_10 : decode cX8_untaste 10 = .ok (.aload_n 0, 1) := by decide +kernel
theorem dX8_untaste_11 : decode cX8_untaste 11 = .ok (.iconst 0, 1) := by decide +kernel
theorem dX8_untaste_12 : decode cX8_untaste 12 = .ok (.putfield 135, 3) := by decide +kernel
theorem dX8_untaste_15 : decode cX8_untaste 15 = .ok (.iload_n 1, 1) := by decide +kernel
theorem dX8_untaste_16 : decode cX8_untaste 16 = .ok (.ireturn, 1) := by decide +kernel
theorem dX8_soakedFor_0 : decode cX8_soakedFor 0 = .ok (.iload_n 0, 1) := by decide +kernel
theorem dX8_soakedFor_1 : decode cX8_soakedFor 1 = .ok (.istore_n 3, 1) := by decide +kernel
theorem dX8_soakedFor_2 : decode cX8_soakedFor 2 = .ok (.iconst 0, 1) := by decide +kernel
theorem dX8_soakedFor_3 : decode cX8_soakedFor 3 = .ok (.istore 4, 2) := by decide +kernel
theorem dX8_soakedFor_5 : decode cX8_soakedFor 5 = .ok (.iload 4, 2) := by decide +kernel
theorem dX8_soakedFor_7 : decode cX8_soakedFor 7 = .ok (.iload_n 2, 1) := by decide +kernel
theorem dX8_soakedFor_8 : decode cX8_soakedFor 8 = .ok (.if_icmp .ge 15, 3) := by decide +kernel
theorem dX8_soakedFor_11 : decode cX8_soakedFor 11 = .ok (.iload_n 3, 1) := by decide +kernel
theorem dX8_soakedFor_12 : decode cX8_soakedFor 12 = .ok (.iload_n 1, 1) := by decide +kernel
theorem dX8_soakedFor_13 : decode cX8_soakedFor 13 = .ok (.invokestatic 106, 3) := by decide +kernel
theorem dX8_soakedFor_16 : decode cX8_soakedFor 16 = .ok (.istore_n 3, 1) := by decide +kernel
theorem dX8_soakedFor_17 : decode cX8_soakedFor 17 = .ok (.iinc 4 1, 3) := by decide +kernel
theorem dX8_soakedFor_20 : decode cX8_soakedFor 20 = .ok (.goto (-15), 3) := by decide +kernel
theorem dX8_soakedFor_23 : decode cX8_soakedFor 23 = .ok (.iload_n 3, 1) := by decide +kernel
theorem dX8_soakedFor_24 : decode cX8_soakedFor 24 = .ok (.ireturn, 1) := by decide +kernel
theorem dX8_kept_0 : decode cX8_kept 0 = .ok (.aload_n 0, 1) := by decide +kernel
theorem dX8_kept_1 : decode cX8_kept 1 = .ok (.iconst 0, 1) := by decide +kernel
theorem dX8_kept_2 : decode cX8_kept 2 = .ok (.putfield 56, 3) := by decide +kernel
theorem dX8_kept_5 : decode cX8_kept 5 = .ok (.iload_n 1, 1) := by decide +kernel
theorem dX8_kept_6 : decode cX8_kept 6 = .ok (.i2l, 1) := by decide +kernel
theorem dX8_kept_7 : decode cX8_kept 7 = .ok (.lconst 0, 1) := by decide +kernel
theorem dX8_kept_8 : decode cX8_kept 8 = .ok (.lconst 1, 1) := by decide +kernel
theorem dX8_kept_9 : decode cX8_kept 9 = .ok (.invokestatic 63, 3) := by decide +kernel
theorem dX8_kept_12 : decode cX8_kept 12 = .ok (.ifCond .ne 6, 3) := by decide +kernel
theorem dX8_kept_15 : decode cX8_kept 15 = .ok (.bipush (-2), 2) := by decide +kernel
theorem dX8_kept_17 : decode cX8_kept 17 = .ok (.ireturn, 1) := by decide +kernel
theorem dX8_kept_18 : decode cX8_kept 18 = .ok (.aload_n 0, 1) := by decide +kernel
theorem dX8_kept_19 : decode cX8_kept 19 = .ok (.iconst 0, 1) := by decide +kernel
theorem dX8_kept_20 : decode cX8_kept 20 = .ok (.putfield 234, 3) := by decide +kernel
theorem dX8_kept_23 : decode cX8_kept 23 = .ok (.aload_n 0, 1) := by decide +kernel
theorem dX8_kept_24 : decode cX8_kept 24 = .ok (.bipush (-9), 2) := by decide +kernel
theorem dX8_kept_26 : decode cX8_kept 26 = .ok (.putfield 237, 3) := by decide +kernel
theorem dX8_kept_29 : decode cX8_kept 29 = .ok (.iconst 0, 1) := by decide +kernel
theorem dX8_kept_30 : decode cX8_kept 30 = .ok (.istore_n 2, 1) := by decide +kernel
theorem dX8_kept_31 : decode cX8_kept 31 = .ok (.iload_n 2, 1) := by decide +kernel
theorem dX8_kept_32 : decode cX8_kept 32 = .ok (.bipush 40, 2) := by decide +kernel
theorem dX8_kept_34 : decode cX8_kept 34 = .ok (.if_icmp .ge 108, 3) := by decide +kernel
theorem dX8_kept_37 : decode cX8_kept 37 = .ok (.iconst 1, 1) := by decide +kernel
theorem dX8_kept_38 : decode cX8_kept 38 = .ok (.istore_n 3, 1) := by decide +kernel
theorem dX8_kept_39 : decode cX8_kept 39 = .ok (.iconst 0, 1) := by decide +kernel
theorem dX8_kept_40 : decode cX8_kept 40 = .ok (.istore 4, 2) := by decide +kernel
theorem dX8_kept_42 : decode cX8_kept 42 = .ok (.iload 4, 2) := by decide +kernel
theorem dX8_kept_44 : decode cX8_kept 44 = .ok (.aload_n 0, 1) := by decide +kernel
theorem dX8_kept_45 : decode cX8_kept 45 = .ok (.getfield 135, 3) := by decide +kernel
theorem dX8_kept_48 : decode cX8_kept 48 = .ok (.if_icmp .ge 47, 3) := by decide +kernel
theorem dX8_kept_51 : decode cX8_kept 51 = .ok (.iload_n 3, 1) := by decide +kernel
theorem dX8_kept_52 : decode cX8_kept 52 = .ok (.ifCond .eq 35, 3) := by decide +kernel
theorem dX8_kept_55 : decode cX8_kept 55 = .ok (.aload_n 0, 1) := by decide +kernel
theorem dX8_kept_56 : decode cX8_kept 56 = .ok (.getfield 38, 3) := by decide +kernel
theorem dX8_kept_59 : decode cX8_kept 59 = .ok (.iload 4, 2) := by decide +kernel
theorem dX8_kept_61 : decode cX8_kept 61 = .ok (.iaload, 1) := by decide +kernel
theorem dX8_kept_62 : decode cX8_kept 62 = .ok (.iload_n 2, 1) := by decide +kernel
theorem dX8_kept_63 : decode cX8_kept 63 = .ok (.bipush 10, 2) := by decide +kernel
theorem dX8_kept_65 : decode cX8_kept 65 = .ok (.idiv, 1) := by decide +kernel
theorem dX8_kept_66 : decode cX8_kept 66 = .ok (.iload_n 2, 1) := by decide +kernel
theorem dX8_kept_67 : decode cX8_kept 67 = .ok (.bipush 10, 2) := by decide +kernel
theorem dX8_kept_69 : decode cX8_kept 69 = .ok (.irem, 1) := by decide +kernel
theorem dX8_kept_70 : decode cX8_kept 70 = .ok (.invokestatic 240, 3) := by decide +kernel
theorem dX8_kept_73 : decode cX8_kept 73 = .ok (.aload_n 0, 1) := by decide +kernel
theorem dX8_kept_74 : decode cX8_kept 74 = .ok (.getfield 41, 3) := by decide +kernel
theorem dX8_kept_77 : decode cX8_kept 77 = .ok (.iload 4, 2) := by decide +kernel
theorem dX8_kept_79 : decode cX8_kept 79 = .ok (.iaload, 1) := by decide +kernel
theorem dX8_kept_80 : decode cX8_kept 80 = .ok (.if_icmp .ne 7, 3) := by decide +kernel
theorem dX8_kept_83 : decode cX8_kept 83 = .ok (.iconst 1, 1) := by decide +kernel
theorem dX8_kept_84 : decode cX8_kept 84 = .ok (.goto 4, 3) := by decide +kernel
theorem dX8_kept_87 : decode cX8_kept 87 = .ok (.iconst 0, 1) := by decide +kernel
theorem dX8_kept_88 : decode cX8_kept 88 = .ok (.istore_n 3, 1) := by decide +kernel
theorem dX8_kept_89 : decode cX8_kept 89 = .ok (.iinc 4 1, 3) := by decide +kernel
theorem dX8_kept_92 : decode cX8_kept 92 = .ok (.goto (-50), 3) := by decide +kernel
theorem dX8_kept_95 : decode cX8_kept 95 = .ok (.aload_n 0, 1) := by decide +kernel
theorem dX8_kept_96 : decode cX8_kept 96 = .ok (.iload_n 3, 1) := by decide +kernel
theorem dX8_kept_97 : decode cX8_kept 97 = .ok (.ifCond .eq 14, 3) := by decide +kernel
theorem dX8_kept_100 : decode cX8_kept 100 = .ok (.aload_n 0, 1) := by decide +kernel
theorem dX8_kept_101 : decode cX8_kept 101 = .ok (.getfield 234, 3) := by decide +kernel
theorem dX8_kept_104 : decode cX8_kept 104 = .ok (.ifCond .ne 7, 3) := by decide +kernel
theorem dX8_kept_107 : decode cX8_kept 107 = .ok (.iload_n 2, 1) := by decide +kernel
theorem dX8_kept_108 : decode cX8_kept 108 = .ok (.goto 7, 3) := by decide +kernel
theorem dX8_kept_111 : decode cX8_kept 111 = .ok (.aload_n 0, 1) := by decide +kernel
theorem dX8_kept_112 : decode cX8_kept 112 = .ok (.getfield 237, 3) := by decide +kernel
theorem dX8_kept_115 : decode cX8_kept 115 = .ok (.putfield 237, 3) := by decide +kernel
theorem dX8_kept_118 : decode cX8_kept 118 = .ok (.aload_n 0, 1) := by decide +kernel
theorem dX8_kept_119 : decode cX8_kept 119 = .ok (.dup, 1) := by decide +kernel
theorem dX8_kept_120 : decode cX8_kept 120 = .ok (.getfield 234, 3) := by decide +kernel
theorem dX8_kept_123 : decode cX8_kept 123 = .ok (.iload_n 3, 1) := by decide +kernel
theorem dX8_kept_124 : decode cX8_kept 124 = .ok (.ifCond .eq 7, 3) := by decide +kernel
theorem dX8_kept_127 : decode cX8_kept 127 = .ok (.iconst 1, 1) := by decide +kernel
theorem dX8_kept_128 : decode cX8_kept 128 = .ok (.goto 4, 3) := by decide +kernel
theorem dX8_kept_131 : decode cX8_kept 131 = .ok (.iconst 0, 1) := by decide +kernel
theorem dX8_kept_132 : decode cX8_kept 132 = .ok (.iadd, 1) := by decide +kernel
theorem dX8_kept_133 : decode cX8_kept 133 = .ok (.putfield 234, 3) := by decide +kernel
theorem dX8_kept_136 : decode cX8_kept 136 = .ok (.iinc 2 1, 3) := by decide +kernel
theorem dX8_kept_139 : decode cX8_kept 139 = .ok (.goto (-108), 3) := by decide +kernel
theorem dX8_kept_142 : decode cX8_kept 142 = .ok (.iload_n 1, 1) := by decide +kernel
theorem dX8_kept_143 : decode cX8_kept 143 = .ok (.ifCond .ne 10, 3) := by decide +kernel
theorem dX8_kept_146 : decode cX8_kept 146 = .ok (.aload_n 0, 1) := by decide +kernel
theorem dX8_kept_147 : decode cX8_kept 147 = .ok (.getfield 234, 3) := by decide +kernel
theorem dX8_kept_150 : decode cX8_kept 150 = .ok (.goto 7, 3) := by decide +kernel
theorem dX8_kept_153 : decode cX8_kept 153 = .ok (.aload_n 0, 1) := by decide +kernel
theorem dX8_kept_154 : decode cX8_kept 154 = .ok (.getfield 237, 3) := by decide +kernel
theorem dX8_kept_157 : decode cX8_kept 157 = .ok (.ireturn, 1) := by decide +kernel
theorem dX8_gain_0 : decode cX8_gain 0 = .ok (.iload_n 0, 1) := by decide +kernel
theorem dX8_gain_1 : decode cX8_gain 1 = .ok (.ifCond .eq 7, 3) := by decide +kernel
theorem dX8_gain_4 : decode cX8_gain 4 = .ok (.iconst 3, 1) := by decide +kernel
theorem dX8_gain_5 : decode cX8_gain 5 = .ok (.goto 4, 3) := by decide +kernel
theorem dX8_gain_8 : decode cX8_gain 8 = .ok (.iconst 0, 1) := by decide +kernel
theorem dX8_gain_9 : decode cX8_gain 9 = .ok (.iload_n 1, 1) := by decide +kernel
theorem dX8_gain_10 : decode cX8_gain 10 = .ok (.ifCond .eq 7, 3) := by decide +kernel
theorem dX8_gain_13 : decode cX8_gain 13 = .ok (.iconst 0, 1) := by decide +kernel
theorem dX8_gain_14 : decode cX8_gain 14 = .ok (.goto 4, 3) := by decide +kernel
theorem dX8_gain_17 : decode cX8_gain 17 = .ok (.iconst 1, 1) := by decide +kernel
theorem dX8_gain_18 : decode cX8_gain 18 = .ok (.iadd, 1) := by decide +kernel
theorem dX8_gain_19 : decode cX8_gain 19 = .ok (.iload_n 2, 1) := by decide +kernel
theorem dX8_gain_20 : decode cX8_gain 20 = .ok (.iconst 1, 1) := by decide +kernel
theorem dX8_gain_21 : decode cX8_gain 21 = .ok (.if_icmp .ne 7, 3) := by decide +kernel
theorem dX8_gain_24 : decode cX8_gain 24 = .ok (.iconst 1, 1) := by decide +kernel
theorem dX8_gain_25 : decode cX8_gain 25 = .ok (.goto 4, 3) := by decide +kernel
theorem dX8_gain_28 : decode cX8_gain 28 = .ok (.iconst 0, 1) := by decide +kernel
theorem dX8_gain_29 : decode cX8_gain 29 = .ok (.iadd, 1) := by decide +kernel
theorem dX8_gain_30 : decode cX8_gain 30 = .ok (.ireturn, 1) := by decide +kernel
theorem dX8_rests_0 : decode cX8_rests 0 = .ok (.aload_n 0, 1) := by decide +kernel
theorem dX8_rests_1 : decode cX8_rests 1 = .ok (.iconst 0, 1) := by decide +kernel
theorem dX8_rests_2 : decode cX8_rests 2 = .ok (.putfield 56, 3) := by decide +kernel
theorem dX8_rests_5 : decode cX8_rests 5 = .ok (.aload_n 0, 1) := by decide +kernel
theorem dX8_rests_6 : decode cX8_rests 6 = .ok (.iload_n 1, 1) := by decide +kernel
theorem dX8_rests_7 : decode cX8_rests 7 = .ok (.invokevirtual 138, 3) := by decide +kernel
theorem dX8_rests_10 : decode cX8_rests 10 = .ok (.ifCond .ne 11, 3) := by decide +kernel
theorem dX8_rests_13 : decode cX8_rests 13 = .ok (.aload_n 0, 1) := by decide +kernel
theorem dX8_rests_14 : decode cX8_rests 14 = .ok (.iload_n 2, 1) := by decide +kernel
theorem dX8_rests_15 : decode cX8_rests 15 = .ok (.invokevirtual 138, 3) := by decide +kernel
theorem dX8_rests_18 : decode cX8_rests 18 = .ok (.ifCond .eq 5, 3) := by decide +kernel
theorem dX8_rests_21 : decode cX8_rests 21 = .ok (.iconst (-1), 1) := by decide +kernel
theorem dX8_rests_22 : decode cX8_rests 22 = .ok (.ireturn, 1) := by decide +kernel
theorem dX8_rests_23 : decode cX8_rests 23 = .ok (.iload_n 1, 1) := by decide +kernel
theorem dX8_rests_24 : decode cX8_rests 24 = .ok (.iload_n 2, 1) := by decide +kernel
theorem dX8_rests_25 : decode cX8_rests 25 = .ok (.if_icmp .eq 13, 3) := by decide +kernel
theorem dX8_rests_28 : decode cX8_rests 28 = .ok (.iload_n 3, 1) := by decide +kernel
theorem dX8_rests_29 : decode cX8_rests 29 = .ok (.i2l, 1) := by decide +kernel
theorem dX8_rests_30 : decode cX8_rests 30 = .ok (.lconst 0, 1) := by decide +kernel
theorem dX8_rests_31 : decode cX8_rests 31 = .ok (.lconst 1, 1) := by decide +kernel
theorem dX8_rests_32 : decode cX8_rests 32 = .ok (.invokestatic 63, 3) := by decide +kernel
theorem dX8_rests_35 : decode cX8_rests 35 = .ok (.ifCond .ne 6, 3) := by decide +kernel
theorem dX8_rests_38 : decode cX8_rests 38 = .ok (.bipush (-2), 2) := by decide +kernel
theorem dX8_rests_40 : decode cX8_rests 40 = .ok (.ireturn, 1) := by decide +kernel
theorem dX8_rests_41 : decode cX8_rests 41 = .ok (.aload_n 0, 1) := by decide +kernel
theorem dX8_rests_42 : decode cX8_rests 42 = .ok (.getfield 22, 3) := by decide +kernel
theorem dX8_rests_45 : decode cX8_rests 45 = .ok (.iload_n 1, 1) := by decide +kernel
theorem dX8_rests_46 : decode cX8_rests 46 = .ok (.invokestatic 102, 3) := by decide +kernel
theorem dX8_rests_49 : decode cX8_rests 49 = .ok (.ifCond .eq 14, 3) := by decide +kernel
theorem dX8_rests_52 : decode cX8_rests 52 = .ok (.aload_n 0, 1) := by decide +kernel
theorem dX8_rests_53 : decode cX8_rests 53 = .ok (.getfield 22, 3) := by decide +kernel
theorem dX8_rests_56 : decode cX8_rests 56 = .ok (.iload_n 2, 1) := by decide +kernel
theorem dX8_rests_57 : decode cX8_rests 57 = .ok (.invokestatic 102, 3) := by decide +kernel
theorem dX8_rests_60 : decode cX8_rests 60 = .ok (.ifCond .ne 6, 3) := by decide +kernel
theorem dX8_rests_63 : decode cX8_rests 63 = .ok (.bipush (-3), 2) := by decide +kernel
theorem dX8_rests_65 : decode cX8_rests 65 = .ok (.ireturn, 1) := by decide +kernel
theorem dX8_rests_66 : decode cX8_rests 66 = .ok (.iconst 0, 1) := by decide +kernel
theorem dX8_rests_67 : decode cX8_rests 67 = .ok (.istore 4, 2) := by decide +kernel
theorem dX8_rests_69 : decode cX8_rests 69 = .ok (.iload 4, 2) := by decide +kernel
theorem dX8_rests_71 : decode cX8_rests 71 = .ok (.bipush 16, 2) := by decide +kernel
theorem dX8_rests_73 : decode cX8_rests 73 = .ok (.if_icmp .ge 121, 3) := by decide +kernel
theorem dX8_rests_76 : decode cX8_rests 76 = .ok (.aload_n 0, 1) := by decide +kernel
theorem dX8_rests_77 : decode cX8_rests 77 = .ok (.invokevirtual 170, 3) := by decide +kernel
theorem dX8_rests_80 : decode cX8_rests 80 = .ok (.aload_n 0, 1) := by decide +kernel
theorem dX8_rests_81 : decode cX8_rests 81 = .ok (.getfield 25, 3) := by decide +kernel
theorem dX8_rests_84 : decode cX8_rests 84 = .ok (.bipush 24, 2) := by decide +kernel
theorem dX8_rests_86 : decode cX8_rests 86 = .ok (.iload_n 1, 1) := by decide +kernel
theorem dX8_rests_87 : decode cX8_rests 87 = .ok (.iadd, 1) := by decide +kernel
theorem dX8_rests_88 : decode cX8_rests 88 = .ok (.iload 4, 2) := by decide +kernel
theorem dX8_rests_90 : decode cX8_rests 90 = .ok (.iconst 4, 1) := by decide +kernel
theorem dX8_rests_91 : decode cX8_rests 91 = .ok (.idiv, 1) := by decide +kernel
theorem dX8_rests_92 : decode cX8_rests 92 = .ok (.iastore, 1) := by decide +kernel
theorem dX8_rests_93 : decode cX8_rests 93 = .ok (.aload_n 0, 1) := by decide +kernel
theorem dX8_rests_94 : decode cX8_rests 94 = .ok (.getfield 25, 3) := by decide +kernel
theorem dX8_rests_97 : decode cX8_rests 97 = .ok (.bipush 24, 2) := by decide +kernel
theorem dX8_rests_99 : decode cX8_rests 99 = .ok (.iload_n 2, 1) := by decide +kernel
theorem dX8_rests_100 : decode cX8_rests 100 = .ok (.iadd, 1) := by decide +kernel
theorem dX8_rests_101 : decode cX8_rests 101 = .ok (.iload 4, 2) := by decide +kernel
theorem dX8_rests_103 : decode cX8_rests 103 = .ok (.iconst 4, 1) := by decide +kernel
theorem dX8_rests_104 : decode cX8_rests 104 = .ok (.irem, 1) := by decide +kernel
theorem dX8_rests_105 : decode cX8_rests 105 = .ok (.iastore, 1) := by decide +kernel
theorem dX8_rests_106 : decode cX8_rests 106 = .ok (.aload_n 0, 1) := by decide +kernel
theorem dX8_rests_107 : decode cX8_rests 107 = .ok (.aload_n 0, 1) := by decide +kernel
theorem dX8_rests_108 : decode cX8_rests 108 = .ok (.getfield 25, 3) := by decide +kernel
theorem dX8_rests_111 : decode cX8_rests 111 = .ok (.iload_n 1, 1) := by decide +kernel
theorem dX8_rests_112 : decode cX8_rests 112 = .ok (.invokevirtual 122, 3) := by decide +kernel
theorem dX8_rests_115 : decode cX8_rests 115 = .ok (.iload_n 2, 1) := by decide +kernel
theorem dX8_rests_116 : decode cX8_rests 116 = .ok (.if_icmp .ne 7, 3) := by decide +kernel
theorem dX8_rests_119 : decode cX8_rests 119 = .ok (.iconst 1, 1) := by decide +kernel
theorem dX8_rests_120 : decode cX8_rests 120 = .ok (.goto 4, 3) := by decide +kernel
theorem dX8_rests_123 : decode cX8_rests 123 = .ok (.iconst 0, 1) := by decide +kernel
theorem dX8_rests_124 : decode cX8_rests 124 = .ok (.istore 5, 2) := by decide +kernel
theorem dX8_rests_126 : decode cX8_rests 126 = .ok (.aload_n 0, 1) := by decide +kernel
theorem dX8_rests_127 : decode cX8_rests 127 = .ok (.aload_n 0, 1) := by decide +kernel
theorem dX8_rests_128 : decode cX8_rests 128 = .ok (.getfield 25, 3) := by decide +kernel
theorem dX8_rests_131 : decode cX8_rests 131 = .ok (.iload_n 2, 1) := by decide +kernel
theorem dX8_rests_132 : decode cX8_rests 132 = .ok (.invokevirtual 122, 3) := by decide +kernel
theorem dX8_rests_135 : decode cX8_rests 135 = .ok (.iload_n 1, 1) := by decide +kernel
theorem dX8_rests_136 : decode cX8_rests 136 = .ok (.if_icmp .ne 7, 3) := by decide +kernel
theorem dX8_rests_139 : decode cX8_rests 139 = .ok (.iconst 1, 1) := by decide +kernel
theorem dX8_rests_140 : decode cX8_rests 140 = .ok (.goto 4, 3) := by decide +kernel
theorem dX8_rests_143 : decode cX8_rests 143 = .ok (.iconst 0, 1) := by decide +kernel
theorem dX8_rests_144 : decode cX8_rests 144 = .ok (.istore 6, 2) := by decide +kernel
theorem dX8_rests_146 : decode cX8_rests 146 = .ok (.aload_n 0, 1) := by decide +kernel
theorem dX8_rests_147 : decode cX8_rests 147 = .ok (.getfield 50, 3) := by decide +kernel
theorem dX8_rests_150 : decode cX8_rests 150 = .ok (.iconst 2, 1) := by decide +kernel
theorem dX8_rests_151 : decode cX8_rests 151 = .ok (.iload 4, 2) := by decide +kernel
theorem dX8_rests_153 : decode cX8_rests 153 = .ok (.imul, 1) := by decide +kernel
theorem dX8_rests_154 : decode cX8_rests 154 = .ok (.iload 5, 2) := by decide +kernel
theorem dX8_rests_156 : decode cX8_rests 156 = .ok (.iload 6, 2) := by decide +kernel
theorem dX8_rests_158 : decode cX8_rests 158 = .ok (.iload 4, 2) := by decide +kernel
theorem dX8_rests_160 : decode cX8_rests 160 = .ok (.iconst 4, 1) := by decide +kernel
theorem dX8_rests_161 : decode cX8_rests 161 = .ok (.idiv, 1) := by decide +kernel
theorem dX8_rests_162 : decode cX8_rests 162 = .ok (.invokestatic 244, 3) := by decide +kernel
theorem dX8_rests_165 : decode cX8_rests 165 = .ok (.iastore, 1) := by decide +kernel
theorem dX8_rests_166 : decode cX8_rests 166 = .ok (.aload_n 0, 1) := by decide +kernel
theorem dX8_rests_167 : decode cX8_rests 167 = .ok (.getfield 50, 3) := by decide +kernel
theorem dX8_rests_170 : decode cX8_rests 170 = .ok (.iconst 2, 1) := by decide +kernel
theorem dX8_rests_171 : decode cX8_rests 171 = .ok (.iload 4, 2) := by decide +kernel
theorem dX8_rests_173 : decode cX8_rests 173 = .ok (.imul, 1) := by decide +kernel
theorem dX8_rests_174 : decode cX8_rests 174 = .ok (.iconst 1, 1) := by decide +kernel
theorem dX8_rests_175 : decode cX8_rests 175 = .ok (.iadd, 1) := by decide +kernel
theorem dX8_rests_176 : decode cX8_rests 176 = .ok (.iload 6, 2) := by decide +kernel
theorem dX8_rests_178 : decode cX8_rests 178 = .ok (.iload 5, 2) := by decide +kernel
theorem dX8_rests_180 : decode cX8_rests 180 = .ok (.iload 4, 2) := by decide +kernel
theorem dX8_rests_182 : decode cX8_rests 182 = .ok (.iconst 4, 1) := by decide +kernel
theorem dX8_rests_183 : decode cX8_rests 183 = .ok (.irem, 1) := by decide +kernel
theorem dX8_rests_184 : decode cX8_rests 184 = .ok (.invokestatic 244, 3) := by decide +kernel
theorem dX8_rests_187 : decode cX8_rests 187 = .ok (.iastore, 1) := by decide +kernel
theorem dX8_rests_188 : decode cX8_rests 188 = .ok (.iinc 4 1, 3) := by decide +kernel
theorem dX8_rests_191 : decode cX8_rests 191 = .ok (.goto (-122), 3) := by decide +kernel
theorem dX8_rests_194 : decode cX8_rests 194 = .ok (.aload_n 0, 1) := by decide +kernel
theorem dX8_rests_195 : decode cX8_rests 195 = .ok (.iconst 0, 1) := by decide +kernel
theorem dX8_rests_196 : decode cX8_rests 196 = .ok (.putfield 248, 3) := by decide +kernel
theorem dX8_rests_199 : decode cX8_rests 199 = .ok (.aload_n 0, 1) := by decide +kernel
theorem dX8_rests_200 : decode cX8_rests 200 = .ok (.bipush (-9), 2) := by decide +kernel
theorem dX8_rests_202 : decode cX8_rests 202 = .ok (.putfield 251, 3) := by decide +kernel
theorem dX8_rests_205 : decode cX8_rests 205 = .ok (.iconst 0, 1) := by decide +kernel
theorem dX8_rests_206 : decode cX8_rests 206 = .ok (.istore 4, 2) := by decide +kernel
theorem dX8_rests_208 : decode cX8_rests 208 = .ok (.iload 4, 2) := by decide +kernel
theorem dX8_rests_210 : decode cX8_rests 210 = .ok (.bipush 16, 2) := by decide +kernel
theorem dX8_rests_212 : decode cX8_rests 212 = .ok (.if_icmp .ge 154, 3) := by decide +kernel
theorem dX8_rests_215 : decode cX8_rests 215 = .ok (.iconst 1, 1) := by decide +kernel
theorem dX8_rests_216 : decode cX8_rests 216 = .ok (.istore 5, 2) := by decide +kernel
theorem dX8_rests_218 : decode cX8_rests 218 = .ok (.iconst 0, 1) := by decide +kernel
theorem dX8_rests_219 : decode cX8_rests 219 = .ok (.istore 6, 2) := by decide +kernel
theorem dX8_rests_221 : decode cX8_rests 221 = .ok (.iload 6, 2) := by decide +kernel
theorem dX8_rests_223 : decode cX8_rests 223 = .ok (.iconst 4, 1) := by decide +kernel
theorem dX8_rests_224 : decode cX8_rests 224 = .ok (.if_icmp .ge 82, 3) := by decide +kernel
theorem dX8_rests_227 : decode cX8_rests 227 = .ok (.iload 5, 2) := by decide +kernel
theorem dX8_rests_229 : decode cX8_rests 229 = .ok (.ifCond .eq 68, 3) := by decide +kernel
theorem dX8_rests_232 : decode cX8_rests 232 = .ok (.aload_n 0, 1) := by decide +kernel
theorem dX8_rests_233 : decode cX8_rests 233 = .ok (.getfield 50, 3) := by decide +kernel
theorem dX8_rests_236 : decode cX8_rests 236 = .ok (.iconst 2, 1) := by decide +kernel
theorem dX8_rests_237 : decode cX8_rests 237 = .ok (.iconst 4, 1) := by decide +kernel
theorem dX8_rests_238 : decode cX8_rests 238 = .ok (.iload 6, 2) := by decide +kernel
theorem dX8_rests_240 : decode cX8_rests 240 = .ok (.imul, 1) := by decide +kernel
theorem dX8_rests_241 : decode cX8_rests 241 = .ok (.iload 4, 2) := by decide +kernel
theorem dX8_rests_243 : decode cX8_rests 243 = .ok (.iconst 4, 1) := by decide +kernel
theorem dX8_rests_244 : decode cX8_rests 244 = .ok (.irem, 1) := by decide +kernel
theorem dX8_rests_245 : decode cX8_rests 245 = .ok (.iadd, 1) := by decide +kernel
theorem dX8_rests_246 : decode cX8_rests 246 = .ok (.imul, 1) := by decide +kernel
theorem dX8_rests_247 : decode cX8_rests 247 = .ok (.iaload, 1) := by decide +kernel
theorem dX8_rests_248 : decode cX8_rests 248 = .ok (.aload_n 0, 1) := by decide +kernel
theorem dX8_rests_249 : decode cX8_rests 249 = .ok (.getfield 50, 3) := by decide +kernel
theorem dX8_rests_252 : decode cX8_rests 252 = .ok (.iconst 2, 1) := by decide +kernel
theorem dX8_rests_253 : decode cX8_rests 253 = .ok (.iload 4, 2) := by decide +kernel
theorem dX8_rests_255 : decode cX8_rests 255 = .ok (.imul, 1) := by decide +kernel
theorem dX8_rests_256 : decode cX8_rests 256 = .ok (.iaload, 1) := by decide +kernel
theorem dX8_rests_257 : decode cX8_rests 257 = .ok (.if_icmp .gt 40, 3) := by decide +kernel
theorem dX8_rests_260 : decode cX8_rests 260 = .ok (.aload_n 0, 1) := by decide +kernel
theorem dX8_rests_261 : decode cX8_rests 261 = .ok (.getfield 50, 3) := by decide +kernel
theorem dX8_rests_264 : decode cX8_rests 264 = .ok (.iconst 2, 1) := by decide +kernel
theorem dX8_rests_265 : decode cX8_rests 265 = .ok (.iload 4, 2) := by decide +kernel
theorem dX8_rests_267 : decode cX8_rests 267 = .ok (.iload 4, 2) := by decide +kernel
theorem dX8_rests_269 : decode cX8_rests 269 = .ok (.iconst 4, 1) := by decide +kernel
theorem dX8_rests_270 : decode cX8_rests 270 = .ok (.irem, 1) := by decide +kernel
theorem dX8_rests_271 : decode cX8_rests 271 = .ok (.isub, 1) := by decide +kernel
theorem dX8_rests_272 : decode cX8_rests 272 = .ok (.iload 6, 2) := by decide +kernel
theorem dX8_rests_274 : decode cX8_rests 274 = .ok (.iadd, 1) := by decide +kernel
theorem dX8_rests_275 : decode cX8_rests 275 = .ok (.imul, 1) := by decide +kernel
theorem dX8_rests_276 : decode cX8_rests 276 = .ok (.iconst 1, 1) := by decide +kernel
theorem dX8_rests_277 : decode cX8_rests 277 = .ok (.iadd, 1) := by decide +kernel
theorem dX8_rests_278 : decode cX8_rests 278 = .ok (.iaload, 1) := by decide +kernel
theorem dX8_rests_279 : decode cX8_rests 279 = .ok (.aload_n 0, 1) := by decide +kernel
theorem dX8_rests_280 : decode cX8_rests 280 = .ok (.getfield 50, 3) := by decide +kernel
theorem dX8_rests_283 : decode cX8_rests 283 = .ok (.iconst 2, 1) := by decide +kernel
theorem dX8_rests_284 : decode cX8_rests 284 = .ok (.iload 4, 2) := by decide +kernel
theorem dX8_rests_286 : decode cX8_rests 286 = .ok (.imul, 1) := by decide +kernel
theorem dX8_rests_287 : decode cX8_rests 287 = .ok (.iconst 1, 1) := by decide +kernel
theorem dX8_rests_288 : decode cX8_rests 288 = .ok (.iadd, 1) := by decide +kernel
theorem dX8_rests_289 : decode cX8_rests 289 = .ok (.iaload, 1) := by decide +kernel
theorem dX8_rests_290 : decode cX8_rests 290 = .ok (.if_icmp .gt 7, 3) := by decide +kernel
theorem dX8_rests_293 : decode cX8_rests 293 = .ok (.iconst 1, 1) := by decide +kernel
theorem dX8_rests_294 : decode cX8_rests 294 = .ok (.goto 4, 3) := by decide +kernel
theorem dX8_rests_297 : decode cX8_rests 297 = .ok (.iconst 0, 1) := by decide +kernel
theorem dX8_rests_298 : decode cX8_rests 298 = .ok (.istore 5, 2) := by decide +kernel
theorem dX8_rests_300 : decode cX8_rests 300 = .ok (.iinc 6 1, 3) := by decide +kernel
theorem dX8_rests_303 : decode cX8_rests 303 = .ok (.goto (-82), 3) := by decide +kernel
theorem dX8_rests_306 : decode cX8_rests 306 = .ok (.aload_n 0, 1) := by decide +kernel
theorem dX8_rests_307 : decode cX8_rests 307 = .ok (.iload 5, 2) := by decide +kernel
theorem dX8_rests_309 : decode cX8_rests 309 = .ok (.ifCond .eq 25, 3) := by decide +kernel
theorem dX8_rests_312 : decode cX8_rests 312 = .ok (.aload_n 0, 1) := by decide +kernel
theorem dX8_rests_313 : decode cX8_rests 313 = .ok (.getfield 248, 3) := by decide +kernel
theorem dX8_rests_316 : decode cX8_rests 316 = .ok (.ifCond .ne 18, 3) := by decide +kernel
theorem dX8_rests_319 : decode cX8_rests 319 = .ok (.bipush 10, 2) := by decide +kernel
theorem dX8_rests_321 : decode cX8_rests 321 = .ok (.iload 4, 2) := by decide +kernel
theorem dX8_rests_323 : decode cX8_rests 323 = .ok (.iconst 4, 1) := by decide +kernel
theorem dX8_rests_324 : decode cX8_rests 324 = .ok (.idiv, 1) := by decide +kernel
theorem dX8_rests_325 : decode cX8_rests 325 = .ok (.imul, 1) := by decide +kernel
theorem dX8_rests_326 : decode cX8_rests 326 = .ok (.iload 4, 2) := by decide +kernel
theorem dX8_rests_328 : decode cX8_rests 328 = .ok (.iconst 4, 1) := by decide +kernel
theorem dX8_rests_329 : decode cX8_rests 329 = .ok (.irem, 1) := by decide +kernel
theorem dX8_rests_330 : decode cX8_rests 330 = .ok (.iadd, 1) := by decide +kernel
theorem dX8_rests_331 : decode cX8_rests 331 = .ok (.goto 7, 3) := by decide +kernel
theorem dX8_rests_334 : decode cX8_rests 334 = .ok (.aload_n 0, 1) := by decide +kernel
theorem dX8_rests_335 : decode cX8_rests 335 = .ok (.getfield 251, 3) := by decide +kernel
theorem dX8_rests_338 : decode cX8_rests 338 = .ok (.putfield 251, 3) := by decide +kernel
theorem dX8_rests_341 : decode cX8_rests 341 = .ok (.aload_n 0, 1) := by decide +kernel
theorem dX8_rests_342 : decode cX8_rests 342 = .ok (.dup, 1) := by decide +kernel
theorem dX8_rests_343 : decode cX8_rests 343 = .ok (.getfield 248, 3) := by decide +kernel
theorem dX8_rests_346 : decode cX8_rests 346 = .ok (.iload 5, 2) := by decide +kernel
theorem dX8_rests_348 : decode cX8_rests 348 = .ok (.ifCond .eq 7, 3) := by decide +kernel
theorem dX8_rests_351 : decode cX8_rests 351 = .ok (.iconst 1, 1) := by decide +kernel
theorem dX8_rests_352 : decode cX8_rests 352 = .ok (.goto 4, 3) := by decide +kernel
theorem dX8_rests_355 : decode cX8_rests 355 = .ok (.iconst 0, 1) := by decide +kernel
theorem dX8_rests_356 : decode cX8_rests 356 = .ok (.iadd, 1) := by decide +kernel
theorem dX8_rests_357 : decode cX8_rests 357 = .ok (.putfield 248, 3) := by decide +kernel
theorem dX8_rests_360 : decode cX8_rests 360 = .ok (.iinc 4 1, 3) := by decide +kernel
theorem dX8_rests_363 : decode cX8_rests 363 = .ok (.goto (-155), 3) := by decide +kernel
theorem dX8_rests_366 : decode cX8_rests 366 = .ok (.iload_n 3, 1) := by decide +kernel
theorem dX8_rests_367 : decode cX8_rests 367 = .ok (.ifCond .ne 10, 3) := by decide +kernel
theorem dX8_rests_370 : decode cX8_rests 370 = .ok (.aload_n 0, 1) := by decide +kernel
theorem dX8_rests_371 : decode cX8_rests 371 = .ok (.getfield 248, 3) := by decide +kernel
theorem dX8_rests_374 : decode cX8_rests 374 = .ok (.goto 7, 3) := by decide +kernel
theorem dX8_rests_377 : decode cX8_rests 377 = .ok (.aload_n 0, 1) := by decide +kernel
theorem dX8_rests_378 : decode cX8_rests 378 = .ok (.getfield 251, 3) := by decide +kernel
theorem dX8_rests_381 : decode cX8_rests 381 = .ok (.ireturn, 1) := by decide +kernel
theorem dX8_papers_0 : decode cX8_papers 0 = .ok (.aload_n 0, 1) := by decide +kernel
theorem dX8_papers_1 : decode cX8_papers 1 = .ok (.iconst 0, 1) := by decide +kernel
theorem dX8_papers_2 : decode cX8_papers 2 = .ok (.putfield 56, 3) := by decide +kernel
theorem dX8_papers_5 : decode cX8_papers 5 = .ok (.iload_n 1, 1) := by decide +kernel
theorem dX8_papers_6 : decode cX8_papers 6 = .ok (.i2l, 1) := by decide +kernel
theorem dX8_papers_7 : decode cX8_papers 7 = .ok (.lconst 0, 1) := by decide +kernel
theorem dX8_papers_8 : decode cX8_papers 8 = .ok (.ldc2_w 159, 3) := by decide +kernel
theorem dX8_papers_11 : decode cX8_papers 11 = .ok (.invokestatic 63, 3) := by decide +kernel
theorem dX8_papers_14 : decode cX8_papers 14 = .ok (.ifCond .eq 15, 3) := by decide +kernel
theorem dX8_papers_17 : decode cX8_papers 17 = .ok (.iload_n 2, 1) := by decide +kernel
theorem dX8_papers_18 : decode cX8_papers 18 = .ok (.i2l, 1) := by decide +kernel
theorem dX8_papers_19 : decode cX8_papers 19 = .ok (.lconst 0, 1) := by decide +kernel
theorem dX8_papers_20 : decode cX8_papers 20 = .ok (.ldc2_w 254, 3) := by decide +kernel
theorem dX8_papers_23 : decode cX8_papers 23 = .ok (.invokestatic 63, 3) := by decide +kernel
theorem dX8_papers_26 : decode cX8_papers 26 = .ok (.ifCond .ne 6, 3) := by decide +kernel
theorem dX8_papers_29 : decode cX8_papers 29 = .ok (.bipush (-2), 2) := by decide +kernel
theorem dX8_papers_31 : decode cX8_papers 31 = .ok (.ireturn, 1) := by decide +kernel
theorem dX8_papers_32 : decode cX8_papers 32 = .ok (.aload_n 0, 1) := by decide +kernel
theorem dX8_papers_33 : decode cX8_papers 33 = .ok (.aload_n 0, 1) := by decide +kernel
theorem dX8_papers_34 : decode cX8_papers 34 = .ok (.getfield 22, 3) := by decide +kernel
theorem dX8_papers_37 : decode cX8_papers 37 = .ok (.iconst 0, 1) := by decide +kernel
theorem dX8_papers_38 : decode cX8_papers 38 = .ok (.invokevirtual 125, 3) := by decide +kernel
theorem dX8_papers_41 : decode cX8_papers 41 = .ok (.istore 4, 2) := by decide +kernel
theorem dX8_papers_43 : decode cX8_papers 43 = .ok (.iload 4, 2) := by decide +kernel
theorem dX8_papers_45 : decode cX8_papers 45 = .ok (.invokestatic 220, 3) := by decide +kernel
theorem dX8_papers_48 : decode cX8_papers 48 = .ok (.istore 5, 2) := by decide +kernel
theorem dX8_papers_50 : decode cX8_papers 50 = .ok (.iconst 0, 1) := by decide +kernel
theorem dX8_papers_51 : decode cX8_papers 51 = .ok (.istore 6, 2) := by decide +kernel
theorem dX8_papers_53 : decode cX8_papers 53 = .ok (.iconst 0, 1) := by decide +kernel
theorem dX8_papers_54 : decode cX8_papers 54 = .ok (.istore 7, 2) := by decide +kernel
theorem dX8_papers_56 : decode cX8_papers 56 = .ok (.iload 7, 2) := by decide +kernel
theorem dX8_papers_58 : decode cX8_papers 58 = .ok (.iconst 1, 1) := by decide +kernel
theorem dX8_papers_59 : decode cX8_papers 59 = .ok (.aload_n 0, 1) := by decide +kernel
theorem dX8_papers_60 : decode cX8_papers 60 = .ok (.getfield 60, 3) := by decide +kernel
theorem dX8_papers_63 : decode cX8_papers 63 = .ok (.ishl, 1) := by decide +kernel
theorem dX8_papers_64 : decode cX8_papers 64 = .ok (.if_icmp .ge 122, 3) := by decide +kernel
theorem dX8_papers_67 : decode cX8_papers 67 = .ok (.iload 7, 2) := by decide +kernel
theorem dX8_papers_69 : decode cX8_papers 69 = .ok (.iload 4, 2) := by decide +kernel
theorem dX8_papers_71 : decode cX8_papers 71 = .ok (.iconst (-1), 1) := by decide +kernel
theorem dX8_papers_72 : decode cX8_papers 72 = .ok (.ixor, 1) := by decide +kernel
theorem dX8_papers_73 : decode cX8_papers 73 = .ok (.iand, 1) := by decide +kernel
theorem dX8_papers_74 : decode cX8_papers 74 = .ok (.ifCond .ne 106, 3) := by decide +kernel
theorem dX8_papers_77 : decode cX8_papers 77 = .ok (.aload_n 0, 1) := by decide +kernel
theorem dX8_papers_78 : decode cX8_papers 78 = .ok (.invokevirtual 170, 3) := by decide +kernel
theorem dX8_papers_81 : decode cX8_papers 81 = .ok (.iconst 0, 1) := by decide +kernel
theorem dX8_papers_82 : decode cX8_papers 82 = .ok (.istore 8, 2) := by decide +kernel
theorem dX8_papers_84 : decode cX8_papers 84 = .ok (.iload 8, 2) := by decide +kernel
theorem dX8_papers_86 : decode cX8_papers 86 = .ok (.aload_n 0, 1) := by decide +kernel
theorem dX8_papers_87 : decode cX8_papers 87 = .ok (.getfield 60, 3) := by decide +kernel
theorem dX8_papers_90 : decode cX8_papers 90 = .ok (.if_icmp .ge 43, 3) := by decide +kernel
theorem dX8_papers_93 : decode cX8_papers 93 = .ok (.aload_n 0, 1) := by decide +kernel
theorem dX8_papers_94 : decode cX8_papers 94 = .ok (.getfield 25, 3) := by decide +kernel
theorem dX8_papers_97 : decode cX8_papers 97 = .ok (.bipush 30, 2) := by decide +kernel
theorem dX8_papers_99 : decode cX8_papers 99 = .ok (.iload 8, 2) := by decide +kernel
theorem dX8_papers_101 : decode cX8_papers 101 = .ok (.iadd, 1) := by decide +kernel
theorem dX8_papers_102 : decode cX8_papers 102 = .ok (.iload 7, 2) := by decide +kernel
theorem dX8_papers_104 : decode cX8_papers 104 = .ok (.iload 8, 2) := by decide +kernel
theorem dX8_papers_106 : decode cX8_papers 106 = .ok (.invokestatic 83, 3) := by decide +kernel
theorem dX8_papers_109 : decode cX8_papers 109 = .ok (.ifCond .eq 7, 3) := by decide +kernel
theorem dX8_papers_112 : decode cX8_papers 112 = .ok (.iconst 2, 1) := by decide +kernel
theorem dX8_papers_113 : decode cX8_papers 113 = .ok (.goto 13, 3) := by decide +kernel
theorem dX8_papers_116 : decode cX8_papers 116 = .ok (.aload_n 0, 1) := by decide +kernel
theorem dX8_papers_117 : decode cX8_papers 117 = .ok (.getfield 25, 3) := by decide +kernel
theorem dX8_papers_120 : decode cX8_papers 120 = .ok (.bipush 30, 2) := by decide +kernel
theorem dX8_papers_122 : decode cX8_papers 122 = .ok (.iload 8, 2) := by decide +kernel
theorem dX8_papers_124 : decode cX8_papers 124 = .ok (.iadd, 1) := by decide +kernel
theorem dX8_papers_125 : decode cX8_papers 125 = .ok (.iaload, 1) := by decide +kernel
theorem dX8_papers_126 : decode cX8_papers 126 = .ok (.iastore, 1) := by decide +kernel
theorem dX8_papers_127 : decode cX8_papers 127 = .ok (.iinc 8 1, 3) := by decide +kernel
theorem dX8_papers_130 : decode cX8_papers 130 = .ok (.goto (-46), 3) := by decide +kernel
theorem dX8_papers_133 : decode cX8_papers 133 = .ok (.iload 7, 2) := by decide +kernel
theorem dX8_papers_135 : decode cX8_papers 135 = .ok (.invokestatic 220, 3) := by decide +kernel
theorem dX8_papers_138 : decode cX8_papers 138 = .ok (.istore 8, 2) := by decide +kernel
theorem dX8_papers_140 : decode cX8_papers 140 = .ok (.iload 6, 2) := by decide +kernel
theorem dX8_papers_142 : decode cX8_papers 142 = .ok (.aload_n 0, 1) := by decide +kernel
theorem dX8_papers_143 : decode cX8_papers 143 = .ok (.aload_n 0, 1) := by decide +kernel
theorem dX8_papers_144 : decode cX8_papers 144 = .ok (.getfield 25, 3) := by decide +kernel
theorem dX8_papers_147 : decode cX8_papers 147 = .ok (.invokevirtual 131, 3) := by decide +kernel
theorem dX8_papers_150 : decode cX8_papers 150 = .ok (.iload_n 1, 1) := by decide +kernel
theorem dX8_papers_151 : decode cX8_papers 151 = .ok (.if_icmp .lt 25, 3) := by decide +kernel
theorem dX8_papers_154 : decode cX8_papers 154 = .ok (.iload_n 2, 1) := by decide +kernel
theorem dX8_papers_155 : decode cX8_papers 155 = .ok (.iload 8, 2) := by decide +kernel
theorem dX8_papers_157 : decode cX8_papers 157 = .ok (.invokestatic 256, 3) := by decide +kernel
theorem dX8_papers_160 : decode cX8_papers 160 = .ok (.bipush 10, 2) := by decide +kernel
theorem dX8_papers_162 : decode cX8_papers 162 = .ok (.iload_n 2, 1) := by decide +kernel
theorem dX8_papers_163 : decode cX8_papers 163 = .ok (.isub, 1) := by decide +kernel
theorem dX8_papers_164 : decode cX8_papers 164 = .ok (.iload 5, 2) := by decide +kernel
theorem dX8_papers_166 : decode cX8_papers 166 = .ok (.iload 8, 2) := by decide +kernel
theorem dX8_papers_168 : decode cX8_papers 168 = .ok (.isub, 1) := by decide +kernel
theorem dX8_papers_169 : decode cX8_papers 169 = .ok (.invokestatic 256, 3) := by decide +kernel
theorem dX8_papers_172 : decode cX8_papers 172 = .ok (.imul, 1) := by decide +kernel
theorem dX8_papers_173 : decode cX8_papers 173 = .ok (.goto 4, 3) := by decide +kernel
theorem dX8_papers_176 : decode cX8_papers 176 = .ok (.iconst 0, 1) := by decide +kernel
theorem dX8_papers_177 : decode cX8_papers 177 = .ok (.iadd, 1) := by decide +kernel
theorem dX8_papers_178 : decode cX8_papers 178 = .ok (.istore 6, 2) := by decide +kernel
theorem dX8_papers_180 : decode cX8_papers 180 = .ok (.iinc 7 1, 3) := by decide +kernel
theorem dX8_papers_183 : decode cX8_papers 183 = .ok (.goto (-127), 3) := by decide +kernel
theorem dX8_papers_186 : decode cX8_papers 186 = .ok (.iload 6, 2) := by decide +kernel
theorem dX8_papers_188 : decode cX8_papers 188 = .ok (.bipush 10, 2) := by decide +kernel
theorem dX8_papers_190 : decode cX8_papers 190 = .ok (.iload 5, 2) := by decide +kernel
theorem dX8_papers_192 : decode cX8_papers 192 = .ok (.invokestatic 256, 3) := by decide +kernel
theorem dX8_papers_195 : decode cX8_papers 195 = .ok (.iload_n 3, 1) := by decide +kernel
theorem dX8_papers_196 : decode cX8_papers 196 = .ok (.invokestatic 230, 3) := by decide +kernel
theorem dX8_papers_199 : decode cX8_papers 199 = .ok (.ireturn, 1) := by decide +kernel
theorem dX8_seed_0 : decode cX8_seed 0 = .ok (.aload_n 0, 1) := by decide +kernel
theorem dX8_seed_1 : decode cX8_seed 1 = .ok (.iconst 0, 1) := by decide +kernel
theorem dX8_seed_2 : decode cX8_seed 2 = .ok (.putfield 56, 3) := by decide +kernel
theorem dX8_seed_5 : decode cX8_seed 5 = .ok (.aload_n 0, 1) := by decide +kernel
theorem dX8_seed_6 : decode cX8_seed 6 = .ok (.getfield 259, 3) := by decide +kernel
theorem dX8_seed_9 : decode cX8_seed 9 = .ok (.lstore_n 3, 1) := by decide +kernel
theorem dX8_seed_10 : decode cX8_seed 10 = .ok (.aload_n 0, 1) := by decide +kernel
theorem dX8_seed_11 : decode cX8_seed 11 = .ok (.lload_n 1, 1) := by decide +kernel
theorem dX8_seed_12 : decode cX8_seed 12 = .ok (.putfield 259, 3) := by decide +kernel
theorem dX8_seed_15 : decode cX8_seed 15 = .ok (.lload_n 3, 1) := by decide +kernel
theorem dX8_seed_16 : decode cX8_seed 16 = .ok (.lreturn, 1) := by decide +kernel
theorem dX8_years_0 : decode cX8_years 0 = .ok (.aload_n 0, 1) := by decide +kernel
theorem dX8_years_1 : decode cX8_years 1 = .ok (.iconst 0, 1) := by decide +kernel
theorem dX8_years_2 : decode cX8_years 2 = .ok (.putfield 56, 3) := by decide +kernel
theorem dX8_years_5 : decode cX8_years 5 = .ok (.iload_n 1, 1) := by decide +kernel
theorem dX8_years_6 : decode cX8_years 6 = .ok (.i2l, 1) := by decide +kernel
theorem dX8_years_7 : decode cX8_years 7 = .ok (.lconst 1, 1) := by decide +kernel
theorem dX8_years_8 : decode cX8_years 8 = .ok (.ldc2_w 263, 3) := by decide +kernel
theorem dX8_years_11 : decode cX8_years 11 = .ok (.invokestatic 63, 3) := by decide +kernel
theorem dX8_years_14 : decode cX8_years 14 = .ok (.ifCond .ne 6, 3) := by decide +kernel
theorem dX8_years_17 : decode cX8_years 17 = .ok (.bipush (-2), 2) := by decide +kernel
theorem dX8_years_19 : decode cX8_years 19 = .ok (.ireturn, 1) := by decide +kernel
theorem dX8_years_20 : decode cX8_years 20 = .ok (.aload_n 0, 1) := by decide +kernel
theorem dX8_years_21 : decode cX8_years 21 = .ok (.invokevirtual 170, 3) := by decide +kernel
theorem dX8_years_24 : decode cX8_years 24 = .ok (.iconst 0, 1) := by decide +kernel
theorem dX8_years_25 : decode cX8_years 25 = .ok (.istore_n 2, 1) := by decide +kernel
theorem dX8_years_26 : decode cX8_years 26 = .ok (.iconst 0, 1) := by decide +kernel
theorem dX8_years_27 : decode cX8_years 27 = .ok (.istore_n 3, 1) := by decide +kernel
theorem dX8_years_28 : decode cX8_years 28 = .ok (.iload_n 3, 1) := by decide +kernel
theorem dX8_years_29 : decode cX8_years 29 = .ok (.iload_n 1, 1) := by decide +kernel
theorem dX8_years_30 : decode cX8_years 30 = .ok (.if_icmp .ge 94, 3) := by decide +kernel
theorem dX8_years_33 : decode cX8_years 33 = .ok (.aload_n 0, 1) := by decide +kernel
theorem dX8_years_34 : decode cX8_years 34 = .ok (.aload_n 0, 1) := by decide +kernel
theorem dX8_years_35 : decode cX8_years 35 = .ok (.getfield 259, 3) := by decide +kernel
theorem dX8_years_38 : decode cX8_years 38 = .ok (.ldc2_w 265, 3) := by decide +kernel
theorem dX8_years_41 : decode cX8_years 41 = .ok (.lmul, 1) := by decide +kernel
theorem dX8_years_42 : decode cX8_years 42 = .ok (.ldc2_w 267, 3) := by decide +kernel
theorem dX8_years_45 : decode cX8_years 45 = .ok (.ladd, 1) := by decide +kernel
theorem dX8_years_46 : decode cX8_years 46 = .ok (.putfield 259, 3) := by decide +kernel
theorem dX8_years_49 : decode cX8_years 49 = .ok (.aload_n 0, 1) := by decide +kernel
theorem dX8_years_50 : decode cX8_years 50 = .ok (.getfield 259, 3) := by decide +kernel
theorem dX8_years_53 : decode cX8_years 53 = .ok (.bipush 33, 2) := by decide +kernel
theorem dX8_years_55 : decode cX8_years 55 = .ok (.lushr, 1) := by decide +kernel
theorem dX8_years_56 : decode cX8_years 56 = .ok (.ldc2_w 269, 3) := by decide +kernel
theorem dX8_years_59 : decode cX8_years 59 = .ok (.lrem, 1) := by decide +kernel
theorem dX8_years_60 : decode cX8_years 60 = .ok (.l2i, 1) := by decide +kernel
theorem dX8_years_61 : decode cX8_years 61 = .ok (.istore 4, 2) := by decide +kernel
theorem dX8_years_63 : decode cX8_years 63 = .ok (.aload_n 0, 1) := by decide +kernel
theorem dX8_years_64 : decode cX8_years 64 = .ok (.iload 4, 2) := by decide +kernel
theorem dX8_years_66 : decode cX8_years 66 = .ok (.bipush 24, 2) := by decide +kernel
theorem dX8_years_68 : decode cX8_years 68 = .ok (.if_icmp .ge 22, 3) := by decide +kernel
theorem dX8_years_71 : decode cX8_years 71 = .ok (.sipush 300, 3) := by decide +kernel
theorem dX8_years_74 : decode cX8_years 74 = .ok (.bipush 10, 2) := by decide +kernel
theorem dX8_years_76 : decode cX8_years 76 = .ok (.iload 4, 2) := by decide +kernel
theorem dX8_years_78 : decode cX8_years 78 = .ok (.iconst 4, 1) := by decide +kernel
theorem dX8_years_79 : decode cX8_years 79 = .ok (.idiv, 1) := by decide +kernel
theorem dX8_years_80 : decode cX8_years 80 = .ok (.imul, 1) := by decide +kernel
theorem dX8_years_81 : decode cX8_years 81 = .ok (.iadd, 1) := by decide +kernel
theorem dX8_years_82 : decode cX8_years 82 = .ok (.iload 4, 2) := by decide +kernel
theorem dX8_years_84 : decode cX8_years 84 = .ok (.iconst 4, 1) := by decide +kernel
theorem dX8_years_85 : decode cX8_years 85 = .ok (.irem, 1) := by decide +kernel
theorem dX8_years_86 : decode cX8_years 86 = .ok (.iadd, 1) := by decide +kernel
theorem dX8_years_87 : decode cX8_years 87 = .ok (.goto 16, 3) := by decide +kernel
theorem dX8_years_90 : decode cX8_years 90 = .ok (.iload 4, 2) := by decide +kernel
theorem dX8_years_92 : decode cX8_years 92 = .ok (.bipush 24, 2) := by decide +kernel
theorem dX8_years_94 : decode cX8_years 94 = .ok (.if_icmp .ne 8, 3) := by decide +kernel
theorem dX8_years_97 : decode cX8_years 97 = .ok (.bipush 100, 2) := by decide +kernel
theorem dX8_years_99 : decode cX8_years 99 = .ok (.goto 4, 3) := by decide +kernel
theorem dX8_years_102 : decode cX8_years 102 = .ok (.iconst 0, 1) := by decide +kernel
theorem dX8_years_103 : decode cX8_years 103 = .ok (.invokevirtual 214, 3) := by decide +kernel
theorem dX8_years_106 : decode cX8_years 106 = .ok (.pop, 1) := by decide +kernel
theorem dX8_years_107 : decode cX8_years 107 = .ok (.iload_n 2, 1) := by decide +kernel
theorem dX8_years_108 : decode cX8_years 108 = .ok (.aload_n 0, 1) := by decide +kernel
theorem dX8_years_109 : decode cX8_years 109 = .ok (.aload_n 0, 1) := by decide +kernel
theorem dX8_years_110 : decode cX8_years 110 = .ok (.getfield 25, 3) := by decide +kernel
theorem dX8_years_113 : decode cX8_years 113 = .ok (.invokevirtual 149, 3) := by decide +kernel
theorem dX8_years_116 : decode cX8_years 116 = .ok (.iadd, 1) := by decide +kernel
theorem dX8_years_117 : decode cX8_years 117 = .ok (.istore_n 2, 1) := by decide +kernel
theorem dX8_years_118 : decode cX8_years 118 = .ok (.iinc 3 1, 3) := by decide +kernel
theorem dX8_years_121 : decode cX8_years 121 = .ok (.goto (-93), 3) := by decide +kernel
theorem dX8_years_124 : decode cX8_years 124 = .ok (.iload_n 2, 1) := by decide +kernel
theorem dX8_years_125 : decode cX8_years 125 = .ok (.ireturn, 1) := by decide +kernel
theorem dX8_keep_0 : decode cX8_keep 0 = .ok (.aload_n 0, 1) := by decide +kernel
theorem dX8_keep_1 : decode cX8_keep 1 = .ok (.iconst 0, 1) := by decide +kernel
theorem dX8_keep_2 : decode cX8_keep 2 = .ok (.putfield 56, 3) := by decide +kernel
theorem dX8_keep_5 : decode cX8_keep 5 = .ok (.iload_n 1, 1) := by decide +kernel
theorem dX8_keep_6 : decode cX8_keep 6 = .ok (.i2l, 1) := by decide +kernel
theorem dX8_keep_7 : decode cX8_keep 7 = .ok (.lconst 0, 1) := by decide +kernel
theorem dX8_keep_8 : decode cX8_keep 8 = .ok (.lconst 1, 1) := by decide +kernel
theorem dX8_keep_9 : decode cX8_keep 9 = .ok (.invokestatic 63, 3) := by decide +kernel
theorem dX8_keep_12 : decode cX8_keep 12 = .ok (.ifCond .ne 5, 3) := by decide +kernel
theorem dX8_keep_15 : decode cX8_keep 15 = .ok (.iconst (-1), 1) := by decide +kernel
theorem dX8_keep_16 : decode cX8_keep 16 = .ok (.ireturn, 1) := by decide +kernel
theorem dX8_keep_17 : decode cX8_keep 17 = .ok (.aload_n 0, 1) := by decide +kernel
theorem dX8_keep_18 : decode cX8_keep 18 = .ok (.getfield 34, 3) := by decide +kernel
theorem dX8_keep_21 : decode cX8_keep 21 = .ok (.iload_n 1, 1) := by decide +kernel
theorem dX8_keep_22 : decode cX8_keep 22 = .ok (.iconst 1, 1) := by decide +kernel
theorem dX8_keep_23 : decode cX8_keep 23 = .ok (.bastore, 1) := by decide +kernel
theorem dX8_keep_24 : decode cX8_keep 24 = .ok (.iconst 0, 1) := by decide +kernel
theorem dX8_keep_25 : decode cX8_keep 25 = .ok (.istore_n 2, 1) := by decide +kernel
theorem dX8_keep_26 : decode cX8_keep 26 = .ok (.iload_n 2, 1) := by decide +kernel
theorem dX8_keep_27 : decode cX8_keep 27 = .ok (.bipush 37, 2) := by decide +kernel
theorem dX8_keep_29 : decode cX8_keep 29 = .ok (.if_icmp .ge 26, 3) := by decide +kernel
theorem dX8_keep_32 : decode cX8_keep 32 = .ok (.aload_n 0, 1) := by decide +kernel
theorem dX8_keep_33 : decode cX8_keep 33 = .ok (.getfield 31, 3) := by decide +kernel
theorem dX8_keep_36 : decode cX8_keep 36 = .ok (.bipush 37, 2) := by decide +kernel
theorem dX8_keep_38 : decode cX8_keep 38 = .ok (.iload_n 1, 1) := by decide +kernel
theorem dX8_keep_39 : decode cX8_keep 39 = .ok (.imul, 1) := by decide +kernel
theorem dX8_keep_40 : decode cX8_keep 40 = .ok (.iload_n 2, 1) := by decide +kernel
theorem dX8_keep_41 : decode cX8_keep 41 = .ok (.iadd, 1) := by decide +kernel
theorem dX8_keep_42 : decode cX8_keep 42 = .ok (.aload_n 0, 1) := by decide +kernel
theorem dX8_keep_43 : decode cX8_keep 43 = .ok (.getfield 22, 3) := by decide +kernel
theorem dX8_keep_46 : decode cX8_keep 46 = .ok (.iload_n 2, 1) := by decide +kernel
theorem dX8_keep_47 : decode cX8_keep 47 = .ok (.iaload, 1) := by decide +kernel
theorem dX8_keep_48 : decode cX8_keep 48 = .ok (.iastore, 1) := by decide +kernel
theorem dX8_keep_49 : decode cX8_keep 49 = .ok (.iinc 2 1, 3) := by decide +kernel
theorem dX8_keep_52 : decode cX8_keep 52 = .ok (.goto (-26), 3) := by decide +kernel
theorem dX8_keep_55 : decode cX8_keep 55 = .ok (.aload_n 0, 1) := by decide +kernel
theorem dX8_keep_56 : decode cX8_keep 56 = .ok (.getfield 22, 3) := by decide +kernel
theorem dX8_keep_59 : decode cX8_keep 59 = .ok (.bipush 36, 2) := by decide +kernel
theorem dX8_keep_61 : decode cX8_keep 61 = .ok (.iaload, 1) := by decide +kernel
theorem dX8_keep_62 : decode cX8_keep 62 = .ok (.ireturn, 1) := by decide +kernel
theorem dX8_again_0 : decode cX8_again 0 = .ok (.aload_n 0, 1) := by decide +kernel
theorem dX8_again_1 : decode cX8_again 1 = .ok (.iconst 0, 1) := by decide +kernel
theorem dX8_again_2 : decode cX8_again 2 = .ok (.putfield 56, 3) := by decide +kernel
theorem dX8_again_5 : decode cX8_again 5 = .ok (.iload_n 1, 1) := by decide +kernel
theorem dX8_again_6 : decode cX8_again 6 = .ok (.i2l, 1) := by decide +kernel
theorem dX8_again_7 : decode cX8_again 7 = .ok (.lconst 0, 1) := by decide +kernel
theorem dX8_again_8 : decode cX8_again 8 = .ok (.lconst 1, 1) := by decide +kernel
theorem dX8_again_9 : decode cX8_again 9 = .ok (.invokestatic 63, 3) := by decide +kernel
theorem dX8_again_12 : decode cX8_again 12 = .ok (.ifCond .ne 5, 3) := by decide +kernel
theorem dX8_again_15 : decode cX8_again 15 = .ok (.iconst (-1), 1) := by decide +kernel
theorem dX8_again_16 : decode cX8_again 16 = .ok (.ireturn, 1) := by decide +kernel
theorem dX8_again_17 : decode cX8_again 17 = .ok (.aload_n 0, 1) := by decide +kernel
theorem dX8_again_18 : decode cX8_again 18 = .ok (.getfield 34, 3) := by decide +kernel
theorem dX8_again_21 : decode cX8_again 21 = .ok (.iload_n 1, 1) := by decide +kernel
theorem dX8_again_22 : decode cX8_again 22 = .ok (.baload, 1) := by decide +kernel
theorem dX8_again_23 : decode cX8_again 23 = .ok (.ifCond .ne 6, 3) := by decide +kernel
theorem dX8_again_26 : decode cX8_again 26 = .ok (.bipush (-3), 2) := by decide +kernel
theorem dX8_again_28 : decode cX8_again 28 = .ok (.ireturn, 1) := by decide +kernel
theorem dX8_again_29 : decode cX8_again 29 = .ok (.iconst 0, 1) := by decide +kernel
theorem dX8_again_30 : decode cX8_again 30 = .ok (.istore_n 2, 1) := by decide +kernel
theorem dX8_again_31 : decode cX8_again 31 = .ok (.iload_n 2, 1) := by decide +kernel
theorem dX8_again_32 : decode cX8_again 32 = .ok (.bipush 37, 2) := by decide +kernel
theorem dX8_again_34 : decode cX8_again 34 = .ok (.if_icmp .ge 26, 3) := by decide +kernel
theorem dX8_again_37 : decode cX8_again 37 = .ok (.aload_n 0, 1) := by decide +kernel
theorem dX8_again_38 : decode cX8_again 38 = .ok (.getfield 22, 3) := by decide +kernel
theorem dX8_again_41 : decode cX8_again 41 = .ok (.iload_n 2, 1) := by decide +kernel
theorem dX8_again_42 : decode cX8_again 42 = .ok (.aload_n 0, 1) := by decide +kernel
theorem dX8_again_43 : decode cX8_again 43 = .ok (.getfield 31, 3) := by decide +kernel
theorem dX8_again_46 : decode cX8_again 46 = .ok (.bipush 37, 2) := by decide +kernel
theorem dX8_again_48 : decode cX8_again 48 = .ok (.iload_n 1, 1) := by decide +kernel
theorem dX8_again_49 : decode cX8_again 49 = .ok (.imul, 1) := by decide +kernel
theorem dX8_again_50 : decode cX8_again 50 = .ok (.iload_n 2, 1) := by decide +kernel
theorem dX8_again_51 : decode cX8_again 51 = .ok (.iadd, 1) := by decide +kernel
theorem dX8_again_52 : decode cX8_again 52 = .ok (.iaload, 1) := by decide +kernel
theorem dX8_again_53 : decode cX8_again 53 = .ok (.iastore, 1) := by decide +kernel
theorem dX8_again_54 : decode cX8_again 54 = .ok (.iinc 2 1, 3) := by decide +kernel
theorem dX8_again_57 : decode cX8_again 57 = .ok (.goto (-26), 3) := by decide +kernel
theorem dX8_again_60 : decode cX8_again 60 = .ok (.aload_n 0, 1) := by decide +kernel
theorem dX8_again_61 : decode cX8_again 61 = .ok (.iconst 0, 1) := by decide +kernel
theorem dX8_again_62 : decode cX8_again 62 = .ok (.putfield 99, 3) := by decide +kernel
theorem dX8_again_65 : decode cX8_again 65 = .ok (.aload_n 0, 1) := by decide +kernel
theorem dX8_again_66 : decode cX8_again 66 = .ok (.getfield 22, 3) := by decide +kernel
theorem dX8_again_69 : decode cX8_again 69 = .ok (.bipush 36, 2) := by decide +kernel
theorem dX8_again_71 : decode cX8_again 71 = .ok (.iaload, 1) := by decide +kernel
theorem dX8_again_72 : decode cX8_again 72 = .ok (.ireturn, 1) := by decide +kernel
theorem dJ6_compare_7cf53_0 : decode cJ6_compare_7cf53 0 = .ok (.iload_n 0, 1) := by decide +kernel
theorem dJ6_compare_7cf53_1 : decode cJ6_compare_7cf53 1 = .ok (.iload_n 1, 1) := by decide +kernel
theorem dJ6_compare_7cf53_2 : decode cJ6_compare_7cf53 2 = .ok (.if_icmp .ge 7, 3) := by decide +kernel
theorem dJ6_compare_7cf53_5 : decode cJ6_compare_7cf53 5 = .ok (.iconst (-1), 1) := by decide +kernel
theorem dJ6_compare_7cf53_6 : decode cJ6_compare_7cf53 6 = .ok (.goto 13, 3) := by decide +kernel
theorem dJ6_compare_7cf53_9 : decode cJ6_compare_7cf53 9 = .ok (.iload_n 0, 1) := by decide +kernel
theorem dJ6_compare_7cf53_10 : decode cJ6_compare_7cf53 10 = .ok (.iload_n 1, 1) := by decide +kernel
theorem dJ6_compare_7cf53_11 : decode cJ6_compare_7cf53 11 = .ok (.if_icmp .ne 7, 3) := by decide +kernel
theorem dJ6_compare_7cf53_14 : decode cJ6_compare_7cf53 14 = .ok (.iconst 0, 1) := by decide +kernel
theorem dJ6_compare_7cf53_15 : decode cJ6_compare_7cf53 15 = .ok (.goto 4, 3) := by decide +kernel
theorem dJ6_compare_7cf53_18 : decode cJ6_compare_7cf53 18 = .ok (.iconst 1, 1) := by decide +kernel
theorem dJ6_compare_7cf53_19 : decode cJ6_compare_7cf53 19 = .ok (.ireturn, 1) := by decide +kernel
theorem dJ6_bitCount_0f7a4_0 : decode cJ6_bitCount_0f7a4 0 = .ok (.iload_n 0, 1) := by decide +kernel
theorem dJ6_bitCount_0f7a4_1 : decode cJ6_bitCount_0f7a4 1 = .ok (.iload_n 0, 1) := by decide +kernel
theorem dJ6_bitCount_0f7a4_2 : decode cJ6_bitCount_0f7a4 2 = .ok (.iconst 1, 1) := by decide +kernel
theorem dJ6_bitCount_0f7a4_3 : decode cJ6_bitCount_0f7a4 3 = .ok (.iushr, 1) := by decide +kernel
theorem dJ6_bitCount_0f7a4_4 : decode cJ6_bitCount_0f7a4 4 = .ok (.ldc_w 265, 3) := by decide +kernel
theorem dJ6_bitCount_0f7a4_7 : decode cJ6_bitCount_0f7a4 7 = .ok (.iand, 1) := by decide +kernel
theorem dJ6_bitCount_0f7a4_8 : decode cJ6_bitCount_0f7a4 8 = .ok (.isub, 1) := by decide +kernel
theorem dJ6_bitCount_0f7a4_9 : decode cJ6_bitCount_0f7a4 9 = .ok (.istore_n 0, 1) := by decide +kernel
theorem dJ6_bitCount_0f7a4_10 : decode cJ6_bitCount_0f7a4 10 = .ok (.iload_n 0, 1) := by decide +kernel
theorem dJ6_bitCount_0f7a4_11 : decode cJ6_bitCount_0f7a4 11 = .ok (.ldc_w 266, 3) := by decide +kernel
theorem dJ6_bitCount_0f7a4_14 : decode cJ6_bitCount_0f7a4 14 = .ok (.iand, 1) := by decide +kernel
theorem dJ6_bitCount_0f7a4_15 : decode cJ6_bitCount_0f7a4 15 = .ok (.iload_n 0, 1) := by decide +kernel
theorem dJ6_bitCount_0f7a4_16 : decode cJ6_bitCount_0f7a4 16 = .ok (.iconst 2, 1) := by decide +kernel
theorem dJ6_bitCount_0f7a4_17 : decode cJ6_bitCount_0f7a4 17 = .ok (.iushr, 1) := by decide +kernel
theorem dJ6_bitCount_0f7a4_18 : decode cJ6_bitCount_0f7a4 18 = .ok (.ldc_w 266, 3) := by decide +kernel
theorem dJ6_bitCount_0f7a4_21 : decode cJ6_bitCount_0f7a4 21 = .ok (.iand, 1) := by decide +kernel
theorem dJ6_bitCount_0f7a4_22 : decode cJ6_bitCount_0f7a4 22 = .ok (.iadd, 1) := by decide +kernel
theorem dJ6_bitCount_0f7a4_23 : decode cJ6_bitCount_0f7a4 23 = .ok (.istore_n 0, 1) := by decide +kernel
theorem dJ6_bitCount_0f7a4_24 : decode cJ6_bitCount_0f7a4 24 = .ok (.iload_n 0, 1) := by decide +kernel
theorem dJ6_bitCount_0f7a4_25 : decode cJ6_bitCount_0f7a4 25 = .ok (.iload_n 0, 1) := by decide +kernel
theorem dJ6_bitCount_0f7a4_26 : decode cJ6_bitCount_0f7a4 26 = .ok (.iconst 4, 1) := by decide +kernel
theorem dJ6_bitCount_0f7a4_27 : decode cJ6_bitCount_0f7a4 27 = .ok (.iushr, 1) := by decide +kernel
theorem dJ6_bitCount_0f7a4_28 : decode cJ6_bitCount_0f7a4 28 = .ok (.iadd, 1) := by decide +kernel
theorem dJ6_bitCount_0f7a4_29 : decode cJ6_bitCount_0f7a4 29 = .ok (.ldc_w 267, 3) := by decide +kernel
theorem dJ6_bitCount_0f7a4_32 : decode cJ6_bitCount_0f7a4 32 = .ok (.iand, 1) := by decide +kernel
theorem dJ6_bitCount_0f7a4_33 : decode cJ6_bitCount_0f7a4 33 = .ok (.istore_n 0, 1) := by decide +kernel
theorem dJ6_bitCount_0f7a4_34 : decode cJ6_bitCount_0f7a4 34 = .ok (.iload_n 0, 1) := by decide +kernel
theorem dJ6_bitCount_0f7a4_35 : decode cJ6_bitCount_0f7a4 35 = .ok (.iload_n 0, 1) := by decide +kernel
theorem dJ6_bitCount_0f7a4_36 : decode cJ6_bitCount_0f7a4 36 = .ok (.bipush 8, 2) := by decide +kernel
theorem dJ6_bitCount_0f7a4_38 : decode cJ6_bitCount_0f7a4 38 = .ok (.iushr, 1) := by decide +kernel
theorem dJ6_bitCount_0f7a4_39 : decode cJ6_bitCount_0f7a4 39 = .ok (.iadd, 1) := by decide +kernel
theorem dJ6_bitCount_0f7a4_40 : decode cJ6_bitCount_0f7a4 40 = .ok (.istore_n 0, 1) := by decide +kernel
theorem dJ6_bitCount_0f7a4_41 : decode cJ6_bitCount_0f7a4 41 = .ok (.iload_n 0, 1) := by decide +kernel
theorem dJ6_bitCount_0f7a4_42 : decode cJ6_bitCount_0f7a4 42 = .ok (.iload_n 0, 1) := by decide +kernel
theorem dJ6_bitCount_0f7a4_43 : decode cJ6_bitCount_0f7a4 43 = .ok (.bipush 16, 2) := by decide +kernel
theorem dJ6_bitCount_0f7a4_45 : decode cJ6_bitCount_0f7a4 45 = .ok (.iushr, 1) := by decide +kernel
theorem dJ6_bitCount_0f7a4_46 : decode cJ6_bitCount_0f7a4 46 = .ok (.iadd, 1) := by decide +kernel
theorem dJ6_bitCount_0f7a4_47 : decode cJ6_bitCount_0f7a4 47 = .ok (.istore_n 0, 1) := by decide +kernel
theorem dJ6_bitCount_0f7a4_48 : decode cJ6_bitCount_0f7a4 48 = .ok (.iload_n 0, 1) := by decide +kernel
theorem dJ6_bitCount_0f7a4_49 : decode cJ6_bitCount_0f7a4 49 = .ok (.bipush 63, 2) := by decide +kernel
theorem dJ6_bitCount_0f7a4_51 : decode cJ6_bitCount_0f7a4 51 = .ok (.iand, 1) := by decide +kernel
theorem dJ6_bitCount_0f7a4_52 : decode cJ6_bitCount_0f7a4 52 = .ok (.ireturn, 1) := by decide +kernel
theorem dJ9_abs_0f7a4_0 : decode cJ9_abs_0f7a4 0 = .ok (.iload_n 0, 1) := by decide +kernel
theorem dJ9_abs_0f7a4_1 : decode cJ9_abs_0f7a4 1 = .ok (.ifCond .ge 8, 3) := by decide +kernel
theorem dJ9_abs_0f7a4_4 : decode cJ9_abs_0f7a4 4 = .ok (.iload_n 0, 1) := by decide +kernel
theorem dJ9_abs_0f7a4_5 : decode cJ9_abs_0f7a4 5 = .ok (.ineg, 1) := by decide +kernel
theorem dJ9_abs_0f7a4_6 : decode cJ9_abs_0f7a4 6 = .ok (.goto 4, 3) := by decide +kernel
theorem dJ9_abs_0f7a4_9 : decode cJ9_abs_0f7a4 9 = .ok (.iload_n 0, 1) := by decide +kernel
theorem dJ9_abs_0f7a4_10 : decode cJ9_abs_0f7a4 10 = .ok (.ireturn, 1) := by decide +kernel
theorem dJ9_max_7cf53_0 : decode cJ9_max_7cf53 0 = .ok (.iload_n 0, 1) := by decide +kernel
theorem dJ9_max_7cf53_1 : decode cJ9_max_7cf53 1 = .ok (.iload_n 1, 1) := by decide +kernel
theorem dJ9_max_7cf53_2 : decode cJ9_max_7cf53 2 = .ok (.if_icmp .lt 7, 3) := by decide +kernel
theorem dJ9_max_7cf53_5 : decode cJ9_max_7cf53 5 = .ok (.iload_n 0, 1) := by decide +kernel
theorem dJ9_max_7cf53_6 : decode cJ9_max_7cf53 6 = .ok (.goto 4, 3) := by decide +kernel
theorem dJ9_max_7cf53_9 : decode cJ9_max_7cf53 9 = .ok (.iload_n 1, 1) := by decide +kernel
theorem dJ9_max_7cf53_10 : decode cJ9_max_7cf53 10 = .ok (.ireturn, 1) := by decide +kernel
theorem dJ9_min_7cf53_0 : decode cJ9_min_7cf53 0 = .ok (.iload_n 0, 1) := by decide +kernel
theorem dJ9_min_7cf53_1 : decode cJ9_min_7cf53 1 = .ok (.iload_n 1, 1) := by decide +kernel
theorem dJ9_min_7cf53_2 : decode cJ9_min_7cf53 2 = .ok (.if_icmp .gt 7, 3) := by decide +kernel
theorem dJ9_min_7cf53_5 : decode cJ9_min_7cf53 5 = .ok (.iload_n 0, 1) := by decide +kernel
theorem dJ9_min_7cf53_6 : decode cJ9_min_7cf53 6 = .ok (.goto 4, 3) := by decide +kernel
theorem dJ9_min_7cf53_9 : decode cJ9_min_7cf53 9 = .ok (.iload_n 1, 1) := by decide +kernel
theorem dJ9_min_7cf53_10 : decode cJ9_min_7cf53 10 = .ok (.ireturn, 1) := by decide +kernel
