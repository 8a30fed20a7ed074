theorem dX0_init_0 : decode cX0_init 0 = .ok (.aload_n 0, 1) := by decide +kernel
theorem dX0_init_1 : decode cX0_init 1 = .ok (.invokespecial 3, 3) := by decide +kernel
theorem dX0_init_4 : decode cX0_init 4 = .ok (.aload_n 0, 1) := by decide +kernel
theorem dX0_init_5 : decode cX0_init 5 = .ok (.bipush 14, 2) := by decide +kernel
theorem dX0_init_7 : decode cX0_init 7 = .ok (.bipush 49, 2) := by decide +kernel
theorem dX0_init_9 : decode cX0_init 9 = .ok (.multianewarray 11 2, 4) := by decide +kernel
theorem dX0_init_13 : decode cX0_init 13 = .ok (.putfield 13, 3) := by decide +kernel
theorem dX0_init_16 : decode cX0_init 16 = .ok (.aload_n 0, 1) := by decide +kernel
theorem dX0_init_17 : decode cX0_init 17 = .ok (.iconst 0, 1) := by decide +kernel
theorem dX0_init_18 : decode cX0_init 18 = .ok (.putfield 18, 3) := by decide +kernel
theorem dX0_init_21 : decode cX0_init 21 = .ok (.aload_n 0, 1) := by decide +kernel
theorem dX0_init_22 : decode cX0_init 22 = .ok (.iconst 0, 1) := by decide +kernel
theorem dX0_init_23 : decode cX0_init 23 = .ok (.putfield 22, 3) := by decide +kernel
theorem dX0_init_26 : decode cX0_init 26 = .ok (.return_, 1) := by decide +kernel
theorem dX0_count_0 : decode cX0_count 0 = .ok (.aload_n 0, 1) := by decide +kernel
theorem dX0_count_1 : decode cX0_count 1 = .ok (.getfield 18, 3) := by decide +kernel
theorem dX0_count_4 : decode cX0_count 4 = .ok (.ireturn, 1) := by decide +kernel
theorem dX0_forget_0 : decode cX0_forget 0 = .ok (.aload_n 0, 1) := by decide +kernel
theorem dX0_forget_1 : decode cX0_forget 1 = .ok (.iconst 0, 1) := by decide +kernel
theorem dX0_forget_2 : decode cX0_forget 2 = .ok (.putfield 18, 3) := by decide +kernel
theorem dX0_forget_5 : decode cX0_forget 5 = .ok (.return_, 1) := by decide +kernel
theorem dX0_remember_0 : decode cX0_remember 0 = .ok (.aload_n 1, 1) := by decide +kernel
theorem dX0_remember_1 : decode cX0_remember 1 = .ok (.aload_n 0, 1) := by decide +kernel
theorem dX0_remember_2 : decode cX0_remember 2 = .ok (.getfield 13, 3) := by decide +kernel
theorem dX0_remember_5 : decode cX0_remember 5 = .ok (.aload_n 0, 1) := by decide +kernel
theorem dX0_remember_6 : decode cX0_remember 6 = .ok (.getfield 22, 3) := by decide +kernel
theorem dX0_remember_9 : decode cX0_remember 9 = .ok (.aaload, 1) := by decide +kernel
theorem dX0_remember_10 : decode cX0_remember 10 = .ok (.invokevirtual 25, 3) := by decide +kernel
theorem dX0_remember_13 : decode cX0_remember 13 = .ok (.aload_n 0, 1) := by decide +kernel
theorem dX0_remember_14 : decode cX0_remember 14 = .ok (.aload_n 0, 1) := by decide +kernel
theorem dX0_remember_15 : decode cX0_remember 15 = .ok (.getfield 22, 3) := by decide +kernel
theorem dX0_remember_18 : decode cX0_remember 18 = .ok (.iconst 1, 1) := by decide +kernel
theorem dX0_remember_19 : decode cX0_remember 19 = .ok (.iadd, 1) := by decide +kernel
theorem dX0_remember_20 : decode cX0_remember 20 = .ok (.bipush 14, 2) := by decide +kernel
theorem dX0_remember_22 : decode cX0_remember 22 = .ok (.irem, 1) := by decide +kernel
theorem dX0_remember_23 : decode cX0_remember 23 = .ok (.putfield 22, 3) := by decide +kernel
theorem dX0_remember_26 : decode cX0_remember 26 = .ok (.aload_n 0, 1) := by decide +kernel
theorem dX0_remember_27 : decode cX0_remember 27 = .ok (.aload_n 0, 1) := by decide +kernel
theorem dX0_remember_28 : decode cX0_remember 28 = .ok (.getfield 18, 3) := by decide +kernel
theorem dX0_remember_31 : decode cX0_remember 31 = .ok (.iconst 1, 1) := by decide +kernel
theorem dX0_remember_32 : decode cX0_remember 32 = .ok (.iadd, 1) := by decide +kernel
theorem dX0_remember_33 : decode cX0_remember 33 = .ok (.bipush 14, 2) := by decide +kernel
theorem dX0_remember_35 : decode cX0_remember 35 = .ok (.invokestatic 29, 3) := by decide +kernel
theorem dX0_remember_38 : decode cX0_remember 38 = .ok (.putfield 18, 3) := by decide +kernel
theorem dX0_remember_41 : decode cX0_remember 41 = .ok (.return_, 1) := by decide +kernel
theorem dX0_takeBack_0 : decode cX0_takeBack 0 = .ok (.aload_n 0, 1) := by decide +kernel
theorem dX0_takeBack_1 : decode cX0_takeBack 1 = .ok (.getfield 18, 3) := by decide +kernel
theorem dX0_takeBack_4 : decode cX0_takeBack 4 = .ok (.ifCond .ne 5, 3) := by decide +kernel
theorem dX0_takeBack_7 : decode cX0_takeBack 7 = .ok (.iconst 0, 1) := by decide +kernel
theorem dX0_takeBack_8 : decode cX0_takeBack 8 = .ok (.ireturn, 1) := by decide +kernel
theorem dX0_takeBack_9 : decode cX0_takeBack 9 = .ok (.aload_n 0, 1) := by decide +kernel
theorem dX0_takeBack_10 : decode cX0_takeBack 10 = .ok (.aload_n 0, 1) := by decide +kernel
theorem dX0_takeBack_11 : decode cX0_takeBack 11 = .ok (.getfield 22, 3) := by decide +kernel
theorem dX0_takeBack_14 : decode cX0_takeBack 14 = .ok (.bipush 14, 2) := by decide +kernel
theorem dX0_takeBack_16 : decode cX0_takeBack 16 = .ok (.iadd, 1) := by decide +kernel
theorem dX0_takeBack_17 : decode cX0_takeBack 17 = .ok (.iconst 1, 1) := by decide +kernel
theorem dX0_takeBack_18 : decode cX0_takeBack 18 = .ok (.isub, 1) := by decide +kernel
theorem dX0_takeBack_19 : decode cX0_takeBack 19 = .ok (.bipush 14, 2) := by decide +kernel
theorem dX0_takeBack_21 : decode cX0_takeBack 21 = .ok (.irem, 1) := by decide +kernel
theorem dX0_takeBack_22 : decode cX0_takeBack 22 = .ok (.putfield 22, 3) := by decide +kernel
theorem dX0_takeBack_25 : decode cX0_takeBack 25 = .ok (.aload_n 0, 1) := by decide +kernel
theorem dX0_takeBack_26 : decode cX0_takeBack 26 = .ok (.dup, 1) := by decide +kernel
theorem dX0_takeBack_27 : decode cX0_takeBack 27 = .ok (.getfield 18, 3) := by decide +kernel
theorem dX0_takeBack_30 : decode cX0_takeBack 30 = .ok (.iconst 1, 1) := by decide +kernel
theorem dX0_takeBack_31 : decode cX0_takeBack 31 = .ok (.isub, 1) := by decide +kernel
theorem dX0_takeBack_32 : decode cX0_takeBack 32 = .ok (.putfield 18, 3) := by decide +kernel
theorem dX0_takeBack_35 : decode cX0_takeBack 35 = .ok (.aload_n 1, 1) := by decide +kernel
theorem dX0_takeBack_36 : decode cX0_takeBack 36 = .ok (.aload_n 0, 1) := by decide +kernel
theorem dX0_takeBack_37 : decode cX0_takeBack 37 = .ok (.getfield 13, 3) := by decide +kernel
theorem dX0_takeBack_40 : decode cX0_takeBack 40 = .ok (.aload_n 0, 1) := by decide +kernel
theorem dX0_takeBack_41 : decode cX0_takeBack 41 = .ok (.getfield 22, 3) := by decide +kernel
theorem dX0_takeBack_44 : decode cX0_takeBack 44 = .ok (.aaload, 1) := by decide +kernel
theorem dX0_takeBack_45 : decode cX0_takeBack 45 = .ok (.invokevirtual 35, 3) := by decide +kernel
theorem dX0_takeBack_48 : decode cX0_takeBack 48 = .ok (.iconst 1, 1) := by decide +kernel
theorem dX0_takeBack_49 : decode cX0_takeBack 49 = .ok (.ireturn, 1) := by decide +kernel
theorem dX1_init_0 : decode cX1_init 0 = .ok (.aload_n 0, 1) := by decide +kernel
theorem dX1_init_1 : decode cX1_init 1 = .ok (.invokespecial 1, 3) := by decide +kernel
theorem dX1_init_4 : decode cX1_init 4 = .ok (.aload_n 0, 1) := by decide +kernel
theorem dX1_init_5 : decode cX1_init 5 = .ok (.iconst 0, 1) := by decide +kernel
theorem dX1_init_6 : decode cX1_init 6 = .ok (.putfield 7, 3) := by decide +kernel
theorem dX1_init_9 : decode cX1_init 9 = .ok (.aload_n 0, 1) := by decide +kernel
theorem dX1_init_10 : decode cX1_init 10 = .ok (.iconst 1, 1) := by decide +kernel
theorem dX1_init_11 : decode cX1_init 11 = .ok (.putfield 13, 3) := by decide +kernel
theorem dX1_init_14 : decode cX1_init 14 = .ok (.return_, 1) := by decide +kernel
theorem dX1_make_0 : decode cX1_make 0 = .ok (.iload_n 1, 1) := by decide +kernel
theorem dX1_make_1 : decode cX1_make 1 = .ok (.invokestatic 16, 3) := by decide +kernel
theorem dX1_make_4 : decode cX1_make 4 = .ok (.iload_n 2, 1) := by decide +kernel
theorem dX1_make_5 : decode cX1_make 5 = .ok (.invokestatic 22, 3) := by decide +kernel
theorem dX1_make_8 : decode cX1_make 8 = .ok (.istore_n 3, 1) := by decide +kernel
theorem dX1_make_9 : decode cX1_make 9 = .ok (.aload_n 0, 1) := by decide +kernel
theorem dX1_make_10 : decode cX1_make 10 = .ok (.iload_n 3, 1) := by decide +kernel
theorem dX1_make_11 : decode cX1_make 11 = .ok (.ifCond .le 9, 3) := by decide +kernel
theorem dX1_make_14 : decode cX1_make 14 = .ok (.iload_n 1, 1) := by decide +kernel
theorem dX1_make_15 : decode cX1_make 15 = .ok (.iload_n 3, 1) := by decide +kernel
theorem dX1_make_16 : decode cX1_make 16 = .ok (.idiv, 1) := by decide +kernel
theorem dX1_make_17 : decode cX1_make 17 = .ok (.goto 4, 3) := by decide +kernel
theorem dX1_make_20 : decode cX1_make 20 = .ok (.iload_n 1, 1) := by decide +kernel
theorem dX1_make_21 : decode cX1_make 21 = .ok (.putfield 7, 3) := by decide +kernel
theorem dX1_make_24 : decode cX1_make 24 = .ok (.aload_n 0, 1) := by decide +kernel
theorem dX1_make_25 : decode cX1_make 25 = .ok (.iload_n 3, 1) := by decide +kernel
theorem dX1_make_26 : decode cX1_make 26 = .ok (.ifCond .le 9, 3) := by decide +kernel
theorem dX1_make_29 : decode cX1_make 29 = .ok (.iload_n 2, 1) := by decide +kernel
theorem dX1_make_30 : decode cX1_make 30 = .ok (.iload_n 3, 1) := by decide +kernel
theorem dX1_make_31 : decode cX1_make 31 = .ok (.idiv, 1) := by decide +kernel
theorem dX1_make_32 : decode cX1_make 32 = .ok (.goto 4, 3) := by decide +kernel
theorem dX1_make_35 : decode cX1_make 35 = .ok (.iload_n 2, 1) := by decide +kernel
theorem dX1_make_36 : decode cX1_make 36 = .ok (.putfield 13, 3) := by decide +kernel
theorem dX1_make_39 : decode cX1_make 39 = .ok (.return_, 1) := by decide +kernel
theorem dX1_told_0 : decode cX1_told 0 = .ok (.iload_n 1, 1) := by decide +kernel
theorem dX1_told_1 : decode cX1_told 1 = .ok (.ifCond .eq 10, 3) := by decide +kernel
theorem dX1_told_4 : decode cX1_told 4 = .ok (.aload_n 0, 1) := by decide +kernel
theorem dX1_told_5 : decode cX1_told 5 = .ok (.getfield 7, 3) := by decide +kernel
theorem dX1_told_8 : decode cX1_told 8 = .ok (.goto 7, 3) := by decide +kernel
theorem dX1_told_11 : decode cX1_told 11 = .ok (.aload_n 0, 1) := by decide +kernel
theorem dX1_told_12 : decode cX1_told 12 = .ok (.getfield 13, 3) := by decide +kernel
theorem dX1_told_15 : decode cX1_told 15 = .ok (.ireturn, 1) := by decide +kernel
theorem dX1_commonOf_0 : decode cX1_commonOf 0 = .ok (.iload_n 0, 1) := by decide +kernel
theorem dX1_commonOf_1 : decode cX1_commonOf 1 = .ok (.istore_n 2, 1) := by decide +kernel
theorem dX1_commonOf_2 : decode cX1_commonOf 2 = .ok (.iload_n 1, 1) := by decide +kernel
theorem dX1_commonOf_3 : decode cX1_commonOf 3 = .ok (.istore_n 3, 1) := by decide +kernel
theorem dX1_commonOf_4 : decode cX1_commonOf 4 = .ok (.iconst 0, 1) := by decide +kernel
theorem dX1_commonOf_5 : decode cX1_commonOf 5 = .ok (.istore 4, 2) := by decide +kernel
theorem dX1_commonOf_7 : decode cX1_commonOf 7 = .ok (.iload 4, 2) := by decide +kernel
theorem dX1_commonOf_9 : decode cX1_commonOf 9 = .ok (.sipush 1000, 3) := by decide +kernel
theorem dX1_commonOf_12 : decode cX1_commonOf 12 = .ok (.if_icmp .ge 23, 3) := by decide +kernel
theorem dX1_commonOf_15 : decode cX1_commonOf 15 = .ok (.iload_n 3, 1) := by decide +kernel
theorem dX1_commonOf_16 : decode cX1_commonOf 16 = .ok (.ifCond .le 19, 3) := by decide +kernel
theorem dX1_commonOf_19 : decode cX1_commonOf 19 = .ok (.iload_n 2, 1) := by decide +kernel
theorem dX1_commonOf_20 : decode cX1_commonOf 20 = .ok (.iload_n 3, 1) := by decide +kernel
theorem dX1_commonOf_21 : decode cX1_commonOf 21 = .ok (.irem, 1) := by decide +kernel
theorem dX1_commonOf_22 : decode cX1_commonOf 22 = .ok (.istore 5, 2) := by decide +kernel
theorem dX1_commonOf_24 : decode cX1_commonOf 24 = .ok (.iload_n 3, 1) := by decide +kernel
theorem dX1_commonOf_25 : decode cX1_commonOf 25 = .ok (.istore_n 2, 1) := by decide +kernel
theorem dX1_commonOf_26 : decode cX1_commonOf 26 = .ok (.iload 5, 2) := by decide +kernel
theorem dX1_commonOf_28 : decode cX1_commonOf 28 = .ok (.istore_n 3, 1) := by decide +kernel
theorem dX1_commonOf_29 : decode cX1_commonOf 29 = .ok (.iinc 4 1, 3) := by decide +kernel
theorem dX1_commonOf_32 : decode cX1_commonOf 32 = .ok (.goto (-25), 3) := by decide +kernel
theorem dX1_commonOf_35 : decode cX1_commonOf 35 = .ok (.iload_n 2, 1) := by decide +kernel
theorem dX1_commonOf_36 : decode cX1_commonOf 36 = .ok (.ireturn, 1) := by decide +kernel
theorem dX2_init_0 : decode cX2_init 0 = .ok (.aload_n 0, 1) := by decide +kernel
theorem dX2_init_1 : decode cX2_init 1 = .ok (.invokespecial 5, 3) := by decide +kernel
theorem dX2_init_4 : decode cX2_init 4 = .ok (.aload_n 0, 1) := by decide +kernel
theorem dX2_init_5 : decode cX2_init 5 = .ok (.bipush 48, 2) := by decide +kernel
theorem dX2_init_7 : decode cX2_init 7 = .ok (.newarray .int, 2) := by decide +kernel
theorem dX2_init_9 : decode cX2_init 9 = .ok (.putfield 11, 3) := by decide +kernel
theorem dX2_init_12 : decode cX2_init 12 = .ok (.aload_n 0, 1) := by decide +kernel
theorem dX2_init_13 : decode cX2_init 13 = .ok (.bipush 8, 2) := by decide +kernel
theorem dX2_init_15 : decode cX2_init 15 = .ok (.newarray .int, 2) := by decide +kernel
theorem dX2_init_17 : decode cX2_init 17 = .ok (.putfield 15, 3) := by decide +kernel
theorem dX2_init_20 : decode cX2_init 20 = .ok (.aload_n 0, 1) := by decide +kernel
theorem dX2_init_21 : decode cX2_init 21 = .ok (.iconst 0, 1) := by decide +kernel
theorem dX2_init_22 : decode cX2_init 22 = .ok (.putfield 18, 3) := by decide +kernel
theorem dX2_init_25 : decode cX2_init 25 = .ok (.aload_n 0, 1) := by decide +kernel
theorem dX2_init_26 : decode cX2_init 26 = .ok (.iconst 0, 1) := by decide +kernel
theorem dX2_init_27 : decode cX2_init 27 = .ok (.putfield 22, 3) := by decide +kernel
theorem dX2_init_30 : decode cX2_init 30 = .ok (.return_, 1) := by decide +kernel
theorem dX2_jars_0 : decode cX2_jars 0 = .ok (.aload_n 0, 1) := by decide +kernel
theorem dX2_jars_1 : decode cX2_jars 1 = .ok (.getfield 18, 3) := by decide +kernel
theorem dX2_jars_4 : decode cX2_jars 4 = .ok (.ireturn, 1) := by decide +kernel
theorem dX2_weeks_0 : decode cX2_weeks 0 = .ok (.aload_n 0, 1) := by decide +kernel
theorem dX2_weeks_1 : decode cX2_weeks 1 = .ok (.getfield 22, 3) := by decide +kernel
theorem dX2_weeks_4 : decode cX2_weeks 4 = .ok (.ireturn, 1) := by decide +kernel
theorem dX2_has_0 : decode cX2_has 0 = .ok (.iload_n 1, 1) := by decide +kernel
theorem dX2_has_1 : decode cX2_has 1 = .ok (.ifCond .lt 15, 3) := by decide +kernel
theorem dX2_has_4 : decode cX2_has 4 = .ok (.iload_n 1, 1) := by decide +kernel
theorem dX2_has_5 : decode cX2_has 5 = .ok (.aload_n 0, 1) := by decide +kernel
theorem dX2_has_6 : decode cX2_has 6 = .ok (.getfield 18, 3) := by decide +kernel
theorem dX2_has_9 : decode cX2_has 9 = .ok (.if_icmp .ge 7, 3) := by decide +kernel
theorem dX2_has_12 : decode cX2_has 12 = .ok (.iconst 1, 1) := by decide +kernel
theorem dX2_has_13 : decode cX2_has 13 = .ok (.goto 4, 3) := by decide +kernel
theorem dX2_has_16 : decode cX2_has 16 = .ok (.iconst 0, 1) := by decide +kernel
theorem dX2_has_17 : decode cX2_has 17 = .ok (.ireturn, 1) := by decide +kernel
theorem dX2_part_0 : decode cX2_part 0 = .ok (.iload_n 1, 1) := by decide +kernel
theorem dX2_part_1 : decode cX2_part 1 = .ok (.ifCond .lt 19, 3) := by decide +kernel
theorem dX2_part_4 : decode cX2_part 4 = .ok (.iload_n 1, 1) := by decide +kernel
theorem dX2_part_5 : decode cX2_part 5 = .ok (.bipush 6, 2) := by decide +kernel
theorem dX2_part_7 : decode cX2_part 7 = .ok (.if_icmp .ge 13, 3) := by decide +kernel
theorem dX2_part_10 : decode cX2_part 10 = .ok (.iload_n 2, 1) := by decide +kernel
theorem dX2_part_11 : decode cX2_part 11 = .ok (.ifCond .lt 9, 3) := by decide +kernel
theorem dX2_part_14 : decode cX2_part 14 = .ok (.iload_n 2, 1) := by decide +kernel
theorem dX2_part_15 : decode cX2_part 15 = .ok (.bipush 8, 2) := by decide +kernel
theorem dX2_part_17 : decode cX2_part 17 = .ok (.if_icmp .lt 5, 3) := by decide +kernel
theorem dX2_part_20 : decode cX2_part 20 = .ok (.iconst 0, 1) := by decide +kernel
theorem dX2_part_21 : decode cX2_part 21 = .ok (.ireturn, 1) := by decide +kernel
theorem dX2_part_22 : decode cX2_part 22 = .ok (.aload_n 0, 1) := by decide +kernel
theorem dX2_part_23 : decode cX2_part 23 = .ok (.getfield 11, 3) := by decide +kernel
theorem dX2_part_26 : decode cX2_part 26 = .ok (.iload_n 1, 1) := by decide +kernel
theorem dX2_part_27 : decode cX2_part 27 = .ok (.bipush 8, 2) := by decide +kernel
theorem dX2_part_29 : decode cX2_part 29 = .ok (.imul, 1) := by decide +kernel
theorem dX2_part_30 : decode cX2_part 30 = .ok (.iload_n 2, 1) := by decide +kernel
theorem dX2_part_31 : decode cX2_part 31 = .ok (.iadd, 1) := by decide +kernel
theorem dX2_part_32 : decode cX2_part 32 = .ok (.iaload, 1) := by decide +kernel
theorem dX2_part_33 : decode cX2_part 33 = .ok (.ireturn, 1) := by decide +kernel
theorem dX2_put_0 : decode cX2_put 0 = .ok (.iload_n 1, 1) := by decide +kernel
theorem dX2_put_1 : decode cX2_put 1 = .ok (.ifCond .lt 31, 3) := by decide +kernel
theorem dX2_put_4 : decode cX2_put 4 = .ok (.iload_n 1, 1) := by decide +kernel
theorem dX2_put_5 : decode cX2_put 5 = .ok (.bipush 6, 2) := by decide +kernel
theorem dX2_put_7 : decode cX2_put 7 = .ok (.if_icmp .ge 25, 3) := by decide +kernel
theorem dX2_put_10 : decode cX2_put 10 = .ok (.iload_n 2, 1) := by decide +kernel
theorem dX2_put_11 : decode cX2_put 11 = .ok (.ifCond .lt 21, 3) := by decide +kernel
theorem dX2_put_14 : decode cX2_put 14 = .ok (.iload_n 2, 1) := by decide +kernel
theorem dX2_put_15 : decode cX2_put 15 = .ok (.bipush 8, 2) := by decide +kernel
theorem dX2_put_17 : decode cX2_put 17 = .ok (.if_icmp .ge 15, 3) := by decide +kernel
theorem dX2_put_20 : decode cX2_put 20 = .ok (.aload_n 0, 1) := by decide +kernel
theorem dX2_put_21 : decode cX2_put 21 = .ok (.getfield 11, 3) := by decide +kernel
theorem dX2_put_24 : decode cX2_put 24 = .ok (.iload_n 1, 1) := by decide +kernel
theorem dX2_put_25 : decode cX2_put 25 = .ok (.bipush 8, 2) := by decide +kernel
theorem dX2_put_27 : decode cX2_put 27 = .ok (.imul, 1) := by decide +kernel
theorem dX2_put_28 : decode cX2_put 28 = .ok (.iload_n 2, 1) := by decide +kernel
theorem dX2_put_29 : decode cX2_put 29 = .ok (.iadd, 1) := by decide +kernel
theorem dX2_put_30 : decode cX2_put 30 = .ok (.iload_n 3, 1) := by decide +kernel
theorem dX2_put_31 : decode cX2_put 31 = .ok (.iastore, 1) := by decide +kernel
theorem dX2_put_32 : decode cX2_put 32 = .ok (.return_, 1) := by decide +kernel
theorem dX2_isWhole_0 : decode cX2_isWhole 0 = .ok (.aload_n 0, 1) := by decide +kernel
theorem dX2_isWhole_1 : decode cX2_isWhole 1 = .ok (.iload_n 1, 1) := by decide +kernel
theorem dX2_isWhole_2 : decode cX2_isWhole 2 = .ok (.invokevirtual 25, 3) := by decide +kernel
theorem dX2_isWhole_5 : decode cX2_isWhole 5 = .ok (.ifCond .eq 17, 3) := by decide +kernel
theorem dX2_isWhole_8 : decode cX2_isWhole 8 = .ok (.aload_n 0, 1) := by decide +kernel
theorem dX2_isWhole_9 : decode cX2_isWhole 9 = .ok (.iload_n 1, 1) := by decide +kernel
theorem dX2_isWhole_10 : decode cX2_isWhole 10 = .ok (.bipush 7, 2) := by decide +kernel
theorem dX2_isWhole_12 : decode cX2_isWhole 12 = .ok (.invokevirtual 29, 3) := by decide +kernel
theorem dX2_isWhole_15 : decode cX2_isWhole 15 = .ok (.ifCond .ne 7, 3) := by decide +kernel
theorem dX2_isWhole_18 : decode cX2_isWhole 18 = .ok (.iconst 1, 1) := by decide +kernel
theorem dX2_isWhole_19 : decode cX2_isWhole 19 = .ok (.goto 4, 3) := by decide +kernel
theorem dX2_isWhole_22 : decode cX2_isWhole 22 = .ok (.iconst 0, 1) := by decide +kernel
theorem dX2_isWhole_23 : decode cX2_isWhole 23 = .ok (.ireturn, 1) := by decide +kernel
theorem dX2_clear_0 : decode cX2_clear 0 = .ok (.aload_n 0, 1) := by decide +kernel
theorem dX2_clear_1 : decode cX2_clear 1 = .ok (.iconst 0, 1) := by decide +kernel
theorem dX2_clear_2 : decode cX2_clear 2 = .ok (.putfield 18, 3) := by decide +kernel
theorem dX2_clear_5 : decode cX2_clear 5 = .ok (.aload_n 0, 1) := by decide +kernel
theorem dX2_clear_6 : decode cX2_clear 6 = .ok (.iconst 0, 1) := by decide +kernel
theorem dX2_clear_7 : decode cX2_clear 7 = .ok (.putfield 22, 3) := by decide +kernel
theorem dX2_clear_10 : decode cX2_clear 10 = .ok (.return_, 1) := by decide +kernel
theorem dX2_add_0 : decode cX2_add 0 = .ok (.aload_n 0, 1) := by decide +kernel
theorem dX2_add_1 : decode cX2_add 1 = .ok (.getfield 18, 3) := by decide +kernel
theorem dX2_add_4 : decode cX2_add 4 = .ok (.bipush 6, 2) := by decide +kernel
theorem dX2_add_6 : decode cX2_add 6 = .ok (.if_icmp .lt 4, 3) := by decide +kernel
theorem dX2_add_9 : decode cX2_add 9 = .ok (.return_, 1) := by decide +kernel
theorem dX2_add_10 : decode cX2_add 10 = .ok (.aload_n 0, 1) := by decide +kernel
theorem dX2_add_11 : decode cX2_add 11 = .ok (.aload_n 0, 1) := by decide +kernel
theorem dX2_add_12 : decode cX2_add 12 = .ok (.getfield 18, 3) := by decide +kernel
theorem dX2_add_15 : decode cX2_add 15 = .ok (.iconst 0, 1) := by decide +kernel
theorem dX2_add_16 : decode cX2_add 16 = .ok (.iload_n 1, 1) := by decide +kernel
theorem dX2_add_17 : decode cX2_add 17 = .ok (.invokevirtual 33, 3) := by decide +kernel
theorem dX2_add_20 : decode cX2_add 20 = .ok (.aload_n 0, 1) := by decide +kernel
theorem dX2_add_21 : decode cX2_add 21 = .ok (.aload_n 0, 1) := by decide +kernel
theorem dX2_add_22 : decode cX2_add 22 = .ok (.getfield 18, 3) := by decide +kernel
theorem dX2_add_25 : decode cX2_add 25 = .ok (.iconst 1, 1) := by decide +kernel
theorem dX2_add_26 : decode cX2_add 26 = .ok (.iload_n 2, 1) := by decide +kernel
theorem dX2_add_27 : decode cX2_add 27 = .ok (.invokevirtual 33, 3) := by decide +kernel
theorem dX2_add_30 : decode cX2_add 30 = .ok (.aload_n 0, 1) := by decide +kernel
theorem dX2_add_31 : decode cX2_add 31 = .ok (.aload_n 0, 1) := by decide +kernel
theorem dX2_add_32 : decode cX2_add 32 = .ok (.getfield 18, 3) := by decide +kernel
theorem dX2_add_35 : decode cX2_add 35 = .ok (.iconst 2, 1) := by decide +kernel
theorem dX2_add_36 : decode cX2_add 36 = .ok (.iload_n 3, 1) := by decide +kernel
theorem dX2_add_37 : decode cX2_add 37 = .ok (.invokevirtual 33, 3) := by decide +kernel
theorem dX2_add_40 : decode cX2_add 40 = .ok (.aload_n 0, 1) := by decide +kernel
theorem dX2_add_41 : decode cX2_add 41 = .ok (.aload_n 0, 1) := by decide +kernel
theorem dX2_add_42 : decode cX2_add 42 = .ok (.getfield 18, 3) := by decide +kernel
theorem dX2_add_45 : decode cX2_add 45 = .ok (.iconst 3, 1) := by decide +kernel
theorem dX2_add_46 : decode cX2_add 46 = .ok (.iload 4, 2) := by decide +kernel
theorem dX2_add_48 : decode cX2_add 48 = .ok (.invokevirtual 33, 3) := by decide +kernel
theorem dX2_add_51 : decode cX2_add 51 = .ok (.aload_n 0, 1) := by decide +kernel
theorem dX2_add_52 : decode cX2_add 52 = .ok (.aload_n 0, 1) := by decide +kernel
theorem dX2_add_53 : decode cX2_add 53 = .ok (.getfield 18, 3) := by decide +kernel
theorem dX2_add_56 : decode cX2_add 56 = .ok (.iconst 4, 1) := by decide +kernel
theorem dX2_add_57 : decode cX2_add 57 = .ok (.iload 5, 2) := by decide +kernel
theorem dX2_add_59 : decode cX2_add 59 = .ok (.invokevirtual 33, 3) := by decide +kernel
theorem dX2_add_62 : decode cX2_add 62 = .ok (.aload_n 0, 1) := by decide +kernel
theorem dX2_add_63 : decode cX2_add 63 = .ok (.aload_n 0, 1) := by decide +kernel
theorem dX2_add_64 : decode cX2_add 64 = .ok (.getfield 18, 3) := by decide +kernel
theorem dX2_add_67 : decode cX2_add 67 = .ok (.iconst 5, 1) := by decide +kernel
theorem dX2_add_68 : decode cX2_add 68 = .ok (.iconst 0, 1) := by decide +kernel
theorem dX2_add_69 : decode cX2_add 69 = .ok (.invokevirtual 33, 3) := by decide +kernel
theorem dX2_add_72 : decode cX2_add 72 = .ok (.aload_n 0, 1) := by decide +kernel
theorem dX2_add_73 : decode cX2_add 73 = .ok (.aload_n 0, 1) := by decide +kernel
theorem dX2_add_74 : decode cX2_add 74 = .ok (.getfield 18, 3) := by decide +kernel
theorem dX2_add_77 : decode cX2_add 77 = .ok (.bipush 6, 2) := by decide +kernel
theorem dX2_add_79 : decode cX2_add 79 = .ok (.iconst 1, 1) := by decide +kernel
theorem dX2_add_80 : decode cX2_add 80 = .ok (.invokevirtual 33, 3) := by decide +kernel
theorem dX2_add_83 : decode cX2_add 83 = .ok (.aload_n 0, 1) := by decide +kernel
theorem dX2_add_84 : decode cX2_add 84 = .ok (.aload_n 0, 1) := by decide +kernel
theorem dX2_add_85 : decode cX2_add 85 = .ok (.getfield 18, 3) := by decide +kernel
theorem dX2_add_88 : decode cX2_add 88 = .ok (.bipush 7, 2) := by decide +kernel
theorem dX2_add_90 : decode cX2_add 90 = .ok (.iconst 0, 1) := by decide +kernel
theorem dX2_add_91 : decode cX2_add 91 = .ok (.invokevirtual 33, 3) := by decide +kernel
theorem dX2_add_94 : decode cX2_add 94 = .ok (.aload_n 0, 1) := by decide +kernel
theorem dX2_add_95 : decode cX2_add 95 = .ok (.dup, 1) := by decide +kernel
theorem dX2_add_96 : decode cX2_add 96 = .ok (.getfield 18, 3) := by decide +kernel
theorem dX2_add_99 : decode cX2_add 99 = .ok (.iconst 1, 1) := by decide +kernel
theorem dX2_add_100 : decode cX2_add 100 = .ok (.iadd, 1) := by decide +kernel
theorem dX2_add_101 : decode cX2_add 101 = .ok (.putfield 18, 3) := by decide +kernel
theorem dX2_add_104 : decode cX2_add 104 = .ok (.return_, 1) := by decide +kernel
theorem dX2_copy_0 : decode cX2_copy 0 = .ok (.aload_n 1, 1) := by decide +kernel
theorem dX2_copy_1 : decode cX2_copy 1 = .ok (.getfield 11, 3) := by decide +kernel
theorem dX2_copy_4 : decode cX2_copy 4 = .ok (.iconst 0, 1) := by decide +kernel
theorem dX2_copy_5 : decode cX2_copy 5 = .ok (.aload_n 0, 1) := by decide +kernel
theorem dX2_copy_6 : decode cX2_copy 6 = .ok (.getfield 11, 3) := by decide +kernel
theorem dX2_copy_9 : decode cX2_copy 9 = .ok (.iconst 0, 1) := by decide +kernel
theorem dX2_copy_10 : decode cX2_copy 10 = .ok (.bipush 48, 2) := by decide +kernel
theorem dX2_copy_12 : decode cX2_copy 12 = .ok (.invokestatic 37, 3) := by decide +kernel
theorem dX2_copy_15 : decode cX2_copy 15 = .ok (.aload_n 0, 1) := by decide +kernel
theorem dX2_copy_16 : decode cX2_copy 16 = .ok (.aload_n 1, 1) := by decide +kernel
theorem dX2_copy_17 : decode cX2_copy 17 = .ok (.getfield 18, 3) := by decide +kernel
theorem dX2_copy_20 : decode cX2_copy 20 = .ok (.putfield 18, 3) := by decide +kernel
theorem dX2_copy_23 : decode cX2_copy 23 = .ok (.aload_n 0, 1) := by decide +kernel
theorem dX2_copy_24 : decode cX2_copy 24 = .ok (.aload_n 1, 1) := by decide +kernel
theorem dX2_copy_25 : decode cX2_copy 25 = .ok (.getfield 22, 3) := by decide +kernel
theorem dX2_copy_28 : decode cX2_copy 28 = .ok (.putfield 22, 3) := by decide +kernel
theorem dX2_copy_31 : decode cX2_copy 31 = .ok (.return_, 1) := by decide +kernel
theorem dX2_storeIn_0 : decode cX2_storeIn 0 = .ok (.aload_n 1, 1) := by decide +kernel
theorem dX2_storeIn_1 : decode cX2_storeIn 1 = .ok (.arraylength, 1) := by decide +kernel
theorem dX2_storeIn_2 : decode cX2_storeIn 2 = .ok (.bipush 49, 2) := by decide +kernel
theorem dX2_storeIn_4 : decode cX2_storeIn 4 = .ok (.if_icmp .lt 23, 3) := by decide +kernel
theorem dX2_storeIn_7 : decode cX2_storeIn 7 = .ok (.aload_n 0, 1) := by decide +kernel
theorem dX2_storeIn_8 : decode cX2_storeIn 8 = .ok (.getfield 11, 3) := by decide +kernel
theorem dX2_storeIn_11 : decode cX2_storeIn 11 = .ok (.iconst 0, 1) := by decide +kernel
theorem dX2_storeIn_12 : decode cX2_storeIn 12 = .ok (.aload_n 1, 1) := by decide +kernel
theorem dX2_storeIn_13 : decode cX2_storeIn 13 = .ok (.iconst 0, 1) := by decide +kernel
theorem dX2_storeIn_14 : decode cX2_storeIn 14 = .ok (.bipush 48, 2) := by decide +kernel
theorem dX2_storeIn_16 : decode cX2_storeIn 16 = .ok (.invokestatic 37, 3) := by decide +kernel
theorem dX2_storeIn_19 : decode cX2_storeIn 19 = .ok (.aload_n 1, 1) := by decide +kernel
theorem dX2_storeIn_20 : decode cX2_storeIn 20 = .ok (.bipush 48, 2) := by decide +kernel
theorem dX2_storeIn_22 : decode cX2_storeIn 22 = .ok (.aload_n 0, 1) := by decide +kernel
theorem dX2_storeIn_23 : decode cX2_storeIn 23 = .ok (.getfield 22, 3) := by decide +kernel
theorem dX2_storeIn_26 : decode cX2_storeIn 26 = .ok (.iastore, 1) := by decide +kernel
theorem dX2_storeIn_27 : decode cX2_storeIn 27 = .ok (.return_, 1) := by decide +kernel
theorem dX2_fetchFrom_0 : decode cX2_fetchFrom 0 = .ok (.aload_n 1, 1) := by decide +kernel
theorem dX2_fetchFrom_1 : decode cX2_fetchFrom 1 = .ok (.arraylength, 1) := by decide +kernel
theorem dX2_fetchFrom_2 : decode cX2_fetchFrom 2 = .ok (.bipush 49, 2) := by decide +kernel
theorem dX2_fetchFrom_4 : decode cX2_fetchFrom 4 = .ok (.if_icmp .lt 23, 3) := by decide +kernel
theorem dX2_fetchFrom_7 : decode cX2_fetchFrom 7 = .ok (.aload_n 1, 1) := by decide +kernel
theorem dX2_fetchFrom_8 : decode cX2_fetchFrom 8 = .ok (.iconst 0, 1) := by decide +kernel
theorem dX2_fetchFrom_9 : decode cX2_fetchFrom 9 = .ok (.aload_n 0, 1) := by decide +kernel
theorem dX2_fetchFrom_10 : decode cX2_fetchFrom 10 = .ok (.getfield 11, 3) := by decide +kernel
theorem dX2_fetchFrom_13 : decode cX2_fetchFrom 13 = .ok (.iconst 0, 1) := by decide +kernel
theorem dX2_fetchFrom_14 : decode cX2_fetchFrom 14 = .ok (.bipush 48, 2) := by decide +kernel
theorem dX2_fetchFrom_16 : decode cX2_fetchFrom 16 = .ok (.invokestatic 37, 3) := by decide +kernel
theorem dX2_fetchFrom_19 : decode cX2_fetchFrom 19 = .ok (.aload_n 0, 1) := by decide +kernel
theorem dX2_fetchFrom_20 : decode cX2_fetchFrom 20 = .ok (.aload_n 1, 1) := by decide +kernel
theorem dX2_fetchFrom_21 : decode cX2_fetchFrom 21 = .ok (.bipush 48, 2) := by decide +kernel
theorem dX2_fetchFrom_23 : decode cX2_fetchFrom 23 = .ok (.iaload, 1) := by decide +kernel
theorem dX2_fetchFrom_24 : decode cX2_fetchFrom 24 = .ok (.putfield 22, 3) := by decide +kernel
theorem dX2_fetchFrom_27 : decode cX2_fetchFrom 27 = .ok (.return_, 1) := by decide +kernel
theorem dX2_copyWithout_0 : decode cX2_copyWithout 0 = .ok (.aload_n 0, 1) := by decide +kernel
theorem dX2_copyWithout_1 : decode cX2_copyWithout 1 = .ok (.aload_n 1, 1) := by decide +kernel
theorem dX2_copyWithout_2 : decode cX2_copyWithout 2 = .ok (.invokevirtual 43, 3) := by decide +kernel
theorem dX2_copyWithout_5 : decode cX2_copyWithout 5 = .ok (.iconst 0, 1) := by decide +kernel
theorem dX2_copyWithout_6 : decode cX2_copyWithout 6 = .ok (.istore_n 3, 1) := by decide +kernel
theorem dX2_copyWithout_7 : decode cX2_copyWithout 7 = .ok (.iload_n 3, 1) := by decide +kernel
theorem dX2_copyWithout_8 : decode cX2_copyWithout 8 = .ok (.aload_n 0, 1) := by decide +kernel
theorem dX2_copyWithout_9 : decode cX2_copyWithout 9 = .ok (.getfield 18, 3) := by decide +kernel
theorem dX2_copyWithout_12 : decode cX2_copyWithout 12 = .ok (.if_icmp .ge 25, 3) := by decide +kernel
theorem dX2_copyWithout_15 : decode cX2_copyWithout 15 = .ok (.iload_n 2, 1) := by decide +kernel
theorem dX2_copyWithout_16 : decode cX2_copyWithout 16 = .ok (.iload_n 3, 1) := by decide +kernel
theorem dX2_copyWithout_17 : decode cX2_copyWithout 17 = .ok (.invokestatic 47, 3) := by decide +kernel
theorem dX2_copyWithout_20 : decode cX2_copyWithout 20 = .ok (.ifCond .eq 11, 3) := by decide +kernel
theorem dX2_copyWithout_23 : decode cX2_copyWithout 23 = .ok (.aload_n 0, 1) := by decide +kernel
theorem dX2_copyWithout_24 : decode cX2_copyWithout 24 = .ok (.iload_n 3, 1) := by decide +kernel
theorem dX2_copyWithout_25 : decode cX2_copyWithout 25 = .ok (.bipush 7, 2) := by decide +kernel
theorem dX2_copyWithout_27 : decode cX2_copyWithout 27 = .ok (.iconst 2, 1) := by decide +kernel
theorem dX2_copyWithout_28 : decode cX2_copyWithout 28 = .ok (.invokevirtual 33, 3) := by decide +kernel
theorem dX2_copyWithout_31 : decode cX2_copyWithout 31 = .ok (.iinc 3 1, 3) := by decide +kernel
theorem dX2_copyWithout_34 : decode cX2_copyWithout 34 = .ok (.goto (-27), 3) := by decide +kernel
theorem dX2_copyWithout_37 : decode cX2_copyWithout 37 = .ok (.return_, 1) := by decide +kernel
theorem dX2_passWeeks_0 : decode cX2_passWeeks 0 = .ok (.iconst 0, 1) := by decide +kernel
theorem dX2_passWeeks_1 : decode cX2_passWeeks 1 = .ok (.istore_n 2, 1) := by decide +kernel
theorem dX2_passWeeks_2 : decode cX2_passWeeks 2 = .ok (.iload_n 2, 1) := by decide +kernel
theorem dX2_passWeeks_3 : decode cX2_passWeeks 3 = .ok (.iload_n 1, 1) := by decide +kernel
theorem dX2_passWeeks_4 : decode cX2_passWeeks 4 = .ok (.if_icmp .ge 13, 3) := by decide +kernel
theorem dX2_passWeeks_7 : decode cX2_passWeeks 7 = .ok (.aload_n 0, 1) := by decide +kernel
theorem dX2_passWeeks_8 : decode cX2_passWeeks 8 = .ok (.invokevirtual 51, 3) := by decide +kernel
theorem dX2_passWeeks_11 : decode cX2_passWeeks 11 = .ok (.iinc 2 1, 3) := by decide +kernel
theorem dX2_passWeeks_14 : decode cX2_passWeeks 14 = .ok (.goto (-12), 3) := by decide +kernel
theorem dX2_passWeeks_17 : decode cX2_passWeeks 17 = .ok (.return_, 1) := by decide +kernel
theorem dX2_passWeek_0 : decode cX2_passWeek 0 = .ok (.aload_n 0, 1) := by decide +kernel
theorem dX2_passWeek_1 : decode cX2_passWeek 1 = .ok (.getfield 22, 3) := by decide +kernel
theorem dX2_passWeek_4 : decode cX2_passWeek 4 = .ok (.iconst 2, 1) := by decide +kernel
theorem dX2_passWeek_5 : decode cX2_passWeek 5 = .ok (.irem, 1) := by decide +kernel
theorem dX2_passWeek_6 : decode cX2_passWeek 6 = .ok (.ifCond .ne 7, 3) := by decide +kernel
theorem dX2_passWeek_9 : decode cX2_passWeek 9 = .ok (.iconst 1, 1) := by decide +kernel
theorem dX2_passWeek_10 : decode cX2_passWeek 10 = .ok (.goto 4, 3) := by decide +kernel
theorem dX2_passWeek_13 : decode cX2_passWeek 13 = .ok (.iconst 0, 1) := by decide +kernel
theorem dX2_passWeek_14 : decode cX2_passWeek 14 = .ok (.istore_n 1, 1) := by decide +kernel
theorem dX2_passWeek_15 : decode cX2_passWeek 15 = .ok (.iconst 0, 1) := by decide +kernel
theorem dX2_passWeek_16 : decode cX2_passWeek 16 = .ok (.istore_n 2, 1) := by decide +kernel
theorem dX2_passWeek_17 : decode cX2_passWeek 17 = .ok (.iload_n 2, 1) := by decide +kernel
theorem dX2_passWeek_18 : decode cX2_passWeek 18 = .ok (.aload_n 0, 1) := by decide +kernel
theorem dX2_passWeek_19 : decode cX2_passWeek 19 = .ok (.getfield 18, 3) := by decide +kernel
theorem dX2_passWeek_22 : decode cX2_passWeek 22 = .ok (.if_icmp .ge 23, 3) := by decide +kernel
theorem dX2_passWeek_25 : decode cX2_passWeek 25 = .ok (.aload_n 0, 1) := by decide +kernel
theorem dX2_passWeek_26 : decode cX2_passWeek 26 = .ok (.iload_n 2, 1) := by decide +kernel
theorem dX2_passWeek_27 : decode cX2_passWeek 27 = .ok (.invokevirtual 54, 3) := by decide +kernel
theorem dX2_passWeek_30 : decode cX2_passWeek 30 = .ok (.ifCond .eq 9, 3) := by decide +kernel
theorem dX2_passWeek_33 : decode cX2_passWeek 33 = .ok (.aload_n 0, 1) := by decide +kernel
theorem dX2_passWeek_34 : decode cX2_passWeek 34 = .ok (.iload_n 2, 1) := by decide +kernel
theorem dX2_passWeek_35 : decode cX2_passWeek 35 = .ok (.iload_n 1, 1) := by decide +kernel
theorem dX2_passWeek_36 : decode cX2_passWeek 36 = .ok (.invokevirtual 57, 3) := by decide +kernel
theorem dX2_passWeek_39 : decode cX2_passWeek 39 = .ok (.iinc 2 1, 3) := by decide +kernel
theorem dX2_passWeek_42 : decode cX2_passWeek 42 = .ok (.goto (-25), 3) := by decide +kernel
theorem dX2_passWeek_45 : decode cX2_passWeek 45 = .ok (.aload_n 0, 1) := by decide +kernel
theorem dX2_passWeek_46 : decode cX2_passWeek 46 = .ok (.dup, 1) := by decide +kernel
theorem dX2_passWeek_47 : decode cX2_passWeek 47 = .ok (.getfield 22, 3) := by decide +kernel
theorem dX2_passWeek_50 : decode cX2_passWeek 50 = .ok (.iconst 1, 1) := by decide +kernel
theorem dX2_passWeek_51 : decode cX2_passWeek 51 = .ok (.iadd, 1) := by decide +kernel
theorem dX2_passWeek_52 : decode cX2_passWeek 52 = .ok (.putfield 22, 3) := by decide +kernel
theorem dX2_passWeek_55 : decode cX2_passWeek 55 = .ok (.return_, 1) := by decide +kernel
theorem dX2_passWeekIn_0 : decode cX2_passWeekIn 0 = .ok (.aload_n 0, 1) := by decide +kernel
theorem dX2_passWeekIn_1 : decode cX2_passWeekIn 1 = .ok (.iload_n 1, 1) := by decide +kernel
theorem dX2_passWeekIn_2 : decode cX2_passWeekIn 2 = .ok (.iconst 3, 1) := by decide +kernel
theorem dX2_passWeekIn_3 : decode cX2_passWeekIn 3 = .ok (.invokevirtual 29, 3) := by decide +kernel
theorem dX2_passWeekIn_6 : decode cX2_passWeekIn 6 = .ok (.istore_n 3, 1) := by decide +kernel
theorem dX2_passWeekIn_7 : decode cX2_passWeekIn 7 = .ok (.iload_n 2, 1) := by decide +kernel
theorem dX2_passWeekIn_8 : decode cX2_passWeekIn 8 = .ok (.ifCond .ne 8, 3) := by decide +kernel
theorem dX2_passWeekIn_11 : decode cX2_passWeekIn 11 = .ok (.iload_n 3, 1) := by decide +kernel
theorem dX2_passWeekIn_12 : decode cX2_passWeekIn 12 = .ok (.iconst 3, 1) := by decide +kernel
theorem dX2_passWeekIn_13 : decode cX2_passWeekIn 13 = .ok (.if_icmp .eq 24, 3) := by decide +kernel
theorem dX2_passWeekIn_16 : decode cX2_passWeekIn 16 = .ok (.aload_n 0, 1) := by decide +kernel
theorem dX2_passWeekIn_17 : decode cX2_passWeekIn 17 = .ok (.iload_n 1, 1) := by decide +kernel
theorem dX2_passWeekIn_18 : decode cX2_passWeekIn 18 = .ok (.iconst 1, 1) := by decide +kernel
theorem dX2_passWeekIn_19 : decode cX2_passWeekIn 19 = .ok (.aload_n 0, 1) := by decide +kernel
theorem dX2_passWeekIn_20 : decode cX2_passWeekIn 20 = .ok (.iload_n 1, 1) := by decide +kernel
theorem dX2_passWeekIn_21 : decode cX2_passWeekIn 21 = .ok (.iconst 1, 1) := by decide +kernel
theorem dX2_passWeekIn_22 : decode cX2_passWeekIn 22 = .ok (.invokevirtual 29, 3) := by decide +kernel
theorem dX2_passWeekIn_25 : decode cX2_passWeekIn 25 = .ok (.aload_n 0, 1) := by decide +kernel
theorem dX2_passWeekIn_26 : decode cX2_passWeekIn 26 = .ok (.iload_n 1, 1) := by decide +kernel
theorem dX2_passWeekIn_27 : decode cX2_passWeekIn 27 = .ok (.iconst 2, 1) := by decide +kernel
theorem dX2_passWeekIn_28 : decode cX2_passWeekIn 28 = .ok (.invokevirtual 29, 3) := by decide +kernel
theorem dX2_passWeekIn_31 : decode cX2_passWeekIn 31 = .ok (.invokestatic 61, 3) := by decide +kernel
theorem dX2_passWeekIn_34 : decode cX2_passWeekIn 34 = .ok (.invokevirtual 33, 3) := by decide +kernel
theorem dX2_passWeekIn_37 : decode cX2_passWeekIn 37 = .ok (.iload_n 2, 1) := by decide +kernel
theorem dX2_passWeekIn_38 : decode cX2_passWeekIn 38 = .ok (.ifCond .ne 27, 3) := by decide +kernel
theorem dX2_passWeekIn_41 : decode cX2_passWeekIn 41 = .ok (.iload_n 3, 1) := by decide +kernel
theorem dX2_passWeekIn_42 : decode cX2_passWeekIn 42 = .ok (.iconst 2, 1) := by decide +kernel
theorem dX2_passWeekIn_43 : decode cX2_passWeekIn 43 = .ok (.if_icmp .eq 22, 3) := by decide +kernel
theorem dX2_passWeekIn_46 : decode cX2_passWeekIn 46 = .ok (.aload_n 0, 1) := by decide +kernel
theorem dX2_passWeekIn_47 : decode cX2_passWeekIn 47 = .ok (.iload_n 1, 1) := by decide +kernel
theorem dX2_passWeekIn_48 : decode cX2_passWeekIn 48 = .ok (.iconst 5, 1) := by decide +kernel
theorem dX2_passWeekIn_49 : decode cX2_passWeekIn 49 = .ok (.aload_n 0, 1) := by decide +kernel
theorem dX2_passWeekIn_50 : decode cX2_passWeekIn 50 = .ok (.iload_n 1, 1) := by decide +kernel
theorem dX2_passWeekIn_51 : decode cX2_passWeekIn 51 = .ok (.iconst 5, 1) := by decide +kernel
theorem dX2_passWeekIn_52 : decode cX2_passWeekIn 52 = .ok (.invokevirtual 29, 3) := by decide +kernel
theorem dX2_passWeekIn_55 : decode cX2_passWeekIn 55 = .ok (.iconst 1, 1) := by decide +kernel
theorem dX2_passWeekIn_56 : decode cX2_passWeekIn 56 = .ok (.iadd, 1) := by decide +kernel
theorem dX2_passWeekIn_57 : decode cX2_passWeekIn 57 = .ok (.bipush 9, 2) := by decide +kernel
theorem dX2_passWeekIn_59 : decode cX2_passWeekIn 59 = .ok (.invokestatic 64, 3) := by decide +kernel
theorem dX2_passWeekIn_62 : decode cX2_passWeekIn 62 = .ok (.invokevirtual 33, 3) := by decide +kernel
theorem dX2_passWeekIn_65 : decode cX2_passWeekIn 65 = .ok (.iload_n 3, 1) := by decide +kernel
theorem dX2_passWeekIn_66 : decode cX2_passWeekIn 66 = .ok (.iconst 1, 1) := by decide +kernel
theorem dX2_passWeekIn_67 : decode cX2_passWeekIn 67 = .ok (.if_icmp .ne 8, 3) := by decide +kernel
theorem dX2_passWeekIn_70 : decode cX2_passWeekIn 70 = .ok (.aload_n 0, 1) := by decide +kernel
theorem dX2_passWeekIn_71 : decode cX2_passWeekIn 71 = .ok (.iload_n 1, 1) := by decide +kernel
theorem dX2_passWeekIn_72 : decode cX2_passWeekIn 72 = .ok (.invokevirtual 69, 3) := by decide +kernel
theorem dX2_passWeekIn_75 : decode cX2_passWeekIn 75 = .ok (.return_, 1) := by decide +kernel
theorem dX2_lookOn_0 : decode cX2_lookOn 0 = .ok (.aload_n 0, 1) := by decide +kernel
theorem dX2_lookOn_1 : decode cX2_lookOn 1 = .ok (.iload_n 1, 1) := by decide +kernel
theorem dX2_lookOn_2 : decode cX2_lookOn 2 = .ok (.bipush 6, 2) := by decide +kernel
theorem dX2_lookOn_4 : decode cX2_lookOn 4 = .ok (.aload_n 0, 1) := by decide +kernel
theorem dX2_lookOn_5 : decode cX2_lookOn 5 = .ok (.iload_n 1, 1) := by decide +kernel
theorem dX2_lookOn_6 : decode cX2_lookOn 6 = .ok (.bipush 6, 2) := by decide +kernel
theorem dX2_lookOn_8 : decode cX2_lookOn 8 = .ok (.invokevirtual 29, 3) := by decide +kernel
theorem dX2_lookOn_11 : decode cX2_lookOn 11 = .ok (.iconst 1, 1) := by decide +kernel
theorem dX2_lookOn_12 : decode cX2_lookOn 12 = .ok (.iadd, 1) := by decide +kernel
theorem dX2_lookOn_13 : decode cX2_lookOn 13 = .ok (.iconst 4, 1) := by decide +kernel
theorem dX2_lookOn_14 : decode cX2_lookOn 14 = .ok (.irem, 1) := by decide +kernel
theorem dX2_lookOn_15 : decode cX2_lookOn 15 = .ok (.invokevirtual 33, 3) := by decide +kernel
theorem dX2_lookOn_18 : decode cX2_lookOn 18 = .ok (.return_, 1) := by decide +kernel
theorem dX2_rattle_0 : decode cX2_rattle 0 = .ok (.iconst 0, 1) := by decide +kernel
theorem dX2_rattle_1 : decode cX2_rattle 1 = .ok (.istore_n 1, 1) := by decide +kernel
theorem dX2_rattle_2 : decode cX2_rattle 2 = .ok (.iconst 0, 1) := by decide +kernel
theorem dX2_rattle_3 : decode cX2_rattle 3 = .ok (.istore_n 2, 1) := by decide +kernel
theorem dX2_rattle_4 : decode cX2_rattle 4 = .ok (.iload_n 2, 1) := by decide +kernel
theorem dX2_rattle_5 : decode cX2_rattle 5 = .ok (.aload_n 0, 1) := by decide +kernel
theorem dX2_rattle_6 : decode cX2_rattle 6 = .ok (.getfield 18, 3) := by decide +kernel
theorem dX2_rattle_9 : decode cX2_rattle 9 = .ok (.if_icmp .ge 54, 3) := by decide +kernel
theorem dX2_rattle_12 : decode cX2_rattle 12 = .ok (.aload_n 0, 1) := by decide +kernel
theorem dX2_rattle_13 : decode cX2_rattle 13 = .ok (.iload_n 2, 1) := by decide +kernel
theorem dX2_rattle_14 : decode cX2_rattle 14 = .ok (.invokevirtual 73, 3) := by decide +kernel
theorem dX2_rattle_17 : decode cX2_rattle 17 = .ok (.ifCond .eq 17, 3) := by decide +kernel
theorem dX2_rattle_20 : decode cX2_rattle 20 = .ok (.aload_n 0, 1) := by decide +kernel
theorem dX2_rattle_21 : decode cX2_rattle 21 = .ok (.iload_n 2, 1) := by decide +kernel
theorem dX2_rattle_22 : decode cX2_rattle 22 = .ok (.bipush 7, 2) := by decide +kernel
theorem dX2_rattle_24 : decode cX2_rattle 24 = .ok (.iconst 1, 1) := by decide +kernel
theorem dX2_rattle_25 : decode cX2_rattle 25 = .ok (.invokevirtual 33, 3) := by decide +kernel
theorem dX2_rattle_28 : decode cX2_rattle 28 = .ok (.iinc 1 1, 3) := by decide +kernel
theorem dX2_rattle_31 : decode cX2_rattle 31 = .ok (.goto 26, 3) := by decide +kernel
theorem dX2_rattle_34 : decode cX2_rattle 34 = .ok (.aload_n 0, 1) := by decide +kernel
theorem dX2_rattle_35 : decode cX2_rattle 35 = .ok (.iload_n 2, 1) := by decide +kernel
theorem dX2_rattle_36 : decode cX2_rattle 36 = .ok (.invokevirtual 54, 3) := by decide +kernel
theorem dX2_rattle_39 : decode cX2_rattle 39 = .ok (.ifCond .eq 18, 3) := by decide +kernel
theorem dX2_rattle_42 : decode cX2_rattle 42 = .ok (.aload_n 0, 1) := by decide +kernel
theorem dX2_rattle_43 : decode cX2_rattle 43 = .ok (.iload_n 2, 1) := by decide +kernel
theorem dX2_rattle_44 : decode cX2_rattle 44 = .ok (.iconst 3, 1) := by decide +kernel
theorem dX2_rattle_45 : decode cX2_rattle 45 = .ok (.invokevirtual 29, 3) := by decide +kernel
theorem dX2_rattle_48 : decode cX2_rattle 48 = .ok (.iconst 3, 1) := by decide +kernel
theorem dX2_rattle_49 : decode cX2_rattle 49 = .ok (.if_icmp .eq 8, 3) := by decide +kernel
theorem dX2_rattle_52 : decode cX2_rattle 52 = .ok (.aload_n 0, 1) := by decide +kernel
theorem dX2_rattle_53 : decode cX2_rattle 53 = .ok (.iload_n 2, 1) := by decide +kernel
theorem dX2_rattle_54 : decode cX2_rattle 54 = .ok (.invokevirtual 69, 3) := by decide +kernel
theorem dX2_rattle_57 : decode cX2_rattle 57 = .ok (.iinc 2 1, 3) := by decide +kernel
theorem dX2_rattle_60 : decode cX2_rattle 60 = .ok (.goto (-56), 3) := by decide +kernel
theorem dX2_rattle_63 : decode cX2_rattle 63 = .ok (.iload_n 1, 1) := by decide +kernel
theorem dX2_rattle_64 : decode cX2_rattle 64 = .ok (.ireturn, 1) := by decide +kernel
theorem dX2_wouldCrack_0 : decode cX2_wouldCrack 0 = .ok (.aload_n 0, 1) := by decide +kernel
theorem dX2_wouldCrack_1 : decode cX2_wouldCrack 1 = .ok (.iload_n 1, 1) := by decide +kernel
theorem dX2_wouldCrack_2 : decode cX2_wouldCrack 2 = .ok (.invokevirtual 54, 3) := by decide +kernel
theorem dX2_wouldCrack_5 : decode cX2_wouldCrack 5 = .ok (.ifCond .eq 22, 3) := by decide +kernel
theorem dX2_wouldCrack_8 : decode cX2_wouldCrack 8 = .ok (.aload_n 0, 1) := by decide +kernel
theorem dX2_wouldCrack_9 : decode cX2_wouldCrack 9 = .ok (.iload_n 1, 1) := by decide +kernel
theorem dX2_wouldCrack_10 : decode cX2_wouldCrack 10 = .ok (.iconst 4, 1) := by decide +kernel
theorem dX2_wouldCrack_11 : decode cX2_wouldCrack 11 = .ok (.invokevirtual 29, 3) := by decide +kernel
theorem dX2_wouldCrack_14 : decode cX2_wouldCrack 14 = .ok (.aload_n 0, 1) := by decide +kernel
theorem dX2_wouldCrack_15 : decode cX2_wouldCrack 15 = .ok (.iload_n 1, 1) := by decide +kernel
theorem dX2_wouldCrack_16 : decode cX2_wouldCrack 16 = .ok (.iconst 5, 1) := by decide +kernel
theorem dX2_wouldCrack_17 : decode cX2_wouldCrack 17 = .ok (.invokevirtual 29, 3) := by decide +kernel
theorem dX2_wouldCrack_20 : decode cX2_wouldCrack 20 = .ok (.if_icmp .ge 7, 3) := by decide +kernel
theorem dX2_wouldCrack_23 : decode cX2_wouldCrack 23 = .ok (.iconst 1, 1) := by decide +kernel
theorem dX2_wouldCrack_24 : decode cX2_wouldCrack 24 = .ok (.goto 4, 3) := by decide +kernel
theorem dX2_wouldCrack_27 : decode cX2_wouldCrack 27 = .ok (.iconst 0, 1) := by decide +kernel
theorem dX2_wouldCrack_28 : decode cX2_wouldCrack 28 = .ok (.ireturn, 1) := by decide +kernel
theorem dX2_canStand_0 : decode cX2_canStand 0 = .ok (.aload_n 0, 1) := by decide +kernel
theorem dX2_canStand_1 : decode cX2_canStand 1 = .ok (.iload_n 1, 1) := by decide +kernel
theorem dX2_canStand_2 : decode cX2_canStand 2 = .ok (.invokevirtual 54, 3) := by decide +kernel
theorem dX2_canStand_5 : decode cX2_canStand 5 = .ok (.ifCond .eq 24, 3) := by decide +kernel
theorem dX2_canStand_8 : decode cX2_canStand 8 = .ok (.iload_n 2, 1) := by decide +kernel
theorem dX2_canStand_9 : decode cX2_canStand 9 = .ok (.invokestatic 76, 3) := by decide +kernel
theorem dX2_canStand_12 : decode cX2_canStand 12 = .ok (.ifCond .eq 17, 3) := by decide +kernel
theorem dX2_canStand_15 : decode cX2_canStand 15 = .ok (.aload_n 0, 1) := by decide +kernel
theorem dX2_canStand_16 : decode cX2_canStand 16 = .ok (.iload_n 2, 1) := by decide +kernel
theorem dX2_canStand_17 : decode cX2_canStand 17 = .ok (.invokevirtual 79, 3) := by decide +kernel
theorem dX2_canStand_20 : decode cX2_canStand 20 = .ok (.bipush (-9), 2) := by decide +kernel
theorem dX2_canStand_22 : decode cX2_canStand 22 = .ok (.if_icmp .ne 7, 3) := by decide +kernel
theorem dX2_canStand_25 : decode cX2_canStand 25 = .ok (.iconst 1, 1) := by decide +kernel
theorem dX2_canStand_26 : decode cX2_canStand 26 = .ok (.goto 4, 3) := by decide +kernel
theorem dX2_canStand_29 : decode cX2_canStand 29 = .ok (.iconst 0, 1) := by decide +kernel
theorem dX2_canStand_30 : decode cX2_canStand 30 = .ok (.ireturn, 1) := by decide +kernel
theorem dX2_stand_0 : decode cX2_stand 0 = .ok (.aload_n 0, 1) := by decide +kernel
theorem dX2_stand_1 : decode cX2_stand 1 = .ok (.iload_n 1, 1) := by decide +kernel
theorem dX2_stand_2 : decode cX2_stand 2 = .ok (.iconst 0, 1) := by decide +kernel
theorem dX2_stand_3 : decode cX2_stand 3 = .ok (.iload_n 2, 1) := by decide +kernel
theorem dX2_stand_4 : decode cX2_stand 4 = .ok (.invokevirtual 33, 3) := by decide +kernel
theorem dX2_stand_7 : decode cX2_stand 7 = .ok (.return_, 1) := by decide +kernel
theorem dX2_canFill_0 : decode cX2_canFill 0 = .ok (.aload_n 0, 1) := by decide +kernel
theorem dX2_canFill_1 : decode cX2_canFill 1 = .ok (.iload_n 1, 1) := by decide +kernel
theorem dX2_canFill_2 : decode cX2_canFill 2 = .ok (.invokevirtual 54, 3) := by decide +kernel
theorem dX2_canFill_5 : decode cX2_canFill 5 = .ok (.ifCond .eq 24, 3) := by decide +kernel
theorem dX2_canFill_8 : decode cX2_canFill 8 = .ok (.iload_n 2, 1) := by decide +kernel
theorem dX2_canFill_9 : decode cX2_canFill 9 = .ok (.invokestatic 83, 3) := by decide +kernel
theorem dX2_canFill_12 : decode cX2_canFill 12 = .ok (.ifCond .eq 17, 3) := by decide +kernel
theorem dX2_canFill_15 : decode cX2_canFill 15 = .ok (.aload_n 0, 1) := by decide +kernel
theorem dX2_canFill_16 : decode cX2_canFill 16 = .ok (.iload_n 1, 1) := by decide +kernel
theorem dX2_canFill_17 : decode cX2_canFill 17 = .ok (.iconst 2, 1) := by decide +kernel
theorem dX2_canFill_18 : decode cX2_canFill 18 = .ok (.invokevirtual 29, 3) := by decide +kernel
theorem dX2_canFill_21 : decode cX2_canFill 21 = .ok (.iload_n 2, 1) := by decide +kernel
theorem dX2_canFill_22 : decode cX2_canFill 22 = .ok (.if_icmp .eq 7, 3) := by decide +kernel
theorem dX2_canFill_25 : decode cX2_canFill 25 = .ok (.iconst 1, 1) := by decide +kernel
theorem dX2_canFill_26 : decode cX2_canFill 26 = .ok (.goto 4, 3) := by decide +kernel
theorem dX2_canFill_29 : decode cX2_canFill 29 = .ok (.iconst 0, 1) := by decide +kernel
theorem dX2_canFill_30 : decode cX2_canFill 30 = .ok (.ireturn, 1) := by decide +kernel
theorem dX2_fill_0 : decode cX2_fill 0 = .ok (.aload_n 0, 1) := by decide +kernel
theorem dX2_fill_1 : decode cX2_fill 1 = .ok (.iload_n 1, 1) := by decide +kernel
theorem dX2_fill_2 : decode cX2_fill 2 = .ok (.iconst 2, 1) := by decide +kernel
theorem dX2_fill_3 : decode cX2_fill 3 = .ok (.iload_n 2, 1) := by decide +kernel
theorem dX2_fill_4 : decode cX2_fill 4 = .ok (.invokevirtual 33, 3) := by decide +kernel
theorem dX2_fill_7 : decode cX2_fill 7 = .ok (.aload_n 0, 1) := by decide +kernel
theorem dX2_fill_8 : decode cX2_fill 8 = .ok (.iload_n 1, 1) := by decide +kernel
theorem dX2_fill_9 : decode cX2_fill 9 = .ok (.iconst 5, 1) := by decide +kernel
theorem dX2_fill_10 : decode cX2_fill 10 = .ok (.iconst 0, 1) := by decide +kernel
theorem dX2_fill_11 : decode cX2_fill 11 = .ok (.invokevirtual 33, 3) := by decide +kernel
theorem dX2_fill_14 : decode cX2_fill 14 = .ok (.return_, 1) := by decide +kernel
theorem dX2_letOut_0 : decode cX2_letOut 0 = .ok (.aload_n 0, 1) := by decide +kernel
theorem dX2_letOut_1 : decode cX2_letOut 1 = .ok (.iload_n 1, 1) := by decide +kernel
theorem dX2_letOut_2 : decode cX2_letOut 2 = .ok (.bipush 7, 2) := by decide +kernel
theorem dX2_letOut_4 : decode cX2_letOut 4 = .ok (.iconst 2, 1) := by decide +kernel
theorem dX2_letOut_5 : decode cX2_letOut 5 = .ok (.invokevirtual 33, 3) := by decide +kernel
theorem dX2_letOut_8 : decode cX2_letOut 8 = .ok (.return_, 1) := by decide +kernel
theorem dX2_turn_0 : decode cX2_turn 0 = .ok (.aload_n 0, 1) := by decide +kernel
theorem dX2_turn_1 : decode cX2_turn 1 = .ok (.iload_n 1, 1) := by decide +kernel
theorem dX2_turn_2 : decode cX2_turn 2 = .ok (.bipush 6, 2) := by decide +kernel
theorem dX2_turn_4 : decode cX2_turn 4 = .ok (.iload_n 2, 1) := by decide +kernel
theorem dX2_turn_5 : decode cX2_turn 5 = .ok (.invokevirtual 33, 3) := by decide +kernel
theorem dX2_turn_8 : decode cX2_turn 8 = .ok (.return_, 1) := by decide +kernel
theorem dX2_tryWeek_0 : decode cX2_tryWeek 0 = .ok (.aload_n 0, 1) := by decide +kernel
theorem dX2_tryWeek_1 : decode cX2_tryWeek 1 = .ok (.invokevirtual 51, 3) := by decide +kernel
theorem dX2_tryWeek_4 : decode cX2_tryWeek 4 = .ok (.iconst 1, 1) := by decide +kernel
theorem dX2_tryWeek_5 : decode cX2_tryWeek 5 = .ok (.ireturn, 1) := by decide +kernel
theorem dX2_tryShake_0 : decode cX2_tryShake 0 = .ok (.aload_n 0, 1) := by decide +kernel
theorem dX2_tryShake_1 : decode cX2_tryShake 1 = .ok (.invokevirtual 86, 3) := by decide +kernel
theorem dX2_tryShake_4 : decode cX2_tryShake 4 = .ok (.pop, 1) := by decide +kernel
theorem dX2_tryShake_5 : decode cX2_tryShake 5 = .ok (.iconst 1, 1) := by decide +kernel
theorem dX2_tryShake_6 : decode cX2_tryShake 6 = .ok (.ireturn, 1) := by decide +kernel
theorem dX2_tryStand_0 : decode cX2_tryStand 0 = .ok (.aload_n 0, 1) := by decide +kernel
theorem dX2_tryStand_1 : decode cX2_tryStand 1 = .ok (.iload_n 1, 1) := by decide +kernel
theorem dX2_tryStand_2 : decode cX2_tryStand 2 = .ok (.iload_n 2, 1) := by decide +kernel
theorem dX2_tryStand_3 : decode cX2_tryStand 3 = .ok (.invokevirtual 90, 3) := by decide +kernel
theorem dX2_tryStand_6 : decode cX2_tryStand 6 = .ok (.istore_n 3, 1) := by decide +kernel
theorem dX2_tryStand_7 : decode cX2_tryStand 7 = .ok (.iload_n 3, 1) := by decide +kernel
theorem dX2_tryStand_8 : decode cX2_tryStand 8 = .ok (.ifCond .eq 9, 3) := by decide +kernel
theorem dX2_tryStand_11 : decode cX2_tryStand 11 = .ok (.aload_n 0, 1) := by decide +kernel
theorem dX2_tryStand_12 : decode cX2_tryStand 12 = .ok (.iload_n 1, 1) := by decide +kernel
theorem dX2_tryStand_13 : decode cX2_tryStand 13 = .ok (.iload_n 2, 1) := by decide +kernel
theorem dX2_tryStand_14 : decode cX2_tryStand 14 = .ok (.invokevirtual 93, 3) := by decide +kernel
theorem dX2_tryStand_17 : decode cX2_tryStand 17 = .ok (.iload_n 3, 1) := by decide +kernel
theorem dX2_tryStand_18 : decode cX2_tryStand 18 = .ok (.ireturn, 1) := by decide +kernel
theorem dX2_tryFill_0 : decode cX2_tryFill 0 = .ok (.aload_n 0, 1) := by decide +kernel
theorem dX2_tryFill_1 : decode cX2_tryFill 1 = .ok (.iload_n 1, 1) := by decide +kernel
theorem dX2_tryFill_2 : decode cX2_tryFill 2 = .ok (.iload_n 2, 1) := by decide +kernel
theorem dX2_tryFill_3 : decode cX2_tryFill 3 = .ok (.invokevirtual 97, 3) := by decide +kernel
theorem dX2_tryFill_6 : decode cX2_tryFill 6 = .ok (.istore_n 3, 1) := by decide +kernel
theorem dX2_tryFill_7 : decode cX2_tryFill 7 = .ok (.iload_n 3, 1) := by decide +kernel
theorem dX2_tryFill_8 : decode cX2_tryFill 8 = .ok (.ifCond .eq 9, 3) := by decide +kernel
theorem dX2_tryFill_11 : decode cX2_tryFill 11 = .ok (.aload_n 0, 1) := by decide +kernel
theorem dX2_tryFill_12 : decode cX2_tryFill 12 = .ok (.iload_n 1, 1) := by decide +kernel
theorem dX2_tryFill_13 : decode cX2_tryFill 13 = .ok (.iload_n 2, 1) := by decide +kernel
theorem dX2_tryFill_14 : decode cX2_tryFill 14 = .ok (.invokevirtual 100, 3) := by decide +kernel
theorem dX2_tryFill_17 : decode cX2_tryFill 17 = .ok (.iload_n 3, 1) := by decide +kernel
theorem dX2_tryFill_18 : decode cX2_tryFill 18 = .ok (.ireturn, 1) := by decide +kernel
theorem dX2_tryLetOut_0 : decode cX2_tryLetOut 0 = .ok (.aload_n 0, 1) := by decide +kernel
theorem dX2_tryLetOut_1 : decode cX2_tryLetOut 1 = .ok (.iload_n 1, 1) := by decide +kernel
theorem dX2_tryLetOut_2 : decode cX2_tryLetOut 2 = .ok (.invokevirtual 54, 3) := by decide +kernel
theorem dX2_tryLetOut_5 : decode cX2_tryLetOut 5 = .ok (.istore_n 2, 1) := by decide +kernel
theorem dX2_tryLetOut_6 : decode cX2_tryLetOut 6 = .ok (.iload_n 2, 1) := by decide +kernel
theorem dX2_tryLetOut_7 : decode cX2_tryLetOut 7 = .ok (.ifCond .eq 8, 3) := by decide +kernel
theorem dX2_tryLetOut_10 : decode cX2_tryLetOut 10 = .ok (.aload_n 0, 1) := by decide +kernel
theorem dX2_tryLetOut_11 : decode cX2_tryLetOut 11 = .ok (.iload_n 1, 1) := by decide +kernel
theorem dX2_tryLetOut_12 : decode cX2_tryLetOut 12 = .ok (.invokevirtual 103, 3) := by decide +kernel
theorem dX2_tryLetOut_15 : decode cX2_tryLetOut 15 = .ok (.iload_n 2, 1) := by decide +kernel
theorem dX2_tryLetOut_16 : decode cX2_tryLetOut 16 = .ok (.ireturn, 1) := by decide +kernel
theorem dX2_jarOn_0 : decode cX2_jarOn 0 = .ok (.iconst 0, 1) := by decide +kernel
theorem dX2_jarOn_1 : decode cX2_jarOn 1 = .ok (.istore_n 2, 1) := by decide +kernel
theorem dX2_jarOn_2 : decode cX2_jarOn 2 = .ok (.iload_n 2, 1) := by decide +kernel
theorem dX2_jarOn_3 : decode cX2_jarOn 3 = .ok (.aload_n 0, 1) := by decide +kernel
theorem dX2_jarOn_4 : decode cX2_jarOn 4 = .ok (.getfield 18, 3) := by decide +kernel
theorem dX2_jarOn_7 : decode cX2_jarOn 7 = .ok (.if_icmp .ge 32, 3) := by decide +kernel
theorem dX2_jarOn_10 : decode cX2_jarOn 10 = .ok (.aload_n 0, 1) := by decide +kernel
theorem dX2_jarOn_11 : decode cX2_jarOn 11 = .ok (.iload_n 2, 1) := by decide +kernel
theorem dX2_jarOn_12 : decode cX2_jarOn 12 = .ok (.iconst 0, 1) := by decide +kernel
theorem dX2_jarOn_13 : decode cX2_jarOn 13 = .ok (.invokevirtual 29, 3) := by decide +kernel
theorem dX2_jarOn_16 : decode cX2_jarOn 16 = .ok (.iload_n 1, 1) := by decide +kernel
theorem dX2_jarOn_17 : decode cX2_jarOn 17 = .ok (.if_icmp .ne 16, 3) := by decide +kernel
theorem dX2_jarOn_20 : decode cX2_jarOn 20 = .ok (.aload_n 0, 1) := by decide +kernel
theorem dX2_jarOn_21 : decode cX2_jarOn 21 = .ok (.iload_n 2, 1) := by decide +kernel
theorem dX2_jarOn_22 : decode cX2_jarOn 22 = .ok (.bipush 7, 2) := by decide +kernel
theorem dX2_jarOn_24 : decode cX2_jarOn 24 = .ok (.invokevirtual 29, 3) := by decide +kernel
theorem dX2_jarOn_27 : decode cX2_jarOn 27 = .ok (.iconst 2, 1) := by decide +kernel
theorem dX2_jarOn_28 : decode cX2_jarOn 28 = .ok (.if_icmp .eq 5, 3) := by decide +kernel
theorem dX2_jarOn_31 : decode cX2_jarOn 31 = .ok (.iload_n 2, 1) := by decide +kernel
theorem dX2_jarOn_32 : decode cX2_jarOn 32 = .ok (.ireturn, 1) := by decide +kernel
theorem dX2_jarOn_33 : decode cX2_jarOn 33 = .ok (.iinc 2 1, 3) := by decide +kernel
theorem dX2_jarOn_36 : decode cX2_jarOn 36 = .ok (.goto (-34), 3) := by decide +kernel
theorem dX2_jarOn_39 : decode cX2_jarOn 39 = .ok (.bipush (-9), 2) := by decide +kernel
theorem dX2_jarOn_41 : decode cX2_jarOn 41 = .ok (.ireturn, 1) := by decide +kernel
theorem dX2_bitsOf_0 : decode cX2_bitsOf 0 = .ok (.iconst 0, 1) := by decide +kernel
theorem dX2_bitsOf_1 : decode cX2_bitsOf 1 = .ok (.istore_n 2, 1) := by decide +kernel
theorem dX2_bitsOf_2 : decode cX2_bitsOf 2 = .ok (.iconst 0, 1) := by decide +kernel
theorem dX2_bitsOf_3 : decode cX2_bitsOf 3 = .ok (.istore_n 3, 1) := by decide +kernel
theorem dX2_bitsOf_4 : decode cX2_bitsOf 4 = .ok (.iload_n 3, 1) := by decide +kernel
theorem dX2_bitsOf_5 : decode cX2_bitsOf 5 = .ok (.aload_n 0, 1) := by decide +kernel
theorem dX2_bitsOf_6 : decode cX2_bitsOf 6 = .ok (.getfield 18, 3) := by decide +kernel
theorem dX2_bitsOf_9 : decode cX2_bitsOf 9 = .ok (.if_icmp .ge 26, 3) := by decide +kernel
theorem dX2_bitsOf_12 : decode cX2_bitsOf 12 = .ok (.aload_n 0, 1) := by decide +kernel
theorem dX2_bitsOf_13 : decode cX2_bitsOf 13 = .ok (.iload_n 3, 1) := by decide +kernel
theorem dX2_bitsOf_14 : decode cX2_bitsOf 14 = .ok (.bipush 7, 2) := by decide +kernel
theorem dX2_bitsOf_16 : decode cX2_bitsOf 16 = .ok (.invokevirtual 29, 3) := by decide +kernel
theorem dX2_bitsOf_19 : decode cX2_bitsOf 19 = .ok (.iload_n 1, 1) := by decide +kernel
theorem dX2_bitsOf_20 : decode cX2_bitsOf 20 = .ok (.if_icmp .ne 9, 3) := by decide +kernel
theorem dX2_bitsOf_23 : decode cX2_bitsOf 23 = .ok (.iload_n 2, 1) := by decide +kernel
theorem dX2_bitsOf_24 : decode cX2_bitsOf 24 = .ok (.iconst 1, 1) := by decide +kernel
theorem dX2_bitsOf_25 : decode cX2_bitsOf 25 = .ok (.iload_n 3, 1) := by decide +kernel
theorem dX2_bitsOf_26 : decode cX2_bitsOf 26 = .ok (.ishl, 1) := by decide +kernel
theorem dX2_bitsOf_27 : decode cX2_bitsOf 27 = .ok (.ior, 1) := by decide +kernel
theorem dX2_bitsOf_28 : decode cX2_bitsOf 28 = .ok (.istore_n 2, 1) := by decide +kernel
theorem dX2_bitsOf_29 : decode cX2_bitsOf 29 = .ok (.iinc 3 1, 3) := by decide +kernel
theorem dX2_bitsOf_32 : decode cX2_bitsOf 32 = .ok (.goto (-28), 3) := by decide +kernel
theorem dX2_bitsOf_35 : decode cX2_bitsOf 35 = .ok (.iload_n 2, 1) := by decide +kernel
theorem dX2_bitsOf_36 : decode cX2_bitsOf 36 = .ok (.ireturn, 1) := by decide +kernel
theorem dX2_placesTaken_0 : decode cX2_placesTaken 0 = .ok (.iconst 0, 1) := by decide +kernel
theorem dX2_placesTaken_1 : decode cX2_placesTaken 1 = .ok (.istore_n 1, 1) := by decide +kernel
theorem dX2_placesTaken_2 : decode cX2_placesTaken 2 = .ok (.iconst 0, 1) := by decide +kernel
theorem dX2_placesTaken_3 : decode cX2_placesTaken 3 = .ok (.istore_n 2, 1) := by decide +kernel
theorem dX2_placesTaken_4 : decode cX2_placesTaken 4 = .ok (.iload_n 2, 1) := by decide +kernel
theorem dX2_placesTaken_5 : decode cX2_placesTaken 5 = .ok (.aload_n 0, 1) := by decide +kernel
theorem dX2_placesTaken_6 : decode cX2_placesTaken 6 = .ok (.getfield 18, 3) := by decide +kernel
theorem dX2_placesTaken_9 : decode cX2_placesTaken 9 = .ok (.if_icmp .ge 31, 3) := by decide +kernel
theorem dX2_placesTaken_12 : decode cX2_placesTaken 12 = .ok (.aload_n 0, 1) := by decide +kernel
theorem dX2_placesTaken_13 : decode cX2_placesTaken 13 = .ok (.iload_n 2, 1) := by decide +kernel
theorem dX2_placesTaken_14 : decode cX2_placesTaken 14 = .ok (.bipush 7, 2) := by decide +kernel
theorem dX2_placesTaken_16 : decode cX2_placesTaken 16 = .ok (.invokevirtual 29, 3) := by decide +kernel
theorem dX2_placesTaken_19 : decode cX2_placesTaken 19 = .ok (.iconst 2, 1) := by decide +kernel
theorem dX2_placesTaken_20 : decode cX2_placesTaken 20 = .ok (.if_icmp .eq 14, 3) := by decide +kernel
theorem dX2_placesTaken_23 : decode cX2_placesTaken 23 = .ok (.iload_n 1, 1) := by decide +kernel
theorem dX2_placesTaken_24 : decode cX2_placesTaken 24 = .ok (.iconst 1, 1) := by decide +kernel
theorem dX2_placesTaken_25 : decode cX2_placesTaken 25 = .ok (.aload_n 0, 1) := by decide +kernel
theorem dX2_placesTaken_26 : decode cX2_placesTaken 26 = .ok (.iload_n 2, 1) := by decide +kernel
theorem dX2_placesTaken_27 : decode cX2_placesTaken 27 = .ok (.iconst 0, 1) := by decide +kernel
theorem dX2_placesTaken_28 : decode cX2_placesTaken 28 = .ok (.invokevirtual 29, 3) := by decide +kernel
theorem dX2_placesTaken_31 : decode cX2_placesTaken 31 = .ok (.ishl, 1) := by decide +kernel
theorem dX2_placesTaken_32 : decode cX2_placesTaken 32 = .ok (.ior, 1) := by decide +kernel
theorem dX2_placesTaken_33 : decode cX2_placesTaken 33 = .ok (.istore_n 1, 1) := by decide +kernel
theorem dX2_placesTaken_34 : decode cX2_placesTaken 34 = .ok (.iinc 2 1, 3) := by decide +kernel
theorem dX2_placesTaken_37 : decode cX2_placesTaken 37 = .ok (.goto (-33), 3) := by decide +kernel
theorem dX2_placesTaken_40 : decode cX2_placesTaken 40 = .ok (.iload_n 1, 1) := by decide +kernel
theorem dX2_placesTaken_41 : decode cX2_placesTaken 41 = .ok (.ireturn, 1) := by decide +kernel
theorem dX2_flavours_0 : decode cX2_flavours 0 = .ok (.iconst 0, 1) := by decide +kernel
theorem dX2_flavours_1 : decode cX2_flavours 1 = .ok (.istore_n 1, 1) := by decide +kernel
theorem dX2_flavours_2 : decode cX2_flavours 2 = .ok (.iconst 0, 1) := by decide +kernel
theorem dX2_flavours_3 : decode cX2_flavours 3 = .ok (.istore_n 2, 1) := by decide +kernel
theorem dX2_flavours_4 : decode cX2_flavours 4 = .ok (.iload_n 2, 1) := by decide +kernel
theorem dX2_flavours_5 : decode cX2_flavours 5 = .ok (.aload_n 0, 1) := by decide +kernel
theorem dX2_flavours_6 : decode cX2_flavours 6 = .ok (.getfield 18, 3) := by decide +kernel
theorem dX2_flavours_9 : decode cX2_flavours 9 = .ok (.if_icmp .ge 30, 3) := by decide +kernel
theorem dX2_flavours_12 : decode cX2_flavours 12 = .ok (.iload_n 1, 1) := by decide +kernel
theorem dX2_flavours_13 : decode cX2_flavours 13 = .ok (.aload_n 0, 1) := by decide +kernel
theorem dX2_flavours_14 : decode cX2_flavours 14 = .ok (.iload_n 2, 1) := by decide +kernel
theorem dX2_flavours_15 : decode cX2_flavours 15 = .ok (.invokevirtual 54, 3) := by decide +kernel
theorem dX2_flavours_18 : decode cX2_flavours 18 = .ok (.ifCond .eq 12, 3) := by decide +kernel
theorem dX2_flavours_21 : decode cX2_flavours 21 = .ok (.aload_n 0, 1) := by decide +kernel
theorem dX2_flavours_22 : decode cX2_flavours 22 = .ok (.iload_n 2, 1) := by decide +kernel
theorem dX2_flavours_23 : decode cX2_flavours 23 = .ok (.iconst 1, 1) := by decide +kernel
theorem dX2_flavours_24 : decode cX2_flavours 24 = .ok (.invokevirtual 29, 3) := by decide +kernel
theorem dX2_flavours_27 : decode cX2_flavours 27 = .ok (.goto 4, 3) := by decide +kernel
theorem dX2_flavours_30 : decode cX2_flavours 30 = .ok (.iconst 0, 1) := by decide +kernel
theorem dX2_flavours_31 : decode cX2_flavours 31 = .ok (.iadd, 1) := by decide +kernel
theorem dX2_flavours_32 : decode cX2_flavours 32 = .ok (.istore_n 1, 1) := by decide +kernel
theorem dX2_flavours_33 : decode cX2_flavours 33 = .ok (.iinc 2 1, 3) := by decide +kernel
theorem dX2_flavours_36 : decode cX2_flavours 36 = .ok (.goto (-32), 3) := by decide +kernel
theorem dX2_flavours_39 : decode cX2_flavours 39 = .ok (.iload_n 1, 1) := by decide +kernel
theorem dX2_flavours_40 : decode cX2_flavours 40 = .ok (.ireturn, 1) := by decide +kernel
theorem dX2_seenBy_0 : decode cX2_seenBy 0 = .ok (.aload_n 0, 1) := by decide +kernel
theorem dX2_seenBy_1 : decode cX2_seenBy 1 = .ok (.iload_n 1, 1) := by decide +kernel
theorem dX2_seenBy_2 : decode cX2_seenBy 2 = .ok (.bipush 6, 2) := by decide +kernel
theorem dX2_seenBy_4 : decode cX2_seenBy 4 = .ok (.invokevirtual 29, 3) := by decide +kernel
theorem dX2_seenBy_7 : decode cX2_seenBy 7 = .ok (.istore_n 2, 1) := by decide +kernel
theorem dX2_seenBy_8 : decode cX2_seenBy 8 = .ok (.aload_n 0, 1) := by decide +kernel
theorem dX2_seenBy_9 : decode cX2_seenBy 9 = .ok (.iload_n 1, 1) := by decide +kernel
theorem dX2_seenBy_10 : decode cX2_seenBy 10 = .ok (.invokevirtual 54, 3) := by decide +kernel
theorem dX2_seenBy_13 : decode cX2_seenBy 13 = .ok (.ifCond .eq 12, 3) := by decide +kernel
theorem dX2_seenBy_16 : decode cX2_seenBy 16 = .ok (.iload_n 2, 1) := by decide +kernel
theorem dX2_seenBy_17 : decode cX2_seenBy 17 = .ok (.ifCond .eq 11, 3) := by decide +kernel
theorem dX2_seenBy_20 : decode cX2_seenBy 20 = .ok (.iload_n 2, 1) := by decide +kernel
theorem dX2_seenBy_21 : decode cX2_seenBy 21 = .ok (.iconst 2, 1) := by decide +kernel
theorem dX2_seenBy_22 : decode cX2_seenBy 22 = .ok (.if_icmp .eq 6, 3) := by decide +kernel
theorem dX2_seenBy_25 : decode cX2_seenBy 25 = .ok (.bipush (-9), 2) := by decide +kernel
theorem dX2_seenBy_27 : decode cX2_seenBy 27 = .ok (.ireturn, 1) := by decide +kernel
theorem dX2_seenBy_28 : decode cX2_seenBy 28 = .ok (.aload_n 0, 1) := by decide +kernel
theorem dX2_seenBy_29 : decode cX2_seenBy 29 = .ok (.iload_n 1, 1) := by decide +kernel
theorem dX2_seenBy_30 : decode cX2_seenBy 30 = .ok (.iload_n 2, 1) := by decide +kernel
theorem dX2_seenBy_31 : decode cX2_seenBy 31 = .ok (.ifCond .ne 7, 3) := by decide +kernel
theorem dX2_seenBy_34 : decode cX2_seenBy 34 = .ok (.iconst (-1), 1) := by decide +kernel
theorem dX2_seenBy_35 : decode cX2_seenBy 35 = .ok (.goto 4, 3) := by decide +kernel
theorem dX2_seenBy_38 : decode cX2_seenBy 38 = .ok (.iconst 1, 1) := by decide +kernel
theorem dX2_seenBy_39 : decode cX2_seenBy 39 = .ok (.invokevirtual 106, 3) := by decide +kernel
theorem dX2_seenBy_42 : decode cX2_seenBy 42 = .ok (.istore_n 3, 1) := by decide +kernel
theorem dX2_seenBy_43 : decode cX2_seenBy 43 = .ok (.iload_n 3, 1) := by decide +kernel
theorem dX2_seenBy_44 : decode cX2_seenBy 44 = .ok (.bipush (-9), 2) := by decide +kernel
theorem dX2_seenBy_46 : decode cX2_seenBy 46 = .ok (.if_icmp .eq 16, 3) := by decide +kernel
theorem dX2_seenBy_49 : decode cX2_seenBy 49 = .ok (.aload_n 0, 1) := by decide +kernel
theorem dX2_seenBy_50 : decode cX2_seenBy 50 = .ok (.iload_n 1, 1) := by decide +kernel
theorem dX2_seenBy_51 : decode cX2_seenBy 51 = .ok (.iload_n 3, 1) := by decide +kernel
theorem dX2_seenBy_52 : decode cX2_seenBy 52 = .ok (.invokevirtual 109, 3) := by decide +kernel
theorem dX2_seenBy_55 : decode cX2_seenBy 55 = .ok (.ifCond .eq 7, 3) := by decide +kernel
theorem dX2_seenBy_58 : decode cX2_seenBy 58 = .ok (.iload_n 3, 1) := by decide +kernel
theorem dX2_seenBy_59 : decode cX2_seenBy 59 = .ok (.goto 5, 3) := by decide +kernel
theorem dX2_seenBy_62 : decode cX2_seenBy 62 = .ok (.bipush (-9), 2) := by decide +kernel
theorem dX2_seenBy_64 : decode cX2_seenBy 64 = .ok (.ireturn, 1) := by decide +kernel
theorem dX2_nearest_0 : decode cX2_nearest 0 = .ok (.bipush (-9), 2) := by decide +kernel
theorem dX2_nearest_2 : decode cX2_nearest 2 = .ok (.istore_n 3, 1) := by decide +kernel
theorem dX2_nearest_3 : decode cX2_nearest 3 = .ok (.bipush 8, 2) := by decide +kernel
theorem dX2_nearest_5 : decode cX2_nearest 5 = .ok (.istore 4, 2) := by decide +kernel
theorem dX2_nearest_7 : decode cX2_nearest 7 = .ok (.iconst 0, 1) := by decide +kernel
theorem dX2_nearest_8 : decode cX2_nearest 8 = .ok (.istore 5, 2) := by decide +kernel
theorem dX2_nearest_10 : decode cX2_nearest 10 = .ok (.iload 5, 2) := by decide +kernel
theorem dX2_nearest_12 : decode cX2_nearest 12 = .ok (.aload_n 0, 1) := by decide +kernel
theorem dX2_nearest_13 : decode cX2_nearest 13 = .ok (.getfield 18, 3) := by decide +kernel
theorem dX2_nearest_16 : decode cX2_nearest 16 = .ok (.if_icmp .ge 58, 3) := by decide +kernel
theorem dX2_nearest_19 : decode cX2_nearest 19 = .ok (.aload_n 0, 1) := by decide +kernel
theorem dX2_nearest_20 : decode cX2_nearest 20 = .ok (.iload 5, 2) := by decide +kernel
theorem dX2_nearest_22 : decode cX2_nearest 22 = .ok (.iconst 0, 1) := by decide +kernel
theorem dX2_nearest_23 : decode cX2_nearest 23 = .ok (.invokevirtual 29, 3) := by decide +kernel
theorem dX2_nearest_26 : decode cX2_nearest 26 = .ok (.aload_n 0, 1) := by decide +kernel
theorem dX2_nearest_27 : decode cX2_nearest 27 = .ok (.iload_n 1, 1) := by decide +kernel
theorem dX2_nearest_28 : decode cX2_nearest 28 = .ok (.iconst 0, 1) := by decide +kernel
theorem dX2_nearest_29 : decode cX2_nearest 29 = .ok (.invokevirtual 29, 3) := by decide +kernel
theorem dX2_nearest_32 : decode cX2_nearest 32 = .ok (.isub, 1) := by decide +kernel
theorem dX2_nearest_33 : decode cX2_nearest 33 = .ok (.iload_n 2, 1) := by decide +kernel
theorem dX2_nearest_34 : decode cX2_nearest 34 = .ok (.imul, 1) := by decide +kernel
theorem dX2_nearest_35 : decode cX2_nearest 35 = .ok (.istore 6, 2) := by decide +kernel
theorem dX2_nearest_37 : decode cX2_nearest 37 = .ok (.iload 6, 2) := by decide +kernel
theorem dX2_nearest_39 : decode cX2_nearest 39 = .ok (.ifCond .le 29, 3) := by decide +kernel
theorem dX2_nearest_42 : decode cX2_nearest 42 = .ok (.iload 6, 2) := by decide +kernel
theorem dX2_nearest_44 : decode cX2_nearest 44 = .ok (.iload 4, 2) := by decide +kernel
theorem dX2_nearest_46 : decode cX2_nearest 46 = .ok (.if_icmp .ge 22, 3) := by decide +kernel
theorem dX2_nearest_49 : decode cX2_nearest 49 = .ok (.aload_n 0, 1) := by decide +kernel
theorem dX2_nearest_50 : decode cX2_nearest 50 = .ok (.iload 5, 2) := by decide +kernel
theorem dX2_nearest_52 : decode cX2_nearest 52 = .ok (.bipush 7, 2) := by decide +kernel
theorem dX2_nearest_54 : decode cX2_nearest 54 = .ok (.invokevirtual 29, 3) := by decide +kernel
theorem dX2_nearest_57 : decode cX2_nearest 57 = .ok (.iconst 2, 1) := by decide +kernel
theorem dX2_nearest_58 : decode cX2_nearest 58 = .ok (.if_icmp .eq 10, 3) := by decide +kernel
theorem dX2_nearest_61 : decode cX2_nearest 61 = .ok (.iload 5, 2) := by decide +kernel
theorem dX2_nearest_63 : decode cX2_nearest 63 = .ok (.istore_n 3, 1) := by decide +kernel
theorem dX2_nearest_64 : decode cX2_nearest 64 = .ok (.iload 6, 2) := by decide +kernel
theorem dX2_nearest_66 : decode cX2_nearest 66 = .ok (.istore 4, 2) := by decide +kernel
theorem dX2_nearest_68 : decode cX2_nearest 68 = .ok (.iinc 5 1, 3) := by decide +kernel
theorem dX2_nearest_71 : decode cX2_nearest 71 = .ok (.goto (-61), 3) := by decide +kernel
theorem dX2_nearest_74 : decode cX2_nearest 74 = .ok (.iload_n 3, 1) := by decide +kernel
theorem dX2_nearest_75 : decode cX2_nearest 75 = .ok (.ireturn, 1) := by decide +kernel
theorem dX2_isClear_0 : decode cX2_isClear 0 = .ok (.aload_n 0, 1) := by decide +kernel
theorem dX2_isClear_1 : decode cX2_isClear 1 = .ok (.iload_n 1, 1) := by decide +kernel
theorem dX2_isClear_2 : decode cX2_isClear 2 = .ok (.iconst 3, 1) := by decide +kernel
theorem dX2_isClear_3 : decode cX2_isClear 3 = .ok (.invokevirtual 29, 3) := by decide +kernel
theorem dX2_isClear_6 : decode cX2_isClear 6 = .ok (.iconst 2, 1) := by decide +kernel
theorem dX2_isClear_7 : decode cX2_isClear 7 = .ok (.if_icmp .ne 5, 3) := by decide +kernel
theorem dX2_isClear_10 : decode cX2_isClear 10 = .ok (.iconst 1, 1) := by decide +kernel
theorem dX2_isClear_11 : decode cX2_isClear 11 = .ok (.ireturn, 1) := by decide +kernel
theorem dX2_isClear_12 : decode cX2_isClear 12 = .ok (.aload_n 0, 1) := by decide +kernel
theorem dX2_isClear_13 : decode cX2_isClear 13 = .ok (.iload_n 2, 1) := by decide +kernel
theorem dX2_isClear_14 : decode cX2_isClear 14 = .ok (.iconst 0, 1) := by decide +kernel
theorem dX2_isClear_15 : decode cX2_isClear 15 = .ok (.invokevirtual 29, 3) := by decide +kernel
theorem dX2_isClear_18 : decode cX2_isClear 18 = .ok (.aload_n 0, 1) := by decide +kernel
theorem dX2_isClear_19 : decode cX2_isClear 19 = .ok (.iload_n 1, 1) := by decide +kernel
theorem dX2_isClear_20 : decode cX2_isClear 20 = .ok (.iconst 0, 1) := by decide +kernel
theorem dX2_isClear_21 : decode cX2_isClear 21 = .ok (.invokevirtual 29, 3) := by decide +kernel
theorem dX2_isClear_24 : decode cX2_isClear 24 = .ok (.isub, 1) := by decide +kernel
theorem dX2_isClear_25 : decode cX2_isClear 25 = .ok (.invokestatic 112, 3) := by decide +kernel
theorem dX2_isClear_28 : decode cX2_isClear 28 = .ok (.istore_n 3, 1) := by decide +kernel
theorem dX2_isClear_29 : decode cX2_isClear 29 = .ok (.aload_n 0, 1) := by decide +kernel
theorem dX2_isClear_30 : decode cX2_isClear 30 = .ok (.iload_n 2, 1) := by decide +kernel
theorem dX2_isClear_31 : decode cX2_isClear 31 = .ok (.bipush 7, 2) := by decide +kernel
theorem dX2_isClear_33 : decode cX2_isClear 33 = .ok (.invokevirtual 29, 3) := by decide +kernel
theorem dX2_isClear_36 : decode cX2_isClear 36 = .ok (.iconst 1, 1) := by decide +kernel
theorem dX2_isClear_37 : decode cX2_isClear 37 = .ok (.if_icmp .ne 7, 3) := by decide +kernel
theorem dX2_isClear_40 : decode cX2_isClear 40 = .ok (.iconst 0, 1) := by decide +kernel
theorem dX2_isClear_41 : decode cX2_isClear 41 = .ok (.goto 9, 3) := by decide +kernel
theorem dX2_isClear_44 : decode cX2_isClear 44 = .ok (.aload_n 0, 1) := by decide +kernel
theorem dX2_isClear_45 : decode cX2_isClear 45 = .ok (.iload_n 2, 1) := by decide +kernel
theorem dX2_isClear_46 : decode cX2_isClear 46 = .ok (.iconst 5, 1) := by decide +kernel
theorem dX2_isClear_47 : decode cX2_isClear 47 = .ok (.invokevirtual 29, 3) := by decide +kernel
theorem dX2_isClear_50 : decode cX2_isClear 50 = .ok (.istore 4, 2) := by decide +kernel
theorem dX2_isClear_52 : decode cX2_isClear 52 = .ok (.iload_n 3, 1) := by decide +kernel
theorem dX2_isClear_53 : decode cX2_isClear 53 = .ok (.bipush 9, 2) := by decide +kernel
theorem dX2_isClear_55 : decode cX2_isClear 55 = .ok (.aload_n 0, 1) := by decide +kernel
theorem dX2_isClear_56 : decode cX2_isClear 56 = .ok (.iload_n 1, 1) := by decide +kernel
theorem dX2_isClear_57 : decode cX2_isClear 57 = .ok (.iconst 5, 1) := by decide +kernel
theorem dX2_isClear_58 : decode cX2_isClear 58 = .ok (.invokevirtual 29, 3) := by decide +kernel
theorem dX2_isClear_61 : decode cX2_isClear 61 = .ok (.isub, 1) := by decide +kernel
theorem dX2_isClear_62 : decode cX2_isClear 62 = .ok (.iload 4, 2) := by decide +kernel
theorem dX2_isClear_64 : decode cX2_isClear 64 = .ok (.isub, 1) := by decide +kernel
theorem dX2_isClear_65 : decode cX2_isClear 65 = .ok (.if_icmp .gt 7, 3) := by decide +kernel
theorem dX2_isClear_68 : decode cX2_isClear 68 = .ok (.iconst 1, 1) := by decide +kernel
theorem dX2_isClear_69 : decode cX2_isClear 69 = .ok (.goto 4, 3) := by decide +kernel
theorem dX2_isClear_72 : decode cX2_isClear 72 = .ok (.iconst 0, 1) := by decide +kernel
theorem dX2_isClear_73 : decode cX2_isClear 73 = .ok (.ireturn, 1) := by decide +kernel
theorem dX2_pairs_0 : decode cX2_pairs 0 = .ok (.aload_n 0, 1) := by decide +kernel
theorem dX2_pairs_1 : decode cX2_pairs 1 = .ok (.invokevirtual 115, 3) := by decide +kernel
theorem dX2_pairs_4 : decode cX2_pairs 4 = .ok (.iconst 0, 1) := by decide +kernel
theorem dX2_pairs_5 : decode cX2_pairs 5 = .ok (.istore_n 1, 1) := by decide +kernel
theorem dX2_pairs_6 : decode cX2_pairs 6 = .ok (.bipush (-9), 2) := by decide +kernel
theorem dX2_pairs_8 : decode cX2_pairs 8 = .ok (.istore_n 2, 1) := by decide +kernel
theorem dX2_pairs_9 : decode cX2_pairs 9 = .ok (.iconst 0, 1) := by decide +kernel
theorem dX2_pairs_10 : decode cX2_pairs 10 = .ok (.istore_n 3, 1) := by decide +kernel
theorem dX2_pairs_11 : decode cX2_pairs 11 = .ok (.iload_n 3, 1) := by decide +kernel
theorem dX2_pairs_12 : decode cX2_pairs 12 = .ok (.bipush 8, 2) := by decide +kernel
theorem dX2_pairs_14 : decode cX2_pairs 14 = .ok (.if_icmp .ge 51, 3) := by decide +kernel
theorem dX2_pairs_17 : decode cX2_pairs 17 = .ok (.aload_n 0, 1) := by decide +kernel
theorem dX2_pairs_18 : decode cX2_pairs 18 = .ok (.getfield 15, 3) := by decide +kernel
theorem dX2_pairs_21 : decode cX2_pairs 21 = .ok (.iload_n 3, 1) := by decide +kernel
theorem dX2_pairs_22 : decode cX2_pairs 22 = .ok (.iaload, 1) := by decide +kernel
theorem dX2_pairs_23 : decode cX2_pairs 23 = .ok (.istore 4, 2) := by decide +kernel
theorem dX2_pairs_25 : decode cX2_pairs 25 = .ok (.iload 4, 2) := by decide +kernel
theorem dX2_pairs_27 : decode cX2_pairs 27 = .ok (.bipush (-9), 2) := by decide +kernel
theorem dX2_pairs_29 : decode cX2_pairs 29 = .ok (.if_icmp .eq 30, 3) := by decide +kernel
theorem dX2_pairs_32 : decode cX2_pairs 32 = .ok (.iload_n 1, 1) := by decide +kernel
theorem dX2_pairs_33 : decode cX2_pairs 33 = .ok (.iload_n 2, 1) := by decide +kernel
theorem dX2_pairs_34 : decode cX2_pairs 34 = .ok (.bipush (-9), 2) := by decide +kernel
theorem dX2_pairs_36 : decode cX2_pairs 36 = .ok (.if_icmp .eq 17, 3) := by decide +kernel
theorem dX2_pairs_39 : decode cX2_pairs 39 = .ok (.aload_n 0, 1) := by decide +kernel
theorem dX2_pairs_40 : decode cX2_pairs 40 = .ok (.iload_n 2, 1) := by decide +kernel
theorem dX2_pairs_41 : decode cX2_pairs 41 = .ok (.iload 4, 2) := by decide +kernel
theorem dX2_pairs_43 : decode cX2_pairs 43 = .ok (.invokevirtual 118, 3) := by decide +kernel
theorem dX2_pairs_46 : decode cX2_pairs 46 = .ok (.ifCond .eq 7, 3) := by decide +kernel
theorem dX2_pairs_49 : decode cX2_pairs 49 = .ok (.iconst 1, 1) := by decide +kernel
theorem dX2_pairs_50 : decode cX2_pairs 50 = .ok (.goto 4, 3) := by decide +kernel
theorem dX2_pairs_53 : decode cX2_pairs 53 = .ok (.iconst 0, 1) := by decide +kernel
theorem dX2_pairs_54 : decode cX2_pairs 54 = .ok (.iadd, 1) := by decide +kernel
theorem dX2_pairs_55 : decode cX2_pairs 55 = .ok (.istore_n 1, 1) := by decide +kernel
theorem dX2_pairs_56 : decode cX2_pairs 56 = .ok (.iload 4, 2) := by decide +kernel
theorem dX2_pairs_58 : decode cX2_pairs 58 = .ok (.istore_n 2, 1) := by decide +kernel
theorem dX2_pairs_59 : decode cX2_pairs 59 = .ok (.iinc 3 1, 3) := by decide +kernel
theorem dX2_pairs_62 : decode cX2_pairs 62 = .ok (.goto (-51), 3) := by decide +kernel
theorem dX2_pairs_65 : decode cX2_pairs 65 = .ok (.iload_n 1, 1) := by decide +kernel
theorem dX2_pairs_66 : decode cX2_pairs 66 = .ok (.ireturn, 1) := by decide +kernel
theorem dX2_fillStanding_0 : decode cX2_fillStanding 0 = .ok (.iconst 0, 1) := by decide +kernel
theorem dX2_fillStanding_1 : decode cX2_fillStanding 1 = .ok (.istore_n 1, 1) := by decide +kernel
theorem dX2_fillStanding_2 : decode cX2_fillStanding 2 = .ok (.iload_n 1, 1) := by decide +kernel
theorem dX2_fillStanding_3 : decode cX2_fillStanding 3 = .ok (.bipush 8, 2) := by decide +kernel
theorem dX2_fillStanding_5 : decode cX2_fillStanding 5 = .ok (.if_icmp .ge 17, 3) := by decide +kernel
theorem dX2_fillStanding_8 : decode cX2_fillStanding 8 = .ok (.aload_n 0, 1) := by decide +kernel
theorem dX2_fillStanding_9 : decode cX2_fillStanding 9 = .ok (.getfield 15, 3) := by decide +kernel
theorem dX2_fillStanding_12 : decode cX2_fillStanding 12 = .ok (.iload_n 1, 1) := by decide +kernel
theorem dX2_fillStanding_13 : decode cX2_fillStanding 13 = .ok (.bipush (-9), 2) := by decide +kernel
theorem dX2_fillStanding_15 : decode cX2_fillStanding 15 = .ok (.iastore, 1) := by decide +kernel
theorem dX2_fillStanding_16 : decode cX2_fillStanding 16 = .ok (.iinc 1 1, 3) := by decide +kernel
theorem dX2_fillStanding_19 : decode cX2_fillStanding 19 = .ok (.goto (-17), 3) := by decide +kernel
theorem dX2_fillStanding_22 : decode cX2_fillStanding 22 = .ok (.iconst 0, 1) := by decide +kernel
theorem dX2_fillStanding_23 : decode cX2_fillStanding 23 = .ok (.istore_n 1, 1) := by decide +kernel
theorem dX2_fillStanding_24 : decode cX2_fillStanding 24 = .ok (.iload_n 1, 1) := by decide +kernel
theorem dX2_fillStanding_25 : decode cX2_fillStanding 25 = .ok (.aload_n 0, 1) := by decide +kernel
theorem dX2_fillStanding_26 : decode cX2_fillStanding 26 = .ok (.getfield 18, 3) := by decide +kernel
theorem dX2_fillStanding_29 : decode cX2_fillStanding 29 = .ok (.if_icmp .ge 41, 3) := by decide +kernel
theorem dX2_fillStanding_32 : decode cX2_fillStanding 32 = .ok (.aload_n 0, 1) := by decide +kernel
theorem dX2_fillStanding_33 : decode cX2_fillStanding 33 = .ok (.iload_n 1, 1) := by decide +kernel
theorem dX2_fillStanding_34 : decode cX2_fillStanding 34 = .ok (.iconst 0, 1) := by decide +kernel
theorem dX2_fillStanding_35 : decode cX2_fillStanding 35 = .ok (.invokevirtual 29, 3) := by decide +kernel
theorem dX2_fillStanding_38 : decode cX2_fillStanding 38 = .ok (.istore_n 2, 1) := by decide +kernel
theorem dX2_fillStanding_39 : decode cX2_fillStanding 39 = .ok (.iload_n 2, 1) := by decide +kernel
theorem dX2_fillStanding_40 : decode cX2_fillStanding 40 = .ok (.invokestatic 76, 3) := by decide +kernel
theorem dX2_fillStanding_43 : decode cX2_fillStanding 43 = .ok (.ifCond .eq 21, 3) := by decide +kernel
theorem dX2_fillStanding_46 : decode cX2_fillStanding 46 = .ok (.aload_n 0, 1) := by decide +kernel
theorem dX2_fillStanding_47 : decode cX2_fillStanding 47 = .ok (.iload_n 1, 1) := by decide +kernel
theorem dX2_fillStanding_48 : decode cX2_fillStanding 48 = .ok (.bipush 7, 2) := by decide +kernel
theorem dX2_fillStanding_50 : decode cX2_fillStanding 50 = .ok (.invokevirtual 29, 3) := by decide +kernel
theorem dX2_fillStanding_53 : decode cX2_fillStanding 53 = .ok (.iconst 2, 1) := by decide +kernel
theorem dX2_fillStanding_54 : decode cX2_fillStanding 54 = .ok (.if_icmp .eq 10, 3) := by decide +kernel
theorem dX2_fillStanding_57 : decode cX2_fillStanding 57 = .ok (.aload_n 0, 1) := by decide +kernel
theorem dX2_fillStanding_58 : decode cX2_fillStanding 58 = .ok (.getfield 15, 3) := by decide +kernel
theorem dX2_fillStanding_61 : decode cX2_fillStanding 61 = .ok (.iload_n 2, 1) := by decide +kernel
theorem dX2_fillStanding_62 : decode cX2_fillStanding 62 = .ok (.iload_n 1, 1) := by decide +kernel
theorem dX2_fillStanding_63 : decode cX2_fillStanding 63 = .ok (.iastore, 1) := by decide +kernel
theorem dX2_fillStanding_64 : decode cX2_fillStanding 64 = .ok (.iinc 1 1, 3) := by decide +kernel
theorem dX2_fillStanding_67 : decode cX2_fillStanding 67 = .ok (.goto (-43), 3) := by decide +kernel
theorem dX2_fillStanding_70 : decode cX2_fillStanding 70 = .ok (.return_, 1) := by decide +kernel
theorem dX2_areFacing_0 : decode cX2_areFacing 0 = .ok (.aload_n 0, 1) := by decide +kernel
theorem dX2_areFacing_1 : decode cX2_areFacing 1 = .ok (.iload_n 1, 1) := by decide +kernel
theorem dX2_areFacing_2 : decode cX2_areFacing 2 = .ok (.bipush 6, 2) := by decide +kernel
theorem dX2_areFacing_4 : decode cX2_areFacing 4 = .ok (.invokevirtual 29, 3) := by decide +kernel
theorem dX2_areFacing_7 : decode cX2_areFacing 7 = .ok (.iconst 2, 1) := by decide +kernel
theorem dX2_areFacing_8 : decode cX2_areFacing 8 = .ok (.if_icmp .ne 51, 3) := by decide +kernel
theorem dX2_areFacing_11 : decode cX2_areFacing 11 = .ok (.aload_n 0, 1) := by decide +kernel
theorem dX2_areFacing_12 : decode cX2_areFacing 12 = .ok (.iload_n 2, 1) := by decide +kernel
theorem dX2_areFacing_13 : decode cX2_areFacing 13 = .ok (.bipush 6, 2) := by decide +kernel
theorem dX2_areFacing_15 : decode cX2_areFacing 15 = .ok (.invokevirtual 29, 3) := by decide +kernel
theorem dX2_areFacing_18 : decode cX2_areFacing 18 = .ok (.ifCond .ne 41, 3) := by decide +kernel
theorem dX2_areFacing_21 : decode cX2_areFacing 21 = .ok (.aload_n 0, 1) := by decide +kernel
theorem dX2_areFacing_22 : decode cX2_areFacing 22 = .ok (.iload_n 1, 1) := by decide +kernel
theorem dX2_areFacing_23 : decode cX2_areFacing 23 = .ok (.invokevirtual 54, 3) := by decide +kernel
theorem dX2_areFacing_26 : decode cX2_areFacing 26 = .ok (.ifCond .eq 33, 3) := by decide +kernel
theorem dX2_areFacing_29 : decode cX2_areFacing 29 = .ok (.aload_n 0, 1) := by decide +kernel
theorem dX2_areFacing_30 : decode cX2_areFacing 30 = .ok (.iload_n 2, 1) := by decide +kernel
theorem dX2_areFacing_31 : decode cX2_areFacing 31 = .ok (.invokevirtual 54, 3) := by decide +kernel
theorem dX2_areFacing_34 : decode cX2_areFacing 34 = .ok (.ifCond .eq 25, 3) := by decide +kernel
theorem dX2_areFacing_37 : decode cX2_areFacing 37 = .ok (.aload_n 0, 1) := by decide +kernel
theorem dX2_areFacing_38 : decode cX2_areFacing 38 = .ok (.iload_n 1, 1) := by decide +kernel
theorem dX2_areFacing_39 : decode cX2_areFacing 39 = .ok (.iload_n 2, 1) := by decide +kernel
theorem dX2_areFacing_40 : decode cX2_areFacing 40 = .ok (.invokevirtual 109, 3) := by decide +kernel
theorem dX2_areFacing_43 : decode cX2_areFacing 43 = .ok (.ifCond .eq 16, 3) := by decide +kernel
theorem dX2_areFacing_46 : decode cX2_areFacing 46 = .ok (.aload_n 0, 1) := by decide +kernel
theorem dX2_areFacing_47 : decode cX2_areFacing 47 = .ok (.iload_n 2, 1) := by decide +kernel
theorem dX2_areFacing_48 : decode cX2_areFacing 48 = .ok (.iload_n 1, 1) := by decide +kernel
theorem dX2_areFacing_49 : decode cX2_areFacing 49 = .ok (.invokevirtual 109, 3) := by decide +kernel
theorem dX2_areFacing_52 : decode cX2_areFacing 52 = .ok (.ifCond .eq 7, 3) := by decide +kernel
theorem dX2_areFacing_55 : decode cX2_areFacing 55 = .ok (.iconst 1, 1) := by decide +kernel
theorem dX2_areFacing_56 : decode cX2_areFacing 56 = .ok (.goto 4, 3) := by decide +kernel
theorem dX2_areFacing_59 : decode cX2_areFacing 59 = .ok (.iconst 0, 1) := by decide +kernel
theorem dX2_areFacing_60 : decode cX2_areFacing 60 = .ok (.ireturn, 1) := by decide +kernel
theorem dX2_countLooking_0 : decode cX2_countLooking 0 = .ok (.iconst 0, 1) := by decide +kernel
theorem dX2_countLooking_1 : decode cX2_countLooking 1 = .ok (.istore_n 2, 1) := by decide +kernel
theorem dX2_countLooking_2 : decode cX2_countLooking 2 = .ok (.iconst 0, 1) := by decide +kernel
theorem dX2_countLooking_3 : decode cX2_countLooking 3 = .ok (.istore_n 3, 1) := by decide +kernel
theorem dX2_countLooking_4 : decode cX2_countLooking 4 = .ok (.iload_n 3, 1) := by decide +kernel
theorem dX2_countLooking_5 : decode cX2_countLooking 5 = .ok (.aload_n 0, 1) := by decide +kernel
theorem dX2_countLooking_6 : decode cX2_countLooking 6 = .ok (.getfield 18, 3) := by decide +kernel
theorem dX2_countLooking_9 : decode cX2_countLooking 9 = .ok (.if_icmp .ge 36, 3) := by decide +kernel
theorem dX2_countLooking_12 : decode cX2_countLooking 12 = .ok (.iload_n 2, 1) := by decide +kernel
theorem dX2_countLooking_13 : decode cX2_countLooking 13 = .ok (.aload_n 0, 1) := by decide +kernel
theorem dX2_countLooking_14 : decode cX2_countLooking 14 = .ok (.iload_n 3, 1) := by decide +kernel
theorem dX2_countLooking_15 : decode cX2_countLooking 15 = .ok (.invokevirtual 54, 3) := by decide +kernel
theorem dX2_countLooking_18 : decode cX2_countLooking 18 = .ok (.ifCond .eq 18, 3) := by decide +kernel
theorem dX2_countLooking_21 : decode cX2_countLooking 21 = .ok (.aload_n 0, 1) := by decide +kernel
theorem dX2_countLooking_22 : decode cX2_countLooking 22 = .ok (.iload_n 3, 1) := by decide +kernel
theorem dX2_countLooking_23 : decode cX2_countLooking 23 = .ok (.bipush 6, 2) := by decide +kernel
theorem dX2_countLooking_25 : decode cX2_countLooking 25 = .ok (.invokevirtual 29, 3) := by decide +kernel
theorem dX2_countLooking_28 : decode cX2_countLooking 28 = .ok (.iload_n 1, 1) := by decide +kernel
theorem dX2_countLooking_29 : decode cX2_countLooking 29 = .ok (.if_icmp .ne 7, 3) := by decide +kernel
theorem dX2_countLooking_32 : decode cX2_countLooking 32 = .ok (.iconst 1, 1) := by decide +kernel
theorem dX2_countLooking_33 : decode cX2_countLooking 33 = .ok (.goto 4, 3) := by decide +kernel
theorem dX2_countLooking_36 : decode cX2_countLooking 36 = .ok (.iconst 0, 1) := by decide +kernel
theorem dX2_countLooking_37 : decode cX2_countLooking 37 = .ok (.iadd, 1) := by decide +kernel
theorem dX2_countLooking_38 : decode cX2_countLooking 38 = .ok (.istore_n 2, 1) := by decide +kernel
theorem dX2_countLooking_39 : decode cX2_countLooking 39 = .ok (.iinc 3 1, 3) := by decide +kernel
theorem dX2_countLooking_42 : decode cX2_countLooking 42 = .ok (.goto (-38), 3) := by decide +kernel
theorem dX2_countLooking_45 : decode cX2_countLooking 45 = .ok (.iload_n 2, 1) := by decide +kernel
theorem dX2_countLooking_46 : decode cX2_countLooking 46 = .ok (.ireturn, 1) := by decide +kernel
theorem dX2_countSeen_0 : decode cX2_countSeen 0 = .ok (.iconst 0, 1) := by decide +kernel
theorem dX2_countSeen_1 : decode cX2_countSeen 1 = .ok (.istore_n 1, 1) := by decide +kernel
theorem dX2_countSeen_2 : decode cX2_countSeen 2 = .ok (.iconst 0, 1) := by decide +kernel
theorem dX2_countSeen_3 : decode cX2_countSeen 3 = .ok (.istore_n 2, 1) := by decide +kernel
theorem dX2_countSeen_4 : decode cX2_countSeen 4 = .ok (.iload_n 2, 1) := by decide +kernel
theorem dX2_countSeen_5 : decode cX2_countSeen 5 = .ok (.aload_n 0, 1) := by decide +kernel
theorem dX2_countSeen_6 : decode cX2_countSeen 6 = .ok (.getfield 18, 3) := by decide +kernel
theorem dX2_countSeen_9 : decode cX2_countSeen 9 = .ok (.if_icmp .ge 31, 3) := by decide +kernel
theorem dX2_countSeen_12 : decode cX2_countSeen 12 = .ok (.aload_n 0, 1) := by decide +kernel
theorem dX2_countSeen_13 : decode cX2_countSeen 13 = .ok (.iload_n 2, 1) := by decide +kernel
theorem dX2_countSeen_14 : decode cX2_countSeen 14 = .ok (.invokevirtual 121, 3) := by decide +kernel
theorem dX2_countSeen_17 : decode cX2_countSeen 17 = .ok (.istore_n 3, 1) := by decide +kernel
theorem dX2_countSeen_18 : decode cX2_countSeen 18 = .ok (.iload_n 1, 1) := by decide +kernel
theorem dX2_countSeen_19 : decode cX2_countSeen 19 = .ok (.iload_n 3, 1) := by decide +kernel
theorem dX2_countSeen_20 : decode cX2_countSeen 20 = .ok (.bipush (-9), 2) := by decide +kernel
theorem dX2_countSeen_22 : decode cX2_countSeen 22 = .ok (.if_icmp .ne 7, 3) := by decide +kernel
theorem dX2_countSeen_25 : decode cX2_countSeen 25 = .ok (.iconst 0, 1) := by decide +kernel
theorem dX2_countSeen_26 : decode cX2_countSeen 26 = .ok (.goto 6, 3) := by decide +kernel
theorem dX2_countSeen_29 : decode cX2_countSeen 29 = .ok (.iconst 1, 1) := by decide +kernel
theorem dX2_countSeen_30 : decode cX2_countSeen 30 = .ok (.iload_n 3, 1) := by decide +kernel
theorem dX2_countSeen_31 : decode cX2_countSeen 31 = .ok (.ishl, 1) := by decide +kernel
theorem dX2_countSeen_32 : decode cX2_countSeen 32 = .ok (.ior, 1) := by decide +kernel
theorem dX2_countSeen_33 : decode cX2_countSeen 33 = .ok (.istore_n 1, 1) := by decide +kernel
theorem dX2_countSeen_34 : decode cX2_countSeen 34 = .ok (.iinc 2 1, 3) := by decide +kernel
theorem dX2_countSeen_37 : decode cX2_countSeen 37 = .ok (.goto (-33), 3) := by decide +kernel
theorem dX2_countSeen_40 : decode cX2_countSeen 40 = .ok (.iload_n 1, 1) := by decide +kernel
theorem dX2_countSeen_41 : decode cX2_countSeen 41 = .ok (.invokestatic 124, 3) := by decide +kernel
theorem dX2_countSeen_44 : decode cX2_countSeen 44 = .ok (.ireturn, 1) := by decide +kernel
theorem dX3_init_0 : decode cX3_init 0 = .ok (.aload_n 0, 1) := by decide +kernel
theorem dX3_init_1 : decode cX3_init 1 = .ok (.invokespecial 3, 3) := by decide +kernel
theorem dX3_init_4 : decode cX3_init 4 = .ok (.aload_n 0, 1) := by decide +kernel
theorem dX3_init_5 : decode cX3_init 5 = .ok (.iconst 2, 1) := by decide +kernel
theorem dX3_init_6 : decode cX3_init 6 = .ok (.bipush 49, 2) := by decide +kernel
theorem dX3_init_8 : decode cX3_init 8 = .ok (.multianewarray 11 2, 4) := by decide +kernel
theorem dX3_init_12 : decode cX3_init 12 = .ok (.putfield 13, 3) := by decide +kernel
theorem dX3_init_15 : decode cX3_init 15 = .ok (.aload_n 0, 1) := by decide +kernel
theorem dX3_init_16 : decode cX3_init 16 = .ok (.iconst 2, 1) := by decide +kernel
theorem dX3_init_17 : decode cX3_init 17 = .ok (.newarray .boolean, 2) := by decide +kernel
theorem dX3_init_19 : decode cX3_init 19 = .ok (.putfield 18, 3) := by decide +kernel
theorem dX3_init_22 : decode cX3_init 22 = .ok (.return_, 1) := by decide +kernel
theorem dX3_forget_0 : decode cX3_forget 0 = .ok (.iconst 0, 1) := by decide +kernel
theorem dX3_forget_1 : decode cX3_forget 1 = .ok (.istore_n 1, 1) := by decide +kernel
theorem dX3_forget_2 : decode cX3_forget 2 = .ok (.iload_n 1, 1) := by decide +kernel
theorem dX3_forget_3 : decode cX3_forget 3 = .ok (.iconst 2, 1) := by decide +kernel
theorem dX3_forget_4 : decode cX3_forget 4 = .ok (.if_icmp .ge 16, 3) := by decide +kernel
theorem dX3_forget_7 : decode cX3_forget 7 = .ok (.aload_n 0, 1) := by decide +kernel
theorem dX3_forget_8 : decode cX3_forget 8 = .ok (.getfield 18, 3) := by decide +kernel
theorem dX3_forget_11 : decode cX3_forget 11 = .ok (.iload_n 1, 1) := by decide +kernel
theorem dX3_forget_12 : decode cX3_forget 12 = .ok (.iconst 0, 1) := by decide +kernel
theorem dX3_forget_13 : decode cX3_forget 13 = .ok (.bastore, 1) := by decide +kernel
theorem dX3_forget_14 : decode cX3_forget 14 = .ok (.iinc 1 1, 3) := by decide +kernel
theorem dX3_forget_17 : decode cX3_forget 17 = .ok (.goto (-15), 3) := by decide +kernel
theorem dX3_forget_20 : decode cX3_forget 20 = .ok (.return_, 1) := by decide +kernel
theorem dX3_store_0 : decode cX3_store 0 = .ok (.iload_n 1, 1) := by decide +kernel
theorem dX3_store_1 : decode cX3_store 1 = .ok (.ifCond .lt 25, 3) := by decide +kernel
theorem dX3_store_4 : decode cX3_store 4 = .ok (.iload_n 1, 1) := by decide +kernel
theorem dX3_store_5 : decode cX3_store 5 = .ok (.iconst 2, 1) := by decide +kernel
theorem dX3_store_6 : decode cX3_store 6 = .ok (.if_icmp .ge 20, 3) := by decide +kernel
theorem dX3_store_9 : decode cX3_store 9 = .ok (.aload_n 2, 1) := by decide +kernel
theorem dX3_store_10 : decode cX3_store 10 = .ok (.aload_n 0, 1) := by decide +kernel
theorem dX3_store_11 : decode cX3_store 11 = .ok (.getfield 13, 3) := by decide +kernel
theorem dX3_store_14 : decode cX3_store 14 = .ok (.iload_n 1, 1) := by decide +kernel
theorem dX3_store_15 : decode cX3_store 15 = .ok (.aaload, 1) := by decide +kernel
theorem dX3_store_16 : decode cX3_store 16 = .ok (.invokevirtual 22, 3) := by decide +kernel
theorem dX3_store_19 : decode cX3_store 19 = .ok (.aload_n 0, 1) := by decide +kernel
theorem dX3_store_20 : decode cX3_store 20 = .ok (.getfield 18, 3) := by decide +kernel
theorem dX3_store_23 : decode cX3_store 23 = .ok (.iload_n 1, 1) := by decide +kernel
theorem dX3_store_24 : decode cX3_store 24 = .ok (.iconst 1, 1) := by decide +kernel
theorem dX3_store_25 : decode cX3_store 25 = .ok (.bastore, 1) := by decide +kernel
theorem dX3_store_26 : decode cX3_store 26 = .ok (.return_, 1) := by decide +kernel
theorem dX3_fetch_0 : decode cX3_fetch 0 = .ok (.iload_n 1, 1) := by decide +kernel
theorem dX3_fetch_1 : decode cX3_fetch 1 = .ok (.ifCond .lt 17, 3) := by decide +kernel
theorem dX3_fetch_4 : decode cX3_fetch 4 = .ok (.iload_n 1, 1) := by decide +kernel
theorem dX3_fetch_5 : decode cX3_fetch 5 = .ok (.iconst 2, 1) := by decide +kernel
theorem dX3_fetch_6 : decode cX3_fetch 6 = .ok (.if_icmp .ge 12, 3) := by decide +kernel
theorem dX3_fetch_9 : decode cX3_fetch 9 = .ok (.aload_n 0, 1) := by decide +kernel
theorem dX3_fetch_10 : decode cX3_fetch 10 = .ok (.getfield 18, 3) := by decide +kernel
theorem dX3_fetch_13 : decode cX3_fetch 13 = .ok (.iload_n 1, 1) := by decide +kernel
theorem dX3_fetch_14 : decode cX3_fetch 14 = .ok (.baload, 1) := by decide +kernel
theorem dX3_fetch_15 : decode cX3_fetch 15 = .ok (.ifCond .ne 5, 3) := by decide +kernel
theorem dX3_fetch_18 : decode cX3_fetch 18 = .ok (.iconst 0, 1) := by decide +kernel
theorem dX3_fetch_19 : decode cX3_fetch 19 = .ok (.ireturn, 1) := by decide +kernel
theorem dX3_fetch_20 : decode cX3_fetch 20 = .ok (.aload_n 2, 1) := by decide +kernel
theorem dX3_fetch_21 : decode cX3_fetch 21 = .ok (.aload_n 0, 1) := by decide +kernel
theorem dX3_fetch_22 : decode cX3_fetch 22 = .ok (.getfield 13, 3) := by decide +kernel
theorem dX3_fetch_25 : decode cX3_fetch 25 = .ok (.iload_n 1, 1) := by decide +kernel
theorem dX3_fetch_26 : decode cX3_fetch 26 = .ok (.aaload, 1) := by decide +kernel
theorem dX3_fetch_27 : decode cX3_fetch 27 = .ok (.invokevirtual 26, 3) := by decide +kernel
theorem dX3_fetch_30 : decode cX3_fetch 30 = .ok (.iconst 1, 1) := by decide +kernel
theorem dX3_fetch_31 : decode cX3_fetch 31 = .ok (.ireturn, 1) := by decide +kernel
theorem dX4_init_0 : decode cX4_init 0 = .ok (.aload_n 0, 1) := by decide +kernel
theorem dX4_init_1 : decode cX4_init 1 = .ok (.invokespecial 3, 3) := by decide +kernel
theorem dX4_init_4 : decode cX4_init 4 = .ok (.aload_n 0, 1) := by decide +kernel
theorem dX4_init_5 : decode cX4_init 5 = .ok (.bipush 6, 2) := by decide +kernel
theorem dX4_init_7 : decode cX4_init 7 = .ok (.newarray .int, 2) := by decide +kernel
theorem dX4_init_9 : decode cX4_init 9 = .ok (.putfield 9, 3) := by decide +kernel
theorem dX4_init_12 : decode cX4_init 12 = .ok (.aload_n 0, 1) := by decide +kernel
theorem dX4_init_13 : decode cX4_init 13 = .ok (.bipush 6, 2) := by decide +kernel
theorem dX4_init_15 : decode cX4_init 15 = .ok (.newarray .int, 2) := by decide +kernel
theorem dX4_init_17 : decode cX4_init 17 = .ok (.putfield 15, 3) := by decide +kernel
theorem dX4_init_20 : decode cX4_init 20 = .ok (.aload_n 0, 1) := by decide +kernel
theorem dX4_init_21 : decode cX4_init 21 = .ok (.iconst 0, 1) := by decide +kernel
theorem dX4_init_22 : decode cX4_init 22 = .ok (.putfield 18, 3) := by decide +kernel
theorem dX4_init_25 : decode cX4_init 25 = .ok (.return_, 1) := by decide +kernel
theorem dX4_count_0 : decode cX4_count 0 = .ok (.aload_n 0, 1) := by decide +kernel
theorem dX4_count_1 : decode cX4_count 1 = .ok (.getfield 18, 3) := by decide +kernel
theorem dX4_count_4 : decode cX4_count 4 = .ok (.ireturn, 1) := by decide +kernel
theorem dX4_clear_0 : decode cX4_clear 0 = .ok (.aload_n 0, 1) := by decide +kernel
theorem dX4_clear_1 : decode cX4_clear 1 = .ok (.iconst 0, 1) := by decide +kernel
theorem dX4_clear_2 : decode cX4_clear 2 = .ok (.putfield 18, 3) := by decide +kernel
theorem dX4_clear_5 : decode cX4_clear 5 = .ok (.return_, 1) := by decide +kernel
theorem dX4_add_0 : decode cX4_add 0 = .ok (.aload_n 0, 1) := by decide +kernel
theorem dX4_add_1 : decode cX4_add 1 = .ok (.getfield 18, 3) := by decide +kernel
theorem dX4_add_4 : decode cX4_add 4 = .ok (.bipush 6, 2) := by decide +kernel
theorem dX4_add_6 : decode cX4_add 6 = .ok (.if_icmp .lt 5, 3) := by decide +kernel
theorem dX4_add_9 : decode cX4_add 9 = .ok (.iconst 0, 1) := by decide +kernel
theorem dX4_add_10 : decode cX4_add 10 = .ok (.ireturn, 1) := by decide +kernel
theorem dX4_add_11 : decode cX4_add 11 = .ok (.aload_n 0, 1) := by decide +kernel
theorem dX4_add_12 : decode cX4_add 12 = .ok (.getfield 9, 3) := by decide +kernel
theorem dX4_add_15 : decode cX4_add 15 = .ok (.aload_n 0, 1) := by decide +kernel
theorem dX4_add_16 : decode cX4_add 16 = .ok (.getfield 18, 3) := by decide +kernel
theorem dX4_add_19 : decode cX4_add 19 = .ok (.iload_n 1, 1) := by decide +kernel
theorem dX4_add_20 : decode cX4_add 20 = .ok (.iastore, 1) := by decide +kernel
theorem dX4_add_21 : decode cX4_add 21 = .ok (.aload_n 0, 1) := by decide +kernel
theorem dX4_add_22 : decode cX4_add 22 = .ok (.getfield 15, 3) := by decide +kernel
theorem dX4_add_25 : decode cX4_add 25 = .ok (.aload_n 0, 1) := by decide +kernel
theorem dX4_add_26 : decode cX4_add 26 = .ok (.getfield 18, 3) := by decide +kernel
theorem dX4_add_29 : decode cX4_add 29 = .ok (.iload_n 2, 1) := by decide +kernel
theorem dX4_add_30 : decode cX4_add 30 = .ok (.iastore, 1) := by decide +kernel
theorem dX4_add_31 : decode cX4_add 31 = .ok (.aload_n 0, 1) := by decide +kernel
theorem dX4_add_32 : decode cX4_add 32 = .ok (.dup, 1) := by decide +kernel
theorem dX4_add_33 : decode cX4_add 33 = .ok (.getfield 18, 3) := by decide +kernel
theorem dX4_add_36 : decode cX4_add 36 = .ok (.iconst 1, 1) := by decide +kernel
theorem dX4_add_37 : decode cX4_add 37 = .ok (.iadd, 1) := by decide +kernel
theorem dX4_add_38 : decode cX4_add 38 = .ok (.putfield 18, 3) := by decide +kernel
theorem dX4_add_41 : decode cX4_add 41 = .ok (.iconst 1, 1) := by decide +kernel
theorem dX4_add_42 : decode cX4_add 42 = .ok (.ireturn, 1) := by decide +kernel
theorem dX4_countFits_0 : decode cX4_countFits 0 = .ok (.iconst 0, 1) := by decide +kernel
theorem dX4_countFits_1 : decode cX4_countFits 1 = .ok (.istore_n 1, 1) := by decide +kernel
theorem dX4_countFits_2 : decode cX4_countFits 2 = .ok (.iconst 0, 1) := by decide +kernel
theorem dX4_countFits_3 : decode cX4_countFits 3 = .ok (.istore_n 2, 1) := by decide +kernel
theorem dX4_countFits_4 : decode cX4_countFits 4 = .ok (.iload_n 2, 1) := by decide +kernel
theorem dX4_countFits_5 : decode cX4_countFits 5 = .ok (.bipush 40, 2) := by decide +kernel
theorem dX4_countFits_7 : decode cX4_countFits 7 = .ok (.if_icmp .ge 25, 3) := by decide +kernel
theorem dX4_countFits_10 : decode cX4_countFits 10 = .ok (.iload_n 1, 1) := by decide +kernel
theorem dX4_countFits_11 : decode cX4_countFits 11 = .ok (.aload_n 0, 1) := by decide +kernel
theorem dX4_countFits_12 : decode cX4_countFits 12 = .ok (.iload_n 2, 1) := by decide +kernel
theorem dX4_countFits_13 : decode cX4_countFits 13 = .ok (.invokevirtual 22, 3) := by decide +kernel
theorem dX4_countFits_16 : decode cX4_countFits 16 = .ok (.ifCond .eq 7, 3) := by decide +kernel
theorem dX4_countFits_19 : decode cX4_countFits 19 = .ok (.iconst 1, 1) := by decide +kernel
theorem dX4_countFits_20 : decode cX4_countFits 20 = .ok (.goto 4, 3) := by decide +kernel
theorem dX4_countFits_23 : decode cX4_countFits 23 = .ok (.iconst 0, 1) := by decide +kernel
theorem dX4_countFits_24 : decode cX4_countFits 24 = .ok (.iadd, 1) := by decide +kernel
theorem dX4_countFits_25 : decode cX4_countFits 25 = .ok (.istore_n 1, 1) := by decide +kernel
theorem dX4_countFits_26 : decode cX4_countFits 26 = .ok (.iinc 2 1, 3) := by decide +kernel
theorem dX4_countFits_29 : decode cX4_countFits 29 = .ok (.goto (-25), 3) := by decide +kernel
theorem dX4_countFits_32 : decode cX4_countFits 32 = .ok (.iload_n 1, 1) := by decide +kernel
theorem dX4_countFits_33 : decode cX4_countFits 33 = .ok (.ireturn, 1) := by decide +kernel
theorem dX4_firstFit_0 : decode cX4_firstFit 0 = .ok (.iconst 0, 1) := by decide +kernel
theorem dX4_firstFit_1 : decode cX4_firstFit 1 = .ok (.istore_n 1, 1) := by decide +kernel
theorem dX4_firstFit_2 : decode cX4_firstFit 2 = .ok (.iload_n 1, 1) := by decide +kernel
theorem dX4_firstFit_3 : decode cX4_firstFit 3 = .ok (.bipush 40, 2) := by decide +kernel
theorem dX4_firstFit_5 : decode cX4_firstFit 5 = .ok (.if_icmp .ge 19, 3) := by decide +kernel
theorem dX4_firstFit_8 : decode cX4_firstFit 8 = .ok (.aload_n 0, 1) := by decide +kernel
theorem dX4_firstFit_9 : decode cX4_firstFit 9 = .ok (.iload_n 1, 1) := by decide +kernel
theorem dX4_firstFit_10 : decode cX4_firstFit 10 = .ok (.invokevirtual 22, 3) := by decide +kernel
theorem dX4_firstFit_13 : decode cX4_firstFit 13 = .ok (.ifCond .eq 5, 3) := by decide +kernel
theorem dX4_firstFit_16 : decode cX4_firstFit 16 = .ok (.iload_n 1, 1) := by decide +kernel
theorem dX4_firstFit_17 : decode cX4_firstFit 17 = .ok (.ireturn, 1) := by decide +kernel
theorem dX4_firstFit_18 : decode cX4_firstFit 18 = .ok (.iinc 1 1, 3) := by decide +kernel
theorem dX4_firstFit_21 : decode cX4_firstFit 21 = .ok (.goto (-19), 3) := by decide +kernel
theorem dX4_firstFit_24 : decode cX4_firstFit 24 = .ok (.bipush (-9), 2) := by decide +kernel
theorem dX4_firstFit_26 : decode cX4_firstFit 26 = .ok (.ireturn, 1) := by decide +kernel
theorem dX4_fits_0 : decode cX4_fits 0 = .ok (.iconst 0, 1) := by decide +kernel
theorem dX4_fits_1 : decode cX4_fits 1 = .ok (.istore_n 2, 1) := by decide +kernel
theorem dX4_fits_2 : decode cX4_fits 2 = .ok (.iload_n 2, 1) := by decide +kernel
theorem dX4_fits_3 : decode cX4_fits 3 = .ok (.aload_n 0, 1) := by decide +kernel
theorem dX4_fits_4 : decode cX4_fits 4 = .ok (.getfield 18, 3) := by decide +kernel
theorem dX4_fits_7 : decode cX4_fits 7 = .ok (.if_icmp .ge 43, 3) := by decide +kernel
theorem dX4_fits_10 : decode cX4_fits 10 = .ok (.iload_n 2, 1) := by decide +kernel
theorem dX4_fits_11 : decode cX4_fits 11 = .ok (.bipush 6, 2) := by decide +kernel
theorem dX4_fits_13 : decode cX4_fits 13 = .ok (.if_icmp .ge 37, 3) := by decide +kernel
theorem dX4_fits_16 : decode cX4_fits 16 = .ok (.aload_n 0, 1) := by decide +kernel
theorem dX4_fits_17 : decode cX4_fits 17 = .ok (.getfield 9, 3) := by decide +kernel
theorem dX4_fits_20 : decode cX4_fits 20 = .ok (.iload_n 2, 1) := by decide +kernel
theorem dX4_fits_21 : decode cX4_fits 21 = .ok (.iaload, 1) := by decide +kernel
theorem dX4_fits_22 : decode cX4_fits 22 = .ok (.iload_n 1, 1) := by decide +kernel
theorem dX4_fits_23 : decode cX4_fits 23 = .ok (.bipush 10, 2) := by decide +kernel
theorem dX4_fits_25 : decode cX4_fits 25 = .ok (.idiv, 1) := by decide +kernel
theorem dX4_fits_26 : decode cX4_fits 26 = .ok (.iload_n 1, 1) := by decide +kernel
theorem dX4_fits_27 : decode cX4_fits 27 = .ok (.bipush 10, 2) := by decide +kernel
theorem dX4_fits_29 : decode cX4_fits 29 = .ok (.irem, 1) := by decide +kernel
theorem dX4_fits_30 : decode cX4_fits 30 = .ok (.invokestatic 26, 3) := by decide +kernel
theorem dX4_fits_33 : decode cX4_fits 33 = .ok (.aload_n 0, 1) := by decide +kernel
theorem dX4_fits_34 : decode cX4_fits 34 = .ok (.getfield 15, 3) := by decide +kernel
theorem dX4_fits_37 : decode cX4_fits 37 = .ok (.iload_n 2, 1) := by decide +kernel
theorem dX4_fits_38 : decode cX4_fits 38 = .ok (.iaload, 1) := by decide +kernel
theorem dX4_fits_39 : decode cX4_fits 39 = .ok (.if_icmp .eq 5, 3) := by decide +kernel
theorem dX4_fits_42 : decode cX4_fits 42 = .ok (.iconst 0, 1) := by decide +kernel
theorem dX4_fits_43 : decode cX4_fits 43 = .ok (.ireturn, 1) := by decide +kernel
theorem dX4_fits_44 : decode cX4_fits 44 = .ok (.iinc 2 1, 3) := by decide +kernel
theorem dX4_fits_47 : decode cX4_fits 47 = .ok (.goto (-45), 3) := by decide +kernel
theorem dX4_fits_50 : decode cX4_fits 50 = .ok (.iconst 1, 1) := by decide +kernel
theorem dX4_fits_51 : decode cX4_fits 51 = .ok (.ireturn, 1) := by decide +kernel
theorem dX4_outOf_0 : decode cX4_outOf 0 = .ok (.iload_n 0, 1) := by decide +kernel
theorem dX4_outOf_1 : decode cX4_outOf 1 = .ok (.istore_n 3, 1) := by decide +kernel
theorem dX4_outOf_2 : decode cX4_outOf 2 = .ok (.iconst 0, 1) := by decide +kernel
theorem dX4_outOf_3 : decode cX4_outOf 3 = .ok (.istore 4, 2) := by decide +kernel
theorem dX4_outOf_5 : decode cX4_outOf 5 = .ok (.iload 4, 2) := by decide +kernel
theorem dX4_outOf_7 : decode cX4_outOf 7 = .ok (.iload_n 2, 1) := by decide +kernel
theorem dX4_outOf_8 : decode cX4_outOf 8 = .ok (.if_icmp .ge 15, 3) := by decide +kernel
theorem dX4_outOf_11 : decode cX4_outOf 11 = .ok (.iload_n 3, 1) := by decide +kernel
theorem dX4_outOf_12 : decode cX4_outOf 12 = .ok (.iload_n 1, 1) := by decide +kernel
theorem dX4_outOf_13 : decode cX4_outOf 13 = .ok (.invokestatic 30, 3) := by decide +kernel
theorem dX4_outOf_16 : decode cX4_outOf 16 = .ok (.istore_n 3, 1) := by decide +kernel
theorem dX4_outOf_17 : decode cX4_outOf 17 = .ok (.iinc 4 1, 3) := by decide +kernel
theorem dX4_outOf_20 : decode cX4_outOf 20 = .ok (.goto (-15), 3) := by decide +kernel
theorem dX4_outOf_23 : decode cX4_outOf 23 = .ok (.iload_n 3, 1) := by decide +kernel
theorem dX4_outOf_24 : decode cX4_outOf 24 = .ok (.ireturn, 1) := by decide +kernel
theorem dX5_init_0 : decode cX5_init 0 = .ok (.aload_n 0, 1) := by decide +kernel
theorem dX5_init_1 : decode cX5_init 1 = .ok (.invokespecial 3, 3) := by decide +kernel
theorem dX5_init_4 : decode cX5_init 4 = .ok (.aload_n 0, 1) := by decide +kernel
theorem dX5_init_5 : decode cX5_init 5 = .ok (.bipush 48, 2) := by decide +kernel
theorem dX5_init_7 : decode cX5_init 7 = .ok (.newarray .int, 2) := by decide +kernel
theorem dX5_init_9 : decode cX5_init 9 = .ok (.putfield 9, 3) := by decide +kernel
theorem dX5_init_12 : decode cX5_init 12 = .ok (.aload_n 0, 1) := by decide +kernel
theorem dX5_init_13 : decode cX5_init 13 = .ok (.iconst 0, 1) := by decide +kernel
theorem dX5_init_14 : decode cX5_init 14 = .ok (.putfield 15, 3) := by decide +kernel
theorem dX5_init_17 : decode cX5_init 17 = .ok (.return_, 1) := by decide +kernel
theorem dX5_length_0 : decode cX5_length 0 = .ok (.aload_n 0, 1) := by decide +kernel
theorem dX5_length_1 : decode cX5_length 1 = .ok (.getfield 15, 3) := by decide +kernel
theorem dX5_length_4 : decode cX5_length 4 = .ok (.ireturn, 1) := by decide +kernel
theorem dX5_clear_0 : decode cX5_clear 0 = .ok (.aload_n 0, 1) := by decide +kernel
theorem dX5_clear_1 : decode cX5_clear 1 = .ok (.iconst 0, 1) := by decide +kernel
theorem dX5_clear_2 : decode cX5_clear 2 = .ok (.putfield 15, 3) := by decide +kernel
theorem dX5_clear_5 : decode cX5_clear 5 = .ok (.return_, 1) := by decide +kernel
theorem dX5_add_0 : decode cX5_add 0 = .ok (.aload_n 0, 1) := by decide +kernel
theorem dX5_add_1 : decode cX5_add 1 = .ok (.getfield 15, 3) := by decide +kernel
theorem dX5_add_4 : decode cX5_add 4 = .ok (.bipush 48, 2) := by decide +kernel
theorem dX5_add_6 : decode cX5_add 6 = .ok (.if_icmp .lt 5, 3) := by decide +kernel
theorem dX5_add_9 : decode cX5_add 9 = .ok (.iconst 0, 1) := by decide +kernel
theorem dX5_add_10 : decode cX5_add 10 = .ok (.ireturn, 1) := by decide +kernel
theorem dX5_add_11 : decode cX5_add 11 = .ok (.aload_n 0, 1) := by decide +kernel
theorem dX5_add_12 : decode cX5_add 12 = .ok (.getfield 9, 3) := by decide +kernel
theorem dX5_add_15 : decode cX5_add 15 = .ok (.aload_n 0, 1) := by decide +kernel
theorem dX5_add_16 : decode cX5_add 16 = .ok (.getfield 15, 3) := by decide +kernel
theorem dX5_add_19 : decode cX5_add 19 = .ok (.iload_n 1, 1) := by decide +kernel
theorem dX5_add_20 : decode cX5_add 20 = .ok (.iastore, 1) := by decide +kernel
theorem dX5_add_21 : decode cX5_add 21 = .ok (.aload_n 0, 1) := by decide +kernel
theorem dX5_add_22 : decode cX5_add 22 = .ok (.dup, 1) := by decide +kernel
theorem dX5_add_23 : decode cX5_add 23 = .ok (.getfield 15, 3) := by decide +kernel
theorem dX5_add_26 : decode cX5_add 26 = .ok (.iconst 1, 1) := by decide +kernel
theorem dX5_add_27 : decode cX5_add 27 = .ok (.iadd, 1) := by decide +kernel
theorem dX5_add_28 : decode cX5_add 28 = .ok (.putfield 15, 3) := by decide +kernel
theorem dX5_add_31 : decode cX5_add 31 = .ok (.iconst 1, 1) := by decide +kernel
theorem dX5_add_32 : decode cX5_add 32 = .ok (.ireturn, 1) := by decide +kernel
theorem dX5_firstFault_0 : decode cX5_firstFault 0 = .ok (.iconst 0, 1) := by decide +kernel
theorem dX5_firstFault_1 : decode cX5_firstFault 1 = .ok (.istore_n 1, 1) := by decide +kernel
theorem dX5_firstFault_2 : decode cX5_firstFault 2 = .ok (.iconst 0, 1) := by decide +kernel
theorem dX5_firstFault_3 : decode cX5_firstFault 3 = .ok (.istore_n 2, 1) := by decide +kernel
theorem dX5_firstFault_4 : decode cX5_firstFault 4 = .ok (.iload_n 2, 1) := by decide +kernel
theorem dX5_firstFault_5 : decode cX5_firstFault 5 = .ok (.aload_n 0, 1) := by decide +kernel
theorem dX5_firstFault_6 : decode cX5_firstFault 6 = .ok (.getfield 15, 3) := by decide +kernel
theorem dX5_firstFault_9 : decode cX5_firstFault 9 = .ok (.if_icmp .ge 38, 3) := by decide +kernel
theorem dX5_firstFault_12 : decode cX5_firstFault 12 = .ok (.aload_n 0, 1) := by decide +kernel
theorem dX5_firstFault_13 : decode cX5_firstFault 13 = .ok (.iload_n 2, 1) := by decide +kernel
theorem dX5_firstFault_14 : decode cX5_firstFault 14 = .ok (.iload_n 1, 1) := by decide +kernel
theorem dX5_firstFault_15 : decode cX5_firstFault 15 = .ok (.invokevirtual 19, 3) := by decide +kernel
theorem dX5_firstFault_18 : decode cX5_firstFault 18 = .ok (.ifCond .ne 5, 3) := by decide +kernel
theorem dX5_firstFault_21 : decode cX5_firstFault 21 = .ok (.iload_n 2, 1) := by decide +kernel
theorem dX5_firstFault_22 : decode cX5_firstFault 22 = .ok (.ireturn, 1) := by decide +kernel
theorem dX5_firstFault_23 : decode cX5_firstFault 23 = .ok (.iload_n 2, 1) := by decide +kernel
theorem dX5_firstFault_24 : decode cX5_firstFault 24 = .ok (.invokestatic 23, 3) := by decide +kernel
theorem dX5_firstFault_27 : decode cX5_firstFault 27 = .ok (.iconst 1, 1) := by decide +kernel
theorem dX5_firstFault_28 : decode cX5_firstFault 28 = .ok (.if_icmp .ne 13, 3) := by decide +kernel
theorem dX5_firstFault_31 : decode cX5_firstFault 31 = .ok (.iload_n 1, 1) := by decide +kernel
theorem dX5_firstFault_32 : decode cX5_firstFault 32 = .ok (.iconst 1, 1) := by decide +kernel
theorem dX5_firstFault_33 : decode cX5_firstFault 33 = .ok (.aload_n 0, 1) := by decide +kernel
theorem dX5_firstFault_34 : decode cX5_firstFault 34 = .ok (.iload_n 2, 1) := by decide +kernel
theorem dX5_firstFault_35 : decode cX5_firstFault 35 = .ok (.invokevirtual 27, 3) := by decide +kernel
theorem dX5_firstFault_38 : decode cX5_firstFault 38 = .ok (.ishl, 1) := by decide +kernel
theorem dX5_firstFault_39 : decode cX5_firstFault 39 = .ok (.ior, 1) := by decide +kernel
theorem dX5_firstFault_40 : decode cX5_firstFault 40 = .ok (.istore_n 1, 1) := by decide +kernel
theorem dX5_firstFault_41 : decode cX5_firstFault 41 = .ok (.iinc 2 1, 3) := by decide +kernel
theorem dX5_firstFault_44 : decode cX5_firstFault 44 = .ok (.goto (-40), 3) := by decide +kernel
theorem dX5_firstFault_47 : decode cX5_firstFault 47 = .ok (.aload_n 0, 1) := by decide +kernel
theorem dX5_firstFault_48 : decode cX5_firstFault 48 = .ok (.getfield 15, 3) := by decide +kernel
theorem dX5_firstFault_51 : decode cX5_firstFault 51 = .ok (.bipush 6, 2) := by decide +kernel
theorem dX5_firstFault_53 : decode cX5_firstFault 53 = .ok (.irem, 1) := by decide +kernel
theorem dX5_firstFault_54 : decode cX5_firstFault 54 = .ok (.iconst 1, 1) := by decide +kernel
theorem dX5_firstFault_55 : decode cX5_firstFault 55 = .ok (.if_icmp .ne 8, 3) := by decide +kernel
theorem dX5_firstFault_58 : decode cX5_firstFault 58 = .ok (.bipush (-9), 2) := by decide +kernel
theorem dX5_firstFault_60 : decode cX5_firstFault 60 = .ok (.goto 7, 3) := by decide +kernel
theorem dX5_firstFault_63 : decode cX5_firstFault 63 = .ok (.aload_n 0, 1) := by decide +kernel
theorem dX5_firstFault_64 : decode cX5_firstFault 64 = .ok (.getfield 15, 3) := by decide +kernel
theorem dX5_firstFault_67 : decode cX5_firstFault 67 = .ok (.ireturn, 1) := by decide +kernel
theorem dX5_columnOf_0 : decode cX5_columnOf 0 = .ok (.iload_n 0, 1) := by decide +kernel
theorem dX5_columnOf_1 : decode cX5_columnOf 1 = .ok (.iconst 1, 1) := by decide +kernel
theorem dX5_columnOf_2 : decode cX5_columnOf 2 = .ok (.if_icmp .ge 8, 3) := by decide +kernel
theorem dX5_columnOf_5 : decode cX5_columnOf 5 = .ok (.bipush (-9), 2) := by decide +kernel
theorem dX5_columnOf_7 : decode cX5_columnOf 7 = .ok (.goto 9, 3) := by decide +kernel
theorem dX5_columnOf_10 : decode cX5_columnOf 10 = .ok (.iload_n 0, 1) := by decide +kernel
theorem dX5_columnOf_11 : decode cX5_columnOf 11 = .ok (.iconst 1, 1) := by decide +kernel
theorem dX5_columnOf_12 : decode cX5_columnOf 12 = .ok (.isub, 1) := by decide +kernel
theorem dX5_columnOf_13 : decode cX5_columnOf 13 = .ok (.bipush 6, 2) := by decide +kernel
theorem dX5_columnOf_15 : decode cX5_columnOf 15 = .ok (.irem, 1) := by decide +kernel
theorem dX5_columnOf_16 : decode cX5_columnOf 16 = .ok (.ireturn, 1) := by decide +kernel
theorem dX5_canBe_0 : decode cX5_canBe 0 = .ok (.iload_n 1, 1) := by decide +kernel
theorem dX5_canBe_1 : decode cX5_canBe 1 = .ok (.bipush 36, 2) := by decide +kernel
theorem dX5_canBe_3 : decode cX5_canBe 3 = .ok (.if_icmp .le 5, 3) := by decide +kernel
theorem dX5_canBe_6 : decode cX5_canBe 6 = .ok (.iconst 0, 1) := by decide +kernel
theorem dX5_canBe_7 : decode cX5_canBe 7 = .ok (.ireturn, 1) := by decide +kernel
theorem dX5_canBe_8 : decode cX5_canBe 8 = .ok (.aload_n 0, 1) := by decide +kernel
theorem dX5_canBe_9 : decode cX5_canBe 9 = .ok (.iload_n 1, 1) := by decide +kernel
theorem dX5_canBe_10 : decode cX5_canBe 10 = .ok (.invokevirtual 27, 3) := by decide +kernel
theorem dX5_canBe_13 : decode cX5_canBe 13 = .ok (.istore_n 3, 1) := by decide +kernel
theorem dX5_canBe_14 : decode cX5_canBe 14 = .ok (.iload_n 1, 1) := by decide +kernel
theorem dX5_canBe_15 : decode cX5_canBe 15 = .ok (.invokestatic 23, 3) := by decide +kernel
theorem dX5_canBe_18 : decode cX5_canBe 18 = .ok (.tableswitch 148 (-9) 4 #[70, 148, 148, 148, 148, 148, 148, 148, 148, 86, 102, 123, 128, 133], 70) := by decide +kernel
theorem dX5_canBe_88 : decode cX5_canBe 88 = .ok (.aload_n 0, 1) := by decide +kernel
theorem dX5_canBe_89 : decode cX5_canBe 89 = .ok (.iload_n 1, 1) := by decide +kernel
theorem dX5_canBe_90 : decode cX5_canBe 90 = .ok (.invokevirtual 30, 3) := by decide +kernel
theorem dX5_canBe_93 : decode cX5_canBe 93 = .ok (.bipush 83, 2) := by decide +kernel
theorem dX5_canBe_95 : decode cX5_canBe 95 = .ok (.if_icmp .ne 7, 3) := by decide +kernel
theorem dX5_canBe_98 : decode cX5_canBe 98 = .ok (.iconst 1, 1) := by decide +kernel
theorem dX5_canBe_99 : decode cX5_canBe 99 = .ok (.goto 4, 3) := by decide +kernel
theorem dX5_canBe_102 : decode cX5_canBe 102 = .ok (.iconst 0, 1) := by decide +kernel
theorem dX5_canBe_103 : decode cX5_canBe 103 = .ok (.ireturn, 1) := by decide +kernel
theorem dX5_canBe_104 : decode cX5_canBe 104 = .ok (.aload_n 0, 1) := by decide +kernel
theorem dX5_canBe_105 : decode cX5_canBe 105 = .ok (.iload_n 1, 1) := by decide +kernel
theorem dX5_canBe_106 : decode cX5_canBe 106 = .ok (.invokevirtual 30, 3) := by decide +kernel
theorem dX5_canBe_109 : decode cX5_canBe 109 = .ok (.bipush 74, 2) := by decide +kernel
theorem dX5_canBe_111 : decode cX5_canBe 111 = .ok (.if_icmp .ne 7, 3) := by decide +kernel
theorem dX5_canBe_114 : decode cX5_canBe 114 = .ok (.iconst 1, 1) := by decide +kernel
theorem dX5_canBe_115 : decode cX5_canBe 115 = .ok (.goto 4, 3) := by decide +kernel
theorem dX5_canBe_118 : decode cX5_canBe 118 = .ok (.iconst 0, 1) := by decide +kernel
theorem dX5_canBe_119 : decode cX5_canBe 119 = .ok (.ireturn, 1) := by decide +kernel
theorem dX5_canBe_120 : decode cX5_canBe 120 = .ok (.iload_n 3, 1) := by decide +kernel
theorem dX5_canBe_121 : decode cX5_canBe 121 = .ok (.invokestatic 33, 3) := by decide +kernel
theorem dX5_canBe_124 : decode cX5_canBe 124 = .ok (.ifCond .eq 15, 3) := by decide +kernel
theorem dX5_canBe_127 : decode cX5_canBe 127 = .ok (.iload_n 2, 1) := by decide +kernel
theorem dX5_canBe_128 : decode cX5_canBe 128 = .ok (.iload_n 3, 1) := by decide +kernel
theorem dX5_canBe_129 : decode cX5_canBe 129 = .ok (.invokestatic 37, 3) := by decide +kernel
theorem dX5_canBe_132 : decode cX5_canBe 132 = .ok (.ifCond .ne 7, 3) := by decide +kernel
theorem dX5_canBe_135 : decode cX5_canBe 135 = .ok (.iconst 1, 1) := by decide +kernel
theorem dX5_canBe_136 : decode cX5_canBe 136 = .ok (.goto 4, 3) := by decide +kernel
theorem dX5_canBe_139 : decode cX5_canBe 139 = .ok (.iconst 0, 1) := by decide +kernel
theorem dX5_canBe_140 : decode cX5_canBe 140 = .ok (.ireturn, 1) := by decide +kernel
theorem dX5_canBe_141 : decode cX5_canBe 141 = .ok (.iload_n 3, 1) := by decide +kernel
theorem dX5_canBe_142 : decode cX5_canBe 142 = .ok (.invokestatic 40, 3) := by decide +kernel
theorem dX5_canBe_145 : decode cX5_canBe 145 = .ok (.ireturn, 1) := by decide +kernel
theorem dX5_canBe_146 : decode cX5_canBe 146 = .ok (.iload_n 3, 1) := by decide +kernel
theorem dX5_canBe_147 : decode cX5_canBe 147 = .ok (.invokestatic 43, 3) := by decide +kernel
theorem dX5_canBe_150 : decode cX5_canBe 150 = .ok (.ireturn, 1) := by decide +kernel
theorem dX5_canBe_151 : decode cX5_canBe 151 = .ok (.iload_n 3, 1) := by decide +kernel
theorem dX5_canBe_152 : decode cX5_canBe 152 = .ok (.ifCond .lt 12, 3) := by decide +kernel
theorem dX5_canBe_155 : decode cX5_canBe 155 = .ok (.iload_n 3, 1) := by decide +kernel
theorem dX5_canBe_156 : decode cX5_canBe 156 = .ok (.iconst 3, 1) := by decide +kernel
theorem dX5_canBe_157 : decode cX5_canBe 157 = .ok (.if_icmp .gt 7, 3) := by decide +kernel
theorem dX5_canBe_160 : decode cX5_canBe 160 = .ok (.iconst 1, 1) := by decide +kernel
theorem dX5_canBe_161 : decode cX5_canBe 161 = .ok (.goto 4, 3) := by decide +kernel
theorem dX5_canBe_164 : decode cX5_canBe 164 = .ok (.iconst 0, 1) := by decide +kernel
theorem dX5_canBe_165 : decode cX5_canBe 165 = .ok (.ireturn, 1) := by decide +kernel
theorem dX5_canBe_166 : decode cX5_canBe 166 = .ok (.iload_n 3, 1) := by decide +kernel
theorem dX5_canBe_167 : decode cX5_canBe 167 = .ok (.iconst 1, 1) := by decide +kernel
theorem dX5_canBe_168 : decode cX5_canBe 168 = .ok (.if_icmp .lt 13, 3) := by decide +kernel
theorem dX5_canBe_171 : decode cX5_canBe 171 = .ok (.iload_n 3, 1) := by decide +kernel
theorem dX5_canBe_172 : decode cX5_canBe 172 = .ok (.bipush 9, 2) := by decide +kernel
theorem dX5_canBe_174 : decode cX5_canBe 174 = .ok (.if_icmp .gt 7, 3) := by decide +kernel
theorem dX5_canBe_177 : decode cX5_canBe 177 = .ok (.iconst 1, 1) := by decide +kernel
theorem dX5_canBe_178 : decode cX5_canBe 178 = .ok (.goto 4, 3) := by decide +kernel
theorem dX5_canBe_181 : decode cX5_canBe 181 = .ok (.iconst 0, 1) := by decide +kernel
theorem dX5_canBe_182 : decode cX5_canBe 182 = .ok (.ireturn, 1) := by decide +kernel
theorem dX5_letter_0 : decode cX5_letter 0 = .ok (.iload_n 1, 1) := by decide +kernel
theorem dX5_letter_1 : decode cX5_letter 1 = .ok (.ifCond .lt 26, 3) := by decide +kernel
theorem dX5_letter_4 : decode cX5_letter 4 = .ok (.iload_n 1, 1) := by decide +kernel
theorem dX5_letter_5 : decode cX5_letter 5 = .ok (.aload_n 0, 1) := by decide +kernel
theorem dX5_letter_6 : decode cX5_letter 6 = .ok (.getfield 15, 3) := by decide +kernel
theorem dX5_letter_9 : decode cX5_letter 9 = .ok (.if_icmp .ge 18, 3) := by decide +kernel
theorem dX5_letter_12 : decode cX5_letter 12 = .ok (.iload_n 1, 1) := by decide +kernel
theorem dX5_letter_13 : decode cX5_letter 13 = .ok (.bipush 48, 2) := by decide +kernel
theorem dX5_letter_15 : decode cX5_letter 15 = .ok (.if_icmp .ge 12, 3) := by decide +kernel
theorem dX5_letter_18 : decode cX5_letter 18 = .ok (.aload_n 0, 1) := by decide +kernel
theorem dX5_letter_19 : decode cX5_letter 19 = .ok (.getfield 9, 3) := by decide +kernel
theorem dX5_letter_22 : decode cX5_letter 22 = .ok (.iload_n 1, 1) := by decide +kernel
theorem dX5_letter_23 : decode cX5_letter 23 = .ok (.iaload, 1) := by decide +kernel
theorem dX5_letter_24 : decode cX5_letter 24 = .ok (.goto 5, 3) := by decide +kernel
theorem dX5_letter_27 : decode cX5_letter 27 = .ok (.bipush (-9), 2) := by decide +kernel
theorem dX5_letter_29 : decode cX5_letter 29 = .ok (.ireturn, 1) := by decide +kernel
theorem dX5_figure_0 : decode cX5_figure 0 = .ok (.aload_n 0, 1) := by decide +kernel
theorem dX5_figure_1 : decode cX5_figure 1 = .ok (.iload_n 1, 1) := by decide +kernel
theorem dX5_figure_2 : decode cX5_figure 2 = .ok (.invokevirtual 30, 3) := by decide +kernel
theorem dX5_figure_5 : decode cX5_figure 5 = .ok (.bipush 48, 2) := by decide +kernel
theorem dX5_figure_7 : decode cX5_figure 7 = .ok (.isub, 1) := by decide +kernel
theorem dX5_figure_8 : decode cX5_figure 8 = .ok (.ireturn, 1) := by decide +kernel
theorem dX5_fillShelf_0 : decode cX5_fillShelf 0 = .ok (.aload_n 1, 1) := by decide +kernel
theorem dX5_fillShelf_1 : decode cX5_fillShelf 1 = .ok (.invokevirtual 46, 3) := by decide +kernel
theorem dX5_fillShelf_4 : decode cX5_fillShelf 4 = .ok (.iconst 1, 1) := by decide +kernel
theorem dX5_fillShelf_5 : decode cX5_fillShelf 5 = .ok (.istore_n 2, 1) := by decide +kernel
theorem dX5_fillShelf_6 : decode cX5_fillShelf 6 = .ok (.iload_n 2, 1) := by decide +kernel
theorem dX5_fillShelf_7 : decode cX5_fillShelf 7 = .ok (.bipush 6, 2) := by decide +kernel
theorem dX5_fillShelf_9 : decode cX5_fillShelf 9 = .ok (.iadd, 1) := by decide +kernel
theorem dX5_fillShelf_10 : decode cX5_fillShelf 10 = .ok (.aload_n 0, 1) := by decide +kernel
theorem dX5_fillShelf_11 : decode cX5_fillShelf 11 = .ok (.getfield 15, 3) := by decide +kernel
theorem dX5_fillShelf_14 : decode cX5_fillShelf 14 = .ok (.if_icmp .gt 48, 3) := by decide +kernel
theorem dX5_fillShelf_17 : decode cX5_fillShelf 17 = .ok (.aload_n 1, 1) := by decide +kernel
theorem dX5_fillShelf_18 : decode cX5_fillShelf 18 = .ok (.aload_n 0, 1) := by decide +kernel
theorem dX5_fillShelf_19 : decode cX5_fillShelf 19 = .ok (.iload_n 2, 1) := by decide +kernel
theorem dX5_fillShelf_20 : decode cX5_fillShelf 20 = .ok (.iconst 1, 1) := by decide +kernel
theorem dX5_fillShelf_21 : decode cX5_fillShelf 21 = .ok (.iadd, 1) := by decide +kernel
theorem dX5_fillShelf_22 : decode cX5_fillShelf 22 = .ok (.invokevirtual 27, 3) := by decide +kernel
theorem dX5_fillShelf_25 : decode cX5_fillShelf 25 = .ok (.aload_n 0, 1) := by decide +kernel
theorem dX5_fillShelf_26 : decode cX5_fillShelf 26 = .ok (.iload_n 2, 1) := by decide +kernel
theorem dX5_fillShelf_27 : decode cX5_fillShelf 27 = .ok (.iconst 2, 1) := by decide +kernel
theorem dX5_fillShelf_28 : decode cX5_fillShelf 28 = .ok (.iadd, 1) := by decide +kernel
theorem dX5_fillShelf_29 : decode cX5_fillShelf 29 = .ok (.invokevirtual 27, 3) := by decide +kernel
theorem dX5_fillShelf_32 : decode cX5_fillShelf 32 = .ok (.aload_n 0, 1) := by decide +kernel
theorem dX5_fillShelf_33 : decode cX5_fillShelf 33 = .ok (.iload_n 2, 1) := by decide +kernel
theorem dX5_fillShelf_34 : decode cX5_fillShelf 34 = .ok (.iconst 3, 1) := by decide +kernel
theorem dX5_fillShelf_35 : decode cX5_fillShelf 35 = .ok (.iadd, 1) := by decide +kernel
theorem dX5_fillShelf_36 : decode cX5_fillShelf 36 = .ok (.invokevirtual 27, 3) := by decide +kernel
theorem dX5_fillShelf_39 : decode cX5_fillShelf 39 = .ok (.aload_n 0, 1) := by decide +kernel
theorem dX5_fillShelf_40 : decode cX5_fillShelf 40 = .ok (.iload_n 2, 1) := by decide +kernel
theorem dX5_fillShelf_41 : decode cX5_fillShelf 41 = .ok (.iconst 4, 1) := by decide +kernel
theorem dX5_fillShelf_42 : decode cX5_fillShelf 42 = .ok (.iadd, 1) := by decide +kernel
theorem dX5_fillShelf_43 : decode cX5_fillShelf 43 = .ok (.invokevirtual 27, 3) := by decide +kernel
theorem dX5_fillShelf_46 : decode cX5_fillShelf 46 = .ok (.aload_n 0, 1) := by decide +kernel
theorem dX5_fillShelf_47 : decode cX5_fillShelf 47 = .ok (.iload_n 2, 1) := by decide +kernel
theorem dX5_fillShelf_48 : decode cX5_fillShelf 48 = .ok (.iconst 5, 1) := by decide +kernel
theorem dX5_fillShelf_49 : decode cX5_fillShelf 49 = .ok (.iadd, 1) := by decide +kernel
theorem dX5_fillShelf_50 : decode cX5_fillShelf 50 = .ok (.invokevirtual 27, 3) := by decide +kernel
theorem dX5_fillShelf_53 : decode cX5_fillShelf 53 = .ok (.invokevirtual 51, 3) := by decide +kernel
theorem dX5_fillShelf_56 : decode cX5_fillShelf 56 = .ok (.iinc 2 6, 3) := by decide +kernel
theorem dX5_fillShelf_59 : decode cX5_fillShelf 59 = .ok (.goto (-53), 3) := by decide +kernel
theorem dX5_fillShelf_62 : decode cX5_fillShelf 62 = .ok (.return_, 1) := by decide +kernel
theorem dX6_init_0 : decode cX6_init 0 = .ok (.aload_n 0, 1) := by decide +kernel
theorem dX6_init_1 : decode cX6_init 1 = .ok (.invokespecial 3, 3) := by decide +kernel
theorem dX6_init_4 : decode cX6_init 4 = .ok (.aload_n 0, 1) := by decide +kernel
theorem dX6_init_5 : decode cX6_init 5 = .ok (.bipush 6, 2) := by decide +kernel
theorem dX6_init_7 : decode cX6_init 7 = .ok (.newarray .int, 2) := by decide +kernel
theorem dX6_init_9 : decode cX6_init 9 = .ok (.putfield 9, 3) := by decide +kernel
theorem dX6_init_12 : decode cX6_init 12 = .ok (.aload_n 0, 1) := by decide +kernel
theorem dX6_init_13 : decode cX6_init 13 = .ok (.bipush 6, 2) := by decide +kernel
theorem dX6_init_15 : decode cX6_init 15 = .ok (.newarray .int, 2) := by decide +kernel
theorem dX6_init_17 : decode cX6_init 17 = .ok (.putfield 15, 3) := by decide +kernel
theorem dX6_init_20 : decode cX6_init 20 = .ok (.aload_n 0, 1) := by decide +kernel
theorem dX6_init_21 : decode cX6_init 21 = .ok (.iconst 0, 1) := by decide +kernel
theorem dX6_init_22 : decode cX6_init 22 = .ok (.putfield 18, 3) := by decide +kernel
theorem dX6_init_25 : decode cX6_init 25 = .ok (.aload_n 0, 1) := by decide +kernel
theorem dX6_init_26 : decode cX6_init 26 = .ok (.iconst 0, 1) := by decide +kernel
theorem dX6_init_27 : decode cX6_init 27 = .ok (.putfield 22, 3) := by decide +kernel
theorem dX6_init_30 : decode cX6_init 30 = .ok (.aload_n 0, 1) := by decide +kernel
theorem dX6_init_31 : decode cX6_init 31 = .ok (.iconst 0, 1) := by decide +kernel
theorem dX6_init_32 : decode cX6_init 32 = .ok (.putfield 25, 3) := by decide +kernel
theorem dX6_init_35 : decode cX6_init 35 = .ok (.return_, 1) := by decide +kernel
theorem dX6_most_0 : decode cX6_most 0 = .ok (.aload_n 0, 1) := by decide +kernel
theorem dX6_most_1 : decode cX6_most 1 = .ok (.getfield 22, 3) := by decide +kernel
theorem dX6_most_4 : decode cX6_most 4 = .ok (.ireturn, 1) := by decide +kernel
theorem dX6_figures_0 : decode cX6_figures 0 = .ok (.aload_n 0, 1) := by decide +kernel
theorem dX6_figures_1 : decode cX6_figures 1 = .ok (.getfield 25, 3) := by decide +kernel
theorem dX6_figures_4 : decode cX6_figures 4 = .ok (.ireturn, 1) := by decide +kernel
theorem dX6_search_0 : decode cX6_search 0 = .ok (.aload_n 0, 1) := by decide +kernel
theorem dX6_search_1 : decode cX6_search 1 = .ok (.aload_n 1, 1) := by decide +kernel
theorem dX6_search_2 : decode cX6_search 2 = .ok (.invokevirtual 28, 3) := by decide +kernel
theorem dX6_search_5 : decode cX6_search 5 = .ok (.aload_n 1, 1) := by decide +kernel
theorem dX6_search_6 : decode cX6_search 6 = .ok (.iconst 0, 1) := by decide +kernel
theorem dX6_search_7 : decode cX6_search 7 = .ok (.invokevirtual 32, 3) := by decide +kernel
theorem dX6_search_10 : decode cX6_search 10 = .ok (.aload_n 1, 1) := by decide +kernel
theorem dX6_search_11 : decode cX6_search 11 = .ok (.iconst 2, 1) := by decide +kernel
theorem dX6_search_12 : decode cX6_search 12 = .ok (.invokevirtual 32, 3) := by decide +kernel
theorem dX6_search_15 : decode cX6_search 15 = .ok (.invokestatic 38, 3) := by decide +kernel
theorem dX6_search_18 : decode cX6_search 18 = .ok (.istore_n 2, 1) := by decide +kernel
theorem dX6_search_19 : decode cX6_search 19 = .ok (.aload_n 0, 1) := by decide +kernel
theorem dX6_search_20 : decode cX6_search 20 = .ok (.bipush (-9), 2) := by decide +kernel
theorem dX6_search_22 : decode cX6_search 22 = .ok (.putfield 22, 3) := by decide +kernel
theorem dX6_search_25 : decode cX6_search 25 = .ok (.iconst 1, 1) := by decide +kernel
theorem dX6_search_26 : decode cX6_search 26 = .ok (.istore_n 3, 1) := by decide +kernel
theorem dX6_search_27 : decode cX6_search 27 = .ok (.iconst 0, 1) := by decide +kernel
theorem dX6_search_28 : decode cX6_search 28 = .ok (.istore 4, 2) := by decide +kernel
theorem dX6_search_30 : decode cX6_search 30 = .ok (.iload 4, 2) := by decide +kernel
theorem dX6_search_32 : decode cX6_search 32 = .ok (.sipush 720, 3) := by decide +kernel
theorem dX6_search_35 : decode cX6_search 35 = .ok (.if_icmp .ge 39, 3) := by decide +kernel
theorem dX6_search_38 : decode cX6_search 38 = .ok (.iload_n 3, 1) := by decide +kernel
theorem dX6_search_39 : decode cX6_search 39 = .ok (.ifCond .eq 35, 3) := by decide +kernel
theorem dX6_search_42 : decode cX6_search 42 = .ok (.aload_n 0, 1) := by decide +kernel
theorem dX6_search_43 : decode cX6_search 43 = .ok (.aload_n 1, 1) := by decide +kernel
theorem dX6_search_44 : decode cX6_search 44 = .ok (.invokevirtual 44, 3) := by decide +kernel
theorem dX6_search_47 : decode cX6_search 47 = .ok (.aload_n 0, 1) := by decide +kernel
theorem dX6_search_48 : decode cX6_search 48 = .ok (.getfield 22, 3) := by decide +kernel
theorem dX6_search_51 : decode cX6_search 51 = .ok (.iload_n 2, 1) := by decide +kernel
theorem dX6_search_52 : decode cX6_search 52 = .ok (.if_icmp .ge 14, 3) := by decide +kernel
theorem dX6_search_55 : decode cX6_search 55 = .ok (.aload_n 0, 1) := by decide +kernel
theorem dX6_search_56 : decode cX6_search 56 = .ok (.invokevirtual 47, 3) := by decide +kernel
theorem dX6_search_59 : decode cX6_search 59 = .ok (.ifCond .eq 7, 3) := by decide +kernel
theorem dX6_search_62 : decode cX6_search 62 = .ok (.iconst 1, 1) := by decide +kernel
theorem dX6_search_63 : decode cX6_search 63 = .ok (.goto 4, 3) := by decide +kernel
theorem dX6_search_66 : decode cX6_search 66 = .ok (.iconst 0, 1) := by decide +kernel
theorem dX6_search_67 : decode cX6_search 67 = .ok (.istore_n 3, 1) := by decide +kernel
theorem dX6_search_68 : decode cX6_search 68 = .ok (.iinc 4 1, 3) := by decide +kernel
theorem dX6_search_71 : decode cX6_search 71 = .ok (.goto (-41), 3) := by decide +kernel
theorem dX6_search_74 : decode cX6_search 74 = .ok (.return_, 1) := by decide +kernel
theorem dX6_gather_0 : decode cX6_gather 0 = .ok (.aload_n 0, 1) := by decide +kernel
theorem dX6_gather_1 : decode cX6_gather 1 = .ok (.iconst 0, 1) := by decide +kernel
theorem dX6_gather_2 : decode cX6_gather 2 = .ok (.putfield 18, 3) := by decide +kernel
theorem dX6_gather_5 : decode cX6_gather 5 = .ok (.iconst 0, 1) := by decide +kernel
theorem dX6_gather_6 : decode cX6_gather 6 = .ok (.istore_n 2, 1) := by decide +kernel
theorem dX6_gather_7 : decode cX6_gather 7 = .ok (.iload_n 2, 1) := by decide +kernel
theorem dX6_gather_8 : decode cX6_gather 8 = .ok (.aload_n 1, 1) := by decide +kernel
theorem dX6_gather_9 : decode cX6_gather 9 = .ok (.invokevirtual 51, 3) := by decide +kernel
theorem dX6_gather_12 : decode cX6_gather 12 = .ok (.if_icmp .ge 46, 3) := by decide +kernel
theorem dX6_gather_15 : decode cX6_gather 15 = .ok (.aload_n 0, 1) := by decide +kernel
theorem dX6_gather_16 : decode cX6_gather 16 = .ok (.getfield 18, 3) := by decide +kernel
theorem dX6_gather_19 : decode cX6_gather 19 = .ok (.bipush 6, 2) := by decide +kernel
theorem dX6_gather_21 : decode cX6_gather 21 = .ok (.if_icmp .ge 37, 3) := by decide +kernel
theorem dX6_gather_24 : decode cX6_gather 24 = .ok (.aload_n 1, 1) := by decide +kernel
theorem dX6_gather_25 : decode cX6_gather 25 = .ok (.iload_n 2, 1) := by decide +kernel
theorem dX6_gather_26 : decode cX6_gather 26 = .ok (.invokevirtual 55, 3) := by decide +kernel
theorem dX6_gather_29 : decode cX6_gather 29 = .ok (.ifCond .eq 23, 3) := by decide +kernel
theorem dX6_gather_32 : decode cX6_gather 32 = .ok (.aload_n 0, 1) := by decide +kernel
theorem dX6_gather_33 : decode cX6_gather 33 = .ok (.getfield 9, 3) := by decide +kernel
theorem dX6_gather_36 : decode cX6_gather 36 = .ok (.aload_n 0, 1) := by decide +kernel
theorem dX6_gather_37 : decode cX6_gather 37 = .ok (.getfield 18, 3) := by decide +kernel
theorem dX6_gather_40 : decode cX6_gather 40 = .ok (.iload_n 2, 1) := by decide +kernel
theorem dX6_gather_41 : decode cX6_gather 41 = .ok (.iastore, 1) := by decide +kernel
theorem dX6_gather_42 : decode cX6_gather 42 = .ok (.aload_n 0, 1) := by decide +kernel
theorem dX6_gather_43 : decode cX6_gather 43 = .ok (.dup, 1) := by decide +kernel
theorem dX6_gather_44 : decode cX6_gather 44 = .ok (.getfield 18, 3) := by decide +kernel
theorem dX6_gather_47 : decode cX6_gather 47 = .ok (.iconst 1, 1) := by decide +kernel
theorem dX6_gather_48 : decode cX6_gather 48 = .ok (.iadd, 1) := by decide +kernel
theorem dX6_gather_49 : decode cX6_gather 49 = .ok (.putfield 18, 3) := by decide +kernel
theorem dX6_gather_52 : decode cX6_gather 52 = .ok (.iinc 2 1, 3) := by decide +kernel
theorem dX6_gather_55 : decode cX6_gather 55 = .ok (.goto (-48), 3) := by decide +kernel
theorem dX6_gather_58 : decode cX6_gather 58 = .ok (.iconst 0, 1) := by decide +kernel
theorem dX6_gather_59 : decode cX6_gather 59 = .ok (.istore_n 2, 1) := by decide +kernel
theorem dX6_gather_60 : decode cX6_gather 60 = .ok (.iconst 0, 1) := by decide +kernel
theorem dX6_gather_61 : decode cX6_gather 61 = .ok (.istore_n 3, 1) := by decide +kernel
theorem dX6_gather_62 : decode cX6_gather 62 = .ok (.iload_n 3, 1) := by decide +kernel
theorem dX6_gather_63 : decode cX6_gather 63 = .ok (.bipush 8, 2) := by decide +kernel
theorem dX6_gather_65 : decode cX6_gather 65 = .ok (.if_icmp .ge 37, 3) := by decide +kernel
theorem dX6_gather_68 : decode cX6_gather 68 = .ok (.iload_n 2, 1) := by decide +kernel
theorem dX6_gather_69 : decode cX6_gather 69 = .ok (.bipush 6, 2) := by decide +kernel
theorem dX6_gather_71 : decode cX6_gather 71 = .ok (.if_icmp .ge 31, 3) := by decide +kernel
theorem dX6_gather_74 : decode cX6_gather 74 = .ok (.aload_n 1, 1) := by decide +kernel
theorem dX6_gather_75 : decode cX6_gather 75 = .ok (.aload_n 1, 1) := by decide +kernel
theorem dX6_gather_76 : decode cX6_gather 76 = .ok (.iload_n 3, 1) := by decide +kernel
theorem dX6_gather_77 : decode cX6_gather 77 = .ok (.invokevirtual 59, 3) := by decide +kernel
theorem dX6_gather_80 : decode cX6_gather 80 = .ok (.invokevirtual 55, 3) := by decide +kernel
theorem dX6_gather_83 : decode cX6_gather 83 = .ok (.ifCond .eq 13, 3) := by decide +kernel
theorem dX6_gather_86 : decode cX6_gather 86 = .ok (.aload_n 0, 1) := by decide +kernel
theorem dX6_gather_87 : decode cX6_gather 87 = .ok (.getfield 15, 3) := by decide +kernel
theorem dX6_gather_90 : decode cX6_gather 90 = .ok (.iload_n 2, 1) := by decide +kernel
theorem dX6_gather_91 : decode cX6_gather 91 = .ok (.iload_n 3, 1) := by decide +kernel
theorem dX6_gather_92 : decode cX6_gather 92 = .ok (.iastore, 1) := by decide +kernel
theorem dX6_gather_93 : decode cX6_gather 93 = .ok (.iinc 2 1, 3) := by decide +kernel
theorem dX6_gather_96 : decode cX6_gather 96 = .ok (.iinc 3 1, 3) := by decide +kernel
theorem dX6_gather_99 : decode cX6_gather 99 = .ok (.goto (-37), 3) := by decide +kernel
theorem dX6_gather_102 : decode cX6_gather 102 = .ok (.return_, 1) := by decide +kernel
theorem dX6_consider_0 : decode cX6_consider 0 = .ok (.iconst 0, 1) := by decide +kernel
theorem dX6_consider_1 : decode cX6_consider 1 = .ok (.istore_n 2, 1) := by decide +kernel
theorem dX6_consider_2 : decode cX6_consider 2 = .ok (.iconst 0, 1) := by decide +kernel
theorem dX6_consider_3 : decode cX6_consider 3 = .ok (.istore_n 3, 1) := by decide +kernel
theorem dX6_consider_4 : decode cX6_consider 4 = .ok (.iload_n 3, 1) := by decide +kernel
theorem dX6_consider_5 : decode cX6_consider 5 = .ok (.aload_n 0, 1) := by decide +kernel
theorem dX6_consider_6 : decode cX6_consider 6 = .ok (.getfield 18, 3) := by decide +kernel
theorem dX6_consider_9 : decode cX6_consider 9 = .ok (.if_icmp .ge 39, 3) := by decide +kernel
theorem dX6_consider_12 : decode cX6_consider 12 = .ok (.aload_n 1, 1) := by decide +kernel
theorem dX6_consider_13 : decode cX6_consider 13 = .ok (.aload_n 0, 1) := by decide +kernel
theorem dX6_consider_14 : decode cX6_consider 14 = .ok (.getfield 9, 3) := by decide +kernel
theorem dX6_consider_17 : decode cX6_consider 17 = .ok (.iload_n 3, 1) := by decide +kernel
theorem dX6_consider_18 : decode cX6_consider 18 = .ok (.iaload, 1) := by decide +kernel
theorem dX6_consider_19 : decode cX6_consider 19 = .ok (.aload_n 0, 1) := by decide +kernel
theorem dX6_consider_20 : decode cX6_consider 20 = .ok (.getfield 15, 3) := by decide +kernel
theorem dX6_consider_23 : decode cX6_consider 23 = .ok (.iload_n 3, 1) := by decide +kernel
theorem dX6_consider_24 : decode cX6_consider 24 = .ok (.iaload, 1) := by decide +kernel
theorem dX6_consider_25 : decode cX6_consider 25 = .ok (.invokevirtual 62, 3) := by decide +kernel
theorem dX6_consider_28 : decode cX6_consider 28 = .ok (.iload_n 2, 1) := by decide +kernel
theorem dX6_consider_29 : decode cX6_consider 29 = .ok (.bipush 10, 2) := by decide +kernel
theorem dX6_consider_31 : decode cX6_consider 31 = .ok (.imul, 1) := by decide +kernel
theorem dX6_consider_32 : decode cX6_consider 32 = .ok (.aload_n 0, 1) := by decide +kernel
theorem dX6_consider_33 : decode cX6_consider 33 = .ok (.getfield 15, 3) := by decide +kernel
theorem dX6_consider_36 : decode cX6_consider 36 = .ok (.iload_n 3, 1) := by decide +kernel
theorem dX6_consider_37 : decode cX6_consider 37 = .ok (.iaload, 1) := by decide +kernel
theorem dX6_consider_38 : decode cX6_consider 38 = .ok (.iadd, 1) := by decide +kernel
theorem dX6_consider_39 : decode cX6_consider 39 = .ok (.iconst 1, 1) := by decide +kernel
theorem dX6_consider_40 : decode cX6_consider 40 = .ok (.iadd, 1) := by decide +kernel
theorem dX6_consider_41 : decode cX6_consider 41 = .ok (.istore_n 2, 1) := by decide +kernel
theorem dX6_consider_42 : decode cX6_consider 42 = .ok (.iinc 3 1, 3) := by decide +kernel
theorem dX6_consider_45 : decode cX6_consider 45 = .ok (.goto (-41), 3) := by decide +kernel
theorem dX6_consider_48 : decode cX6_consider 48 = .ok (.aload_n 1, 1) := by decide +kernel
theorem dX6_consider_49 : decode cX6_consider 49 = .ok (.invokevirtual 66, 3) := by decide +kernel
theorem dX6_consider_52 : decode cX6_consider 52 = .ok (.istore_n 3, 1) := by decide +kernel
theorem dX6_consider_53 : decode cX6_consider 53 = .ok (.iload_n 3, 1) := by decide +kernel
theorem dX6_consider_54 : decode cX6_consider 54 = .ok (.aload_n 0, 1) := by decide +kernel
theorem dX6_consider_55 : decode cX6_consider 55 = .ok (.getfield 22, 3) := by decide +kernel
theorem dX6_consider_58 : decode cX6_consider 58 = .ok (.if_icmp .le 13, 3) := by decide +kernel
theorem dX6_consider_61 : decode cX6_consider 61 = .ok (.aload_n 0, 1) := by decide +kernel
theorem dX6_consider_62 : decode cX6_consider 62 = .ok (.iload_n 3, 1) := by decide +kernel
theorem dX6_consider_63 : decode cX6_consider 63 = .ok (.putfield 22, 3) := by decide +kernel
theorem dX6_consider_66 : decode cX6_consider 66 = .ok (.aload_n 0, 1) := by decide +kernel
theorem dX6_consider_67 : decode cX6_consider 67 = .ok (.iload_n 2, 1) := by decide +kernel
theorem dX6_consider_68 : decode cX6_consider 68 = .ok (.putfield 25, 3) := by decide +kernel
theorem dX6_consider_71 : decode cX6_consider 71 = .ok (.return_, 1) := by decide +kernel
theorem dX6_nextWay_0 : decode cX6_nextWay 0 = .ok (.aload_n 0, 1) := by decide +kernel
theorem dX6_nextWay_1 : decode cX6_nextWay 1 = .ok (.getfield 18, 3) := by decide +kernel
theorem dX6_nextWay_4 : decode cX6_nextWay 4 = .ok (.iconst 2, 1) := by decide +kernel
theorem dX6_nextWay_5 : decode cX6_nextWay 5 = .ok (.isub, 1) := by decide +kernel
theorem dX6_nextWay_6 : decode cX6_nextWay 6 = .ok (.istore_n 1, 1) := by decide +kernel
theorem dX6_nextWay_7 : decode cX6_nextWay 7 = .ok (.iload_n 1, 1) := by decide +kernel
theorem dX6_nextWay_8 : decode cX6_nextWay 8 = .ok (.ifCond .lt 26, 3) := by decide +kernel
theorem dX6_nextWay_11 : decode cX6_nextWay 11 = .ok (.aload_n 0, 1) := by decide +kernel
theorem dX6_nextWay_12 : decode cX6_nextWay 12 = .ok (.getfield 15, 3) := by decide +kernel
theorem dX6_nextWay_15 : decode cX6_nextWay 15 = .ok (.iload_n 1, 1) := by decide +kernel
theorem dX6_nextWay_16 : decode cX6_nextWay 16 = .ok (.iaload, 1) := by decide +kernel
theorem dX6_nextWay_17 : decode cX6_nextWay 17 = .ok (.aload_n 0, 1) := by decide +kernel
theorem dX6_nextWay_18 : decode cX6_nextWay 18 = .ok (.getfield 15, 3) := by decide +kernel
theorem dX6_nextWay_21 : decode cX6_nextWay 21 = .ok (.iload_n 1, 1) := by decide +kernel
theorem dX6_nextWay_22 : decode cX6_nextWay 22 = .ok (.iconst 1, 1) := by decide +kernel
theorem dX6_nextWay_23 : decode cX6_nextWay 23 = .ok (.iadd, 1) := by decide +kernel
theorem dX6_nextWay_24 : decode cX6_nextWay 24 = .ok (.iaload, 1) := by decide +kernel
theorem dX6_nextWay_25 : decode cX6_nextWay 25 = .ok (.if_icmp .le 9, 3) := by decide +kernel
theorem dX6_nextWay_28 : decode cX6_nextWay 28 = .ok (.iinc 1 (-1), 3) := by decide +kernel
theorem dX6_nextWay_31 : decode cX6_nextWay 31 = .ok (.goto (-24), 3) := by decide +kernel
theorem dX6_nextWay_34 : decode cX6_nextWay 34 = .ok (.iload_n 1, 1) := by decide +kernel
theorem dX6_nextWay_35 : decode cX6_nextWay 35 = .ok (.ifCond .ge 5, 3) := by decide +kernel
theorem dX6_nextWay_38 : decode cX6_nextWay 38 = .ok (.iconst 0, 1) := by decide +kernel
theorem dX6_nextWay_39 : decode cX6_nextWay 39 = .ok (.ireturn, 1) := by decide +kernel
theorem dX6_nextWay_40 : decode cX6_nextWay 40 = .ok (.aload_n 0, 1) := by decide +kernel
theorem dX6_nextWay_41 : decode cX6_nextWay 41 = .ok (.getfield 18, 3) := by decide +kernel
theorem dX6_nextWay_44 : decode cX6_nextWay 44 = .ok (.iconst 1, 1) := by decide +kernel
theorem dX6_nextWay_45 : decode cX6_nextWay 45 = .ok (.isub, 1) := by decide +kernel
theorem dX6_nextWay_46 : decode cX6_nextWay 46 = .ok (.istore_n 2, 1) := by decide +kernel
theorem dX6_nextWay_47 : decode cX6_nextWay 47 = .ok (.iload_n 2, 1) := by decide +kernel
theorem dX6_nextWay_48 : decode cX6_nextWay 48 = .ok (.iload_n 1, 1) := by decide +kernel
theorem dX6_nextWay_49 : decode cX6_nextWay 49 = .ok (.if_icmp .le 24, 3) := by decide +kernel
theorem dX6_nextWay_52 : decode cX6_nextWay 52 = .ok (.aload_n 0, 1) := by decide +kernel
theorem dX6_nextWay_53 : decode cX6_nextWay 53 = .ok (.getfield 15, 3) := by decide +kernel
theorem dX6_nextWay_56 : decode cX6_nextWay 56 = .ok (.iload_n 2, 1) := by decide +kernel
theorem dX6_nextWay_57 : decode cX6_nextWay 57 = .ok (.iaload, 1) := by decide +kernel
theorem dX6_nextWay_58 : decode cX6_nextWay 58 = .ok (.aload_n 0, 1) := by decide +kernel
theorem dX6_nextWay_59 : decode cX6_nextWay 59 = .ok (.getfield 15, 3) := by decide +kernel
theorem dX6_nextWay_62 : decode cX6_nextWay 62 = .ok (.iload_n 1, 1) := by decide +kernel
theorem dX6_nextWay_63 : decode cX6_nextWay 63 = .ok (.iaload, 1) := by decide +kernel
theorem dX6_nextWay_64 : decode cX6_nextWay 64 = .ok (.if_icmp .ge 9, 3) := by decide +kernel
theorem dX6_nextWay_67 : decode cX6_nextWay 67 = .ok (.iinc 2 (-1), 3) := by decide +kernel
theorem dX6_nextWay_70 : decode cX6_nextWay 70 = .ok (.goto (-23), 3) := by decide +kernel
theorem dX6_nextWay_73 : decode cX6_nextWay 73 = .ok (.aload_n 0, 1) := by decide +kernel
theorem dX6_nextWay_74 : decode cX6_nextWay 74 = .ok (.iload_n 1, 1) := by decide +kernel
theorem dX6_nextWay_75 : decode cX6_nextWay 75 = .ok (.iload_n 2, 1) := by decide +kernel
theorem dX6_nextWay_76 : decode cX6_nextWay 76 = .ok (.invokevirtual 69, 3) := by decide +kernel
theorem dX6_nextWay_79 : decode cX6_nextWay 79 = .ok (.iload_n 1, 1) := by decide +kernel
theorem dX6_nextWay_80 : decode cX6_nextWay 80 = .ok (.iconst 1, 1) := by decide +kernel
theorem dX6_nextWay_81 : decode cX6_nextWay 81 = .ok (.iadd, 1) := by decide +kernel
theorem dX6_nextWay_82 : decode cX6_nextWay 82 = .ok (.istore_n 3, 1) := by decide +kernel
theorem dX6_nextWay_83 : decode cX6_nextWay 83 = .ok (.aload_n 0, 1) := by decide +kernel
theorem dX6_nextWay_84 : decode cX6_nextWay 84 = .ok (.getfield 18, 3) := by decide +kernel
theorem dX6_nextWay_87 : decode cX6_nextWay 87 = .ok (.iconst 1, 1) := by decide +kernel
theorem dX6_nextWay_88 : decode cX6_nextWay 88 = .ok (.isub, 1) := by decide +kernel
theorem dX6_nextWay_89 : decode cX6_nextWay 89 = .ok (.istore 4, 2) := by decide +kernel
theorem dX6_nextWay_91 : decode cX6_nextWay 91 = .ok (.iload_n 3, 1) := by decide +kernel
theorem dX6_nextWay_92 : decode cX6_nextWay 92 = .ok (.iload 4, 2) := by decide +kernel
theorem dX6_nextWay_94 : decode cX6_nextWay 94 = .ok (.if_icmp .ge 19, 3) := by decide +kernel
theorem dX6_nextWay_97 : decode cX6_nextWay 97 = .ok (.aload_n 0, 1) := by decide +kernel
theorem dX6_nextWay_98 : decode cX6_nextWay 98 = .ok (.iload_n 3, 1) := by decide +kernel
theorem dX6_nextWay_99 : decode cX6_nextWay 99 = .ok (.iload 4, 2) := by decide +kernel
theorem dX6_nextWay_101 : decode cX6_nextWay 101 = .ok (.invokevirtual 69, 3) := by decide +kernel
theorem dX6_nextWay_104 : decode cX6_nextWay 104 = .ok (.iinc 3 1, 3) := by decide +kernel
theorem dX6_nextWay_107 : decode cX6_nextWay 107 = .ok (.iinc 4 (-1), 3) := by decide +kernel
theorem dX6_nextWay_110 : decode cX6_nextWay 110 = .ok (.goto (-19), 3) := by decide +kernel
theorem dX6_nextWay_113 : decode cX6_nextWay 113 = .ok (.iconst 1, 1) := by decide +kernel
theorem dX6_nextWay_114 : decode cX6_nextWay 114 = .ok (.ireturn, 1) := by decide +kernel
theorem dX6_swap_0 : decode cX6_swap 0 = .ok (.aload_n 0, 1) := by decide +kernel
theorem dX6_swap_1 : decode cX6_swap 1 = .ok (.getfield 15, 3) := by decide +kernel
theorem dX6_swap_4 : decode cX6_swap 4 = .ok (.iload_n 1, 1) := by decide +kernel
theorem dX6_swap_5 : decode cX6_swap 5 = .ok (.iaload, 1) := by decide +kernel
theorem dX6_swap_6 : decode cX6_swap 6 = .ok (.istore_n 3, 1) := by decide +kernel
theorem dX6_swap_7 : decode cX6_swap 7 = .ok (.aload_n 0, 1) := by decide +kernel
theorem dX6_swap_8 : decode cX6_swap 8 = .ok (.getfield 15, 3) := by decide +kernel
theorem dX6_swap_11 : decode cX6_swap 11 = .ok (.iload_n 1, 1) := by decide +kernel
theorem dX6_swap_12 : decode cX6_swap 12 = .ok (.aload_n 0, 1) := by decide +kernel
theorem dX6_swap_13 : decode cX6_swap 13 = .ok (.getfield 15, 3) := by decide +kernel
theorem dX6_swap_16 : decode cX6_swap 16 = .ok (.iload_n 2, 1) := by decide +kernel
theorem dX6_swap_17 : decode cX6_swap 17 = .ok (.iaload, 1) := by decide +kernel
theorem dX6_swap_18 : decode cX6_swap 18 = .ok (.iastore, 1) := by decide +kernel
theorem dX6_swap_19 : decode cX6_swap 19 = .ok (.aload_n 0, 1) := by decide +kernel
theorem dX6_swap_20 : decode cX6_swap 20 = .ok (.getfield 15, 3) := by decide +kernel
theorem dX6_swap_23 : decode cX6_swap 23 = .ok (.iload_n 2, 1) := by decide +kernel
theorem dX6_swap_24 : decode cX6_swap 24 = .ok (.iload_n 3, 1) := by decide +kernel
theorem dX6_swap_25 : decode cX6_swap 25 = .ok (.iastore, 1) := by decide +kernel
theorem dX6_swap_26 : decode cX6_swap 26 = .ok (.return_, 1) := by decide +kernel
theorem dX7_init_0 : decode cX7_init 0 = .ok (.aload_n 0, 1) := by decide +kernel
theorem dX7_init_1 : decode cX7_init 1 = .ok (.invokespecial 1, 3) := by decide +kernel
theorem dX7_init_4 : decode cX7_init 4 = .ok (.aload_n 0, 1) := by decide +kernel
theorem dX7_init_5 : decode cX7_init 5 = .ok (.new 7, 3) := by decide +kernel
theorem dX7_init_8 : decode cX7_init 8 = .ok (.dup, 1) := by decide +kernel
theorem dX7_init_9 : decode cX7_init 9 = .ok (.invokespecial 9, 3) := by decide +kernel
theorem dX7_init_12 : decode cX7_init 12 = .ok (.putfield 10, 3) := by decide +kernel
theorem dX7_init_15 : decode cX7_init 15 = .ok (.aload_n 0, 1) := by decide +kernel
theorem dX7_init_16 : decode cX7_init 16 = .ok (.new 16, 3) := by decide +kernel
theorem dX7_init_19 : decode cX7_init 19 = .ok (.dup, 1) := by decide +kernel
theorem dX7_init_20 : decode cX7_init 20 = .ok (.invokespecial 18, 3) := by decide +kernel
theorem dX7_init_23 : decode cX7_init 23 = .ok (.putfield 19, 3) := by decide +kernel
theorem dX7_init_26 : decode cX7_init 26 = .ok (.aload_n 0, 1) := by decide +kernel
theorem dX7_init_27 : decode cX7_init 27 = .ok (.new 16, 3) := by decide +kernel
theorem dX7_init_30 : decode cX7_init 30 = .ok (.dup, 1) := by decide +kernel
theorem dX7_init_31 : decode cX7_init 31 = .ok (.invokespecial 18, 3) := by decide +kernel
theorem dX7_init_34 : decode cX7_init 34 = .ok (.putfield 23, 3) := by decide +kernel
theorem dX7_init_37 : decode cX7_init 37 = .ok (.aload_n 0, 1) := by decide +kernel
theorem dX7_init_38 : decode cX7_init 38 = .ok (.new 26, 3) := by decide +kernel
theorem dX7_init_41 : decode cX7_init 41 = .ok (.dup, 1) := by decide +kernel
theorem dX7_init_42 : decode cX7_init 42 = .ok (.invokespecial 28, 3) := by decide +kernel
theorem dX7_init_45 : decode cX7_init 45 = .ok (.putfield 29, 3) := by decide +kernel
theorem dX7_init_48 : decode cX7_init 48 = .ok (.aload_n 0, 1) := by decide +kernel
theorem dX7_init_49 : decode cX7_init 49 = .ok (.new 33, 3) := by decide +kernel
theorem dX7_init_52 : decode cX7_init 52 = .ok (.dup, 1) := by decide +kernel
theorem dX7_init_53 : decode cX7_init 53 = .ok (.invokespecial 35, 3) := by decide +kernel
theorem dX7_init_56 : decode cX7_init 56 = .ok (.putfield 36, 3) := by decide +kernel
theorem dX7_init_59 : decode cX7_init 59 = .ok (.aload_n 0, 1) := by decide +kernel
theorem dX7_init_60 : decode cX7_init 60 = .ok (.new 40, 3) := by decide +kernel
theorem dX7_init_63 : decode cX7_init 63 = .ok (.dup, 1) := by decide +kernel
theorem dX7_init_64 : decode cX7_init 64 = .ok (.invokespecial 42, 3) := by decide +kernel
theorem dX7_init_67 : decode cX7_init 67 = .ok (.putfield 43, 3) := by decide +kernel
theorem dX7_init_70 : decode cX7_init 70 = .ok (.aload_n 0, 1) := by decide +kernel
theorem dX7_init_71 : decode cX7_init 71 = .ok (.new 47, 3) := by decide +kernel
theorem dX7_init_74 : decode cX7_init 74 = .ok (.dup, 1) := by decide +kernel
theorem dX7_init_75 : decode cX7_init 75 = .ok (.invokespecial 49, 3) := by decide +kernel
theorem dX7_init_78 : decode cX7_init 78 = .ok (.putfield 50, 3) := by decide +kernel
theorem dX7_init_81 : decode cX7_init 81 = .ok (.aload_n 0, 1) := by decide +kernel
theorem dX7_init_82 : decode cX7_init 82 = .ok (.new 54, 3) := by decide +kernel
theorem dX7_init_85 : decode cX7_init 85 = .ok (.dup, 1) := by decide +kernel
theorem dX7_init_86 : decode cX7_init 86 = .ok (.invokespecial 56, 3) := by decide +kernel
theorem dX7_init_89 : decode cX7_init 89 = .ok (.putfield 57, 3) := by decide +kernel
theorem dX7_init_92 : decode cX7_init 92 = .ok (.aload_n 0, 1) := by decide +kernel
theorem dX7_init_93 : decode cX7_init 93 = .ok (.lconst 0, 1) := by decide +kernel
theorem dX7_init_94 : decode cX7_init 94 = .ok (.putfield 61, 3) := by decide +kernel
theorem dX7_init_97 : decode cX7_init 97 = .ok (.return_, 1) := by decide +kernel
theorem dX7_write_0 : decode cX7_write 0 = .ok (.iload_n 1, 1) := by decide +kernel
theorem dX7_write_1 : decode cX7_write 1 = .ok (.ifCond .lt 10, 3) := by decide +kernel
theorem dX7_write_4 : decode cX7_write 4 = .ok (.iload_n 1, 1) := by decide +kernel
theorem dX7_write_5 : decode cX7_write 5 = .ok (.sipush 255, 3) := by decide +kernel
theorem dX7_write_8 : decode cX7_write 8 = .ok (.if_icmp .le 6, 3) := by decide +kernel
theorem dX7_write_11 : decode cX7_write 11 = .ok (.bipush (-2), 2) := by decide +kernel
theorem dX7_write_13 : decode cX7_write 13 = .ok (.ireturn, 1) := by decide +kernel
theorem dX7_write_14 : decode cX7_write 14 = .ok (.aload_n 0, 1) := by decide +kernel
theorem dX7_write_15 : decode cX7_write 15 = .ok (.getfield 10, 3) := by decide +kernel
theorem dX7_write_18 : decode cX7_write 18 = .ok (.iload_n 1, 1) := by decide +kernel
theorem dX7_write_19 : decode cX7_write 19 = .ok (.invokevirtual 65, 3) := by decide +kernel
theorem dX7_write_22 : decode cX7_write 22 = .ok (.ifCond .eq 13, 3) := by decide +kernel
theorem dX7_write_25 : decode cX7_write 25 = .ok (.aload_n 0, 1) := by decide +kernel
theorem dX7_write_26 : decode cX7_write 26 = .ok (.getfield 10, 3) := by decide +kernel
theorem dX7_write_29 : decode cX7_write 29 = .ok (.invokevirtual 69, 3) := by decide +kernel
theorem dX7_write_32 : decode cX7_write 32 = .ok (.goto 5, 3) := by decide +kernel
theorem dX7_write_35 : decode cX7_write 35 = .ok (.bipush (-4), 2) := by decide +kernel
theorem dX7_write_37 : decode cX7_write 37 = .ok (.ireturn, 1) := by decide +kernel
theorem dX7_wipe_0 : decode cX7_wipe 0 = .ok (.aload_n 0, 1) := by decide +kernel
theorem dX7_wipe_1 : decode cX7_wipe 1 = .ok (.getfield 10, 3) := by decide +kernel
theorem dX7_wipe_4 : decode cX7_wipe 4 = .ok (.invokevirtual 69, 3) := by decide +kernel
theorem dX7_wipe_7 : decode cX7_wipe 7 = .ok (.istore_n 1, 1) := by decide +kernel
theorem dX7_wipe_8 : decode cX7_wipe 8 = .ok (.aload_n 0, 1) := by decide +kernel
theorem dX7_wipe_9 : decode cX7_wipe 9 = .ok (.getfield 10, 3) := by decide +kernel
theorem dX7_wipe_12 : decode cX7_wipe 12 = .ok (.invokevirtual 73, 3) := by decide +kernel
theorem dX7_wipe_15 : decode cX7_wipe 15 = .ok (.iload_n 1, 1) := by decide +kernel
theorem dX7_wipe_16 : decode cX7_wipe 16 = .ok (.ireturn, 1) := by decide +kernel
theorem dX7_fault_0 : decode cX7_fault 0 = .ok (.aload_n 0, 1) := by decide +kernel
theorem dX7_fault_1 : decode cX7_fault 1 = .ok (.getfield 10, 3) := by decide +kernel
theorem dX7_fault_4 : decode cX7_fault 4 = .ok (.invokevirtual 76, 3) := by decide +kernel
theorem dX7_fault_7 : decode cX7_fault 7 = .ok (.ireturn, 1) := by decide +kernel
theorem dX7_sale_0 : decode cX7_sale 0 = .ok (.aload_n 0, 1) := by decide +kernel
theorem dX7_sale_1 : decode cX7_sale 1 = .ok (.getfield 10, 3) := by decide +kernel
theorem dX7_sale_4 : decode cX7_sale 4 = .ok (.invokevirtual 76, 3) := by decide +kernel
theorem dX7_sale_7 : decode cX7_sale 7 = .ok (.bipush (-9), 2) := by decide +kernel
theorem dX7_sale_9 : decode cX7_sale 9 = .ok (.if_icmp .eq 6, 3) := by decide +kernel
theorem dX7_sale_12 : decode cX7_sale 12 = .ok (.bipush (-3), 2) := by decide +kernel
theorem dX7_sale_14 : decode cX7_sale 14 = .ok (.ireturn, 1) := by decide +kernel
theorem dX7_sale_15 : decode cX7_sale 15 = .ok (.aload_n 0, 1) := by decide +kernel
theorem dX7_sale_16 : decode cX7_sale 16 = .ok (.getfield 10, 3) := by decide +kernel
theorem dX7_sale_19 : decode cX7_sale 19 = .ok (.aload_n 0, 1) := by decide +kernel
theorem dX7_sale_20 : decode cX7_sale 20 = .ok (.getfield 19, 3) := by decide +kernel
theorem dX7_sale_23 : decode cX7_sale 23 = .ok (.invokevirtual 79, 3) := by decide +kernel
theorem dX7_sale_26 : decode cX7_sale 26 = .ok (.aload_n 0, 1) := by decide +kernel
theorem dX7_sale_27 : decode cX7_sale 27 = .ok (.getfield 29, 3) := by decide +kernel
theorem dX7_sale_30 : decode cX7_sale 30 = .ok (.invokevirtual 83, 3) := by decide +kernel
theorem dX7_sale_33 : decode cX7_sale 33 = .ok (.aload_n 0, 1) := by decide +kernel
theorem dX7_sale_34 : decode cX7_sale 34 = .ok (.getfield 36, 3) := by decide +kernel
theorem dX7_sale_37 : decode cX7_sale 37 = .ok (.invokevirtual 86, 3) := by decide +kernel
theorem dX7_sale_40 : decode cX7_sale 40 = .ok (.aload_n 0, 1) := by decide +kernel
theorem dX7_sale_41 : decode cX7_sale 41 = .ok (.getfield 19, 3) := by decide +kernel
theorem dX7_sale_44 : decode cX7_sale 44 = .ok (.invokevirtual 87, 3) := by decide +kernel
theorem dX7_sale_47 : decode cX7_sale 47 = .ok (.ireturn, 1) := by decide +kernel
theorem dX7_about_0 : decode cX7_about 0 = .ok (.iload_n 1, 1) := by decide +kernel
theorem dX7_about_1 : decode cX7_about 1 = .ok (.tableswitch 138 0 9 #[55, 63, 71, 80, 89, 98, 106, 114, 122, 130], 55) := by decide +kernel
theorem dX7_about_56 : decode cX7_about 56 = .ok (.aload_n 0, 1) := by decide +kernel
theorem dX7_about_57 : decode cX7_about 57 = .ok (.getfield 19, 3) := by decide +kernel
theorem dX7_about_60 : decode cX7_about 60 = .ok (.invokevirtual 87, 3) := by decide +kernel
theorem dX7_about_63 : decode cX7_about 63 = .ok (.ireturn, 1) := by decide +kernel
theorem dX7_about_64 : decode cX7_about 64 = .ok (.aload_n 0, 1) := by decide +kernel
theorem dX7_about_65 : decode cX7_about 65 = .ok (.getfield 19, 3) := by decide +kernel
theorem dX7_about_68 : decode cX7_about 68 = .ok (.invokevirtual 90, 3) := by decide +kernel
theorem dX7_about_71 : decode cX7_about 71 = .ok (.ireturn, 1) := by decide +kernel
theorem dX7_about_72 : decode cX7_about 72 = .ok (.aload_n 0, 1) := by decide +kernel
theorem dX7_about_73 : decode cX7_about 73 = .ok (.getfield 19, 3) := by decide +kernel
theorem dX7_about_76 : decode cX7_about 76 = .ok (.iconst 0, 1) := by decide +kernel
theorem dX7_about_77 : decode cX7_about 77 = .ok (.invokevirtual 93, 3) := by decide +kernel
theorem dX7_about_80 : decode cX7_about 80 = .ok (.ireturn, 1) := by decide +kernel
theorem dX7_about_81 : decode cX7_about 81 = .ok (.aload_n 0, 1) := by decide +kernel
theorem dX7_about_82 : decode cX7_about 82 = .ok (.getfield 19, 3) := by decide +kernel
theorem dX7_about_85 : decode cX7_about 85 = .ok (.iconst 1, 1) := by decide +kernel
theorem dX7_about_86 : decode cX7_about 86 = .ok (.invokevirtual 93, 3) := by decide +kernel
theorem dX7_about_89 : decode cX7_about 89 = .ok (.ireturn, 1) := by decide +kernel
theorem dX7_about_90 : decode cX7_about 90 = .ok (.aload_n 0, 1) := by decide +kernel
theorem dX7_about_91 : decode cX7_about 91 = .ok (.getfield 19, 3) := by decide +kernel
theorem dX7_about_94 : decode cX7_about 94 = .ok (.iconst 2, 1) := by decide +kernel
theorem dX7_about_95 : decode cX7_about 95 = .ok (.invokevirtual 93, 3) := by decide +kernel
theorem dX7_about_98 : decode cX7_about 98 = .ok (.ireturn, 1) := by decide +kernel
theorem dX7_about_99 : decode cX7_about 99 = .ok (.aload_n 0, 1) := by decide +kernel
theorem dX7_about_100 : decode cX7_about 100 = .ok (.getfield 19, 3) := by decide +kernel
theorem dX7_about_103 : decode cX7_about 103 = .ok (.invokevirtual 97, 3) := by decide +kernel
theorem dX7_about_106 : decode cX7_about 106 = .ok (.ireturn, 1) := by decide +kernel
theorem dX7_about_107 : decode cX7_about 107 = .ok (.aload_n 0, 1) := by decide +kernel
theorem dX7_about_108 : decode cX7_about 108 = .ok (.getfield 19, 3) := by decide +kernel
theorem dX7_about_111 : decode cX7_about 111 = .ok (.invokevirtual 100, 3) := by decide +kernel
theorem dX7_about_114 : decode cX7_about 114 = .ok (.ireturn, 1) := by decide +kernel
theorem dX7_about_115 : decode cX7_about 115 = .ok (.aload_n 0, 1) := by decide +kernel
theorem dX7_about_116 : decode cX7_about 116 = .ok (.getfield 29, 3) := by decide +kernel
theorem dX7_about_119 : decode cX7_about 119 = .ok (.invokevirtual 103, 3) := by decide +kernel
theorem dX7_about_122 : decode cX7_about 122 = .ok (.ireturn, 1) := by decide +kernel
theorem dX7_about_123 : decode cX7_about 123 = .ok (.aload_n 0, 1) := by decide +kernel
theorem dX7_about_124 : decode cX7_about 124 = .ok (.getfield 43, 3) := by decide +kernel
theorem dX7_about_127 : decode cX7_about 127 = .ok (.invokevirtual 106, 3) := by decide +kernel
theorem dX7_about_130 : decode cX7_about 130 = .ok (.ireturn, 1) := by decide +kernel
theorem dX7_about_131 : decode cX7_about 131 = .ok (.aload_n 0, 1) := by decide +kernel
theorem dX7_about_132 : decode cX7_about 132 = .ok (.getfield 10, 3) := by decide +kernel
theorem dX7_about_135 : decode cX7_about 135 = .ok (.invokevirtual 69, 3) := by decide +kernel
theorem dX7_about_138 : decode cX7_about 138 = .ok (.ireturn, 1) := by decide +kernel
theorem dX7_about_139 : decode cX7_about 139 = .ok (.bipush (-2), 2) := by decide +kernel
theorem dX7_about_141 : decode cX7_about 141 = .ok (.ireturn, 1) := by decide +kernel
theorem dX7_jar_0 : decode cX7_jar 0 = .ok (.aload_n 0, 1) := by decide +kernel
theorem dX7_jar_1 : decode cX7_jar 1 = .ok (.getfield 19, 3) := by decide +kernel
theorem dX7_jar_4 : decode cX7_jar 4 = .ok (.iload_n 1, 1) := by decide +kernel
theorem dX7_jar_5 : decode cX7_jar 5 = .ok (.invokevirtual 107, 3) := by decide +kernel
theorem dX7_jar_8 : decode cX7_jar 8 = .ok (.ifCond .ne 5, 3) := by decide +kernel
theorem dX7_jar_11 : decode cX7_jar 11 = .ok (.iconst (-1), 1) := by decide +kernel
theorem dX7_jar_12 : decode cX7_jar 12 = .ok (.ireturn, 1) := by decide +kernel
theorem dX7_jar_13 : decode cX7_jar 13 = .ok (.iload_n 2, 1) := by decide +kernel
theorem dX7_jar_14 : decode cX7_jar 14 = .ok (.ifCond .lt 9, 3) := by decide +kernel
theorem dX7_jar_17 : decode cX7_jar 17 = .ok (.iload_n 2, 1) := by decide +kernel
theorem dX7_jar_18 : decode cX7_jar 18 = .ok (.bipush 8, 2) := by decide +kernel
theorem dX7_jar_20 : decode cX7_jar 20 = .ok (.if_icmp .le 6, 3) := by decide +kernel
theorem dX7_jar_23 : decode cX7_jar 23 = .ok (.bipush (-2), 2) := by decide +kernel
theorem dX7_jar_25 : decode cX7_jar 25 = .ok (.ireturn, 1) := by decide +kernel
theorem dX7_jar_26 : decode cX7_jar 26 = .ok (.iload_n 2, 1) := by decide +kernel
theorem dX7_jar_27 : decode cX7_jar 27 = .ok (.bipush 8, 2) := by decide +kernel
theorem dX7_jar_29 : decode cX7_jar 29 = .ok (.if_icmp .ne 14, 3) := by decide +kernel
theorem dX7_jar_32 : decode cX7_jar 32 = .ok (.aload_n 0, 1) := by decide +kernel
theorem dX7_jar_33 : decode cX7_jar 33 = .ok (.getfield 19, 3) := by decide +kernel
theorem dX7_jar_36 : decode cX7_jar 36 = .ok (.iload_n 1, 1) := by decide +kernel
theorem dX7_jar_37 : decode cX7_jar 37 = .ok (.invokevirtual 110, 3) := by decide +kernel
theorem dX7_jar_40 : decode cX7_jar 40 = .ok (.goto 12, 3) := by decide +kernel
theorem dX7_jar_43 : decode cX7_jar 43 = .ok (.aload_n 0, 1) := by decide +kernel
theorem dX7_jar_44 : decode cX7_jar 44 = .ok (.getfield 19, 3) := by decide +kernel
theorem dX7_jar_47 : decode cX7_jar 47 = .ok (.iload_n 1, 1) := by decide +kernel
theorem dX7_jar_48 : decode cX7_jar 48 = .ok (.iload_n 2, 1) := by decide +kernel
theorem dX7_jar_49 : decode cX7_jar 49 = .ok (.invokevirtual 113, 3) := by decide +kernel
theorem dX7_jar_52 : decode cX7_jar 52 = .ok (.ireturn, 1) := by decide +kernel
theorem dX7_at_0 : decode cX7_at 0 = .ok (.iload_n 1, 1) := by decide +kernel
theorem dX7_at_1 : decode cX7_at 1 = .ok (.invokestatic 117, 3) := by decide +kernel
theorem dX7_at_4 : decode cX7_at 4 = .ok (.ifCond .eq 14, 3) := by decide +kernel
theorem dX7_at_7 : decode cX7_at 7 = .ok (.aload_n 0, 1) := by decide +kernel
theorem dX7_at_8 : decode cX7_at 8 = .ok (.getfield 19, 3) := by decide +kernel
theorem dX7_at_11 : decode cX7_at 11 = .ok (.iload_n 1, 1) := by decide +kernel
theorem dX7_at_12 : decode cX7_at 12 = .ok (.invokevirtual 120, 3) := by decide +kernel
theorem dX7_at_15 : decode cX7_at 15 = .ok (.goto 4, 3) := by decide +kernel
theorem dX7_at_18 : decode cX7_at 18 = .ok (.iconst (-1), 1) := by decide +kernel
theorem dX7_at_19 : decode cX7_at 19 = .ok (.ireturn, 1) := by decide +kernel
theorem dX7_week_0 : decode cX7_week 0 = .ok (.aload_n 0, 1) := by decide +kernel
theorem dX7_week_1 : decode cX7_week 1 = .ok (.getfield 29, 3) := by decide +kernel
theorem dX7_week_4 : decode cX7_week 4 = .ok (.aload_n 0, 1) := by decide +kernel
theorem dX7_week_5 : decode cX7_week 5 = .ok (.getfield 19, 3) := by decide +kernel
theorem dX7_week_8 : decode cX7_week 8 = .ok (.invokevirtual 123, 3) := by decide +kernel
theorem dX7_week_11 : decode cX7_week 11 = .ok (.aload_n 0, 1) := by decide +kernel
theorem dX7_week_12 : decode cX7_week 12 = .ok (.getfield 19, 3) := by decide +kernel
theorem dX7_week_15 : decode cX7_week 15 = .ok (.invokevirtual 126, 3) := by decide +kernel
theorem dX7_week_18 : decode cX7_week 18 = .ok (.aload_n 0, 1) := by decide +kernel
theorem dX7_week_19 : decode cX7_week 19 = .ok (.getfield 19, 3) := by decide +kernel
theorem dX7_week_22 : decode cX7_week 22 = .ok (.invokevirtual 129, 3) := by decide +kernel
theorem dX7_week_25 : decode cX7_week 25 = .ok (.ireturn, 1) := by decide +kernel
theorem dX7_shake_0 : decode cX7_shake 0 = .ok (.aload_n 0, 1) := by decide +kernel
theorem dX7_shake_1 : decode cX7_shake 1 = .ok (.getfield 29, 3) := by decide +kernel
theorem dX7_shake_4 : decode cX7_shake 4 = .ok (.aload_n 0, 1) := by decide +kernel
theorem dX7_shake_5 : decode cX7_shake 5 = .ok (.getfield 19, 3) := by decide +kernel
theorem dX7_shake_8 : decode cX7_shake 8 = .ok (.invokevirtual 123, 3) := by decide +kernel
theorem dX7_shake_11 : decode cX7_shake 11 = .ok (.aload_n 0, 1) := by decide +kernel
theorem dX7_shake_12 : decode cX7_shake 12 = .ok (.getfield 19, 3) := by decide +kernel
theorem dX7_shake_15 : decode cX7_shake 15 = .ok (.invokevirtual 132, 3) := by decide +kernel
theorem dX7_shake_18 : decode cX7_shake 18 = .ok (.ireturn, 1) := by decide +kernel
theorem dX7_set_0 : decode cX7_set 0 = .ok (.aload_n 0, 1) := by decide +kernel
theorem dX7_set_1 : decode cX7_set 1 = .ok (.getfield 19, 3) := by decide +kernel
theorem dX7_set_4 : decode cX7_set 4 = .ok (.iload_n 1, 1) := by decide +kernel
theorem dX7_set_5 : decode cX7_set 5 = .ok (.invokevirtual 107, 3) := by decide +kernel
theorem dX7_set_8 : decode cX7_set 8 = .ok (.ifCond .eq 10, 3) := by decide +kernel
theorem dX7_set_11 : decode cX7_set 11 = .ok (.iload_n 2, 1) := by decide +kernel
theorem dX7_set_12 : decode cX7_set 12 = .ok (.invokestatic 117, 3) := by decide +kernel
theorem dX7_set_15 : decode cX7_set 15 = .ok (.ifCond .ne 5, 3) := by decide +kernel
theorem dX7_set_18 : decode cX7_set 18 = .ok (.iconst (-1), 1) := by decide +kernel
theorem dX7_set_19 : decode cX7_set 19 = .ok (.ireturn, 1) := by decide +kernel
theorem dX7_set_20 : decode cX7_set 20 = .ok (.aload_n 0, 1) := by decide +kernel
theorem dX7_set_21 : decode cX7_set 21 = .ok (.getfield 19, 3) := by decide +kernel
theorem dX7_set_24 : decode cX7_set 24 = .ok (.iload_n 1, 1) := by decide +kernel
theorem dX7_set_25 : decode cX7_set 25 = .ok (.iload_n 2, 1) := by decide +kernel
theorem dX7_set_26 : decode cX7_set 26 = .ok (.invokevirtual 135, 3) := by decide +kernel
theorem dX7_set_29 : decode cX7_set 29 = .ok (.ifCond .ne 6, 3) := by decide +kernel
theorem dX7_set_32 : decode cX7_set 32 = .ok (.bipush (-3), 2) := by decide +kernel
theorem dX7_set_34 : decode cX7_set 34 = .ok (.ireturn, 1) := by decide +kernel
theorem dX7_set_35 : decode cX7_set 35 = .ok (.aload_n 0, 1) := by decide +kernel
theorem dX7_set_36 : decode cX7_set 36 = .ok (.getfield 29, 3) := by decide +kernel
theorem dX7_set_39 : decode cX7_set 39 = .ok (.aload_n 0, 1) := by decide +kernel
theorem dX7_set_40 : decode cX7_set 40 = .ok (.getfield 19, 3) := by decide +kernel
theorem dX7_set_43 : decode cX7_set 43 = .ok (.invokevirtual 123, 3) := by decide +kernel
theorem dX7_set_46 : decode cX7_set 46 = .ok (.aload_n 0, 1) := by decide +kernel
theorem dX7_set_47 : decode cX7_set 47 = .ok (.getfield 19, 3) := by decide +kernel
theorem dX7_set_50 : decode cX7_set 50 = .ok (.iload_n 1, 1) := by decide +kernel
theorem dX7_set_51 : decode cX7_set 51 = .ok (.iconst 0, 1) := by decide +kernel
theorem dX7_set_52 : decode cX7_set 52 = .ok (.invokevirtual 113, 3) := by decide +kernel
theorem dX7_set_55 : decode cX7_set 55 = .ok (.istore_n 3, 1) := by decide +kernel
theorem dX7_set_56 : decode cX7_set 56 = .ok (.aload_n 0, 1) := by decide +kernel
theorem dX7_set_57 : decode cX7_set 57 = .ok (.getfield 19, 3) := by decide +kernel
theorem dX7_set_60 : decode cX7_set 60 = .ok (.iload_n 1, 1) := by decide +kernel
theorem dX7_set_61 : decode cX7_set 61 = .ok (.iload_n 2, 1) := by decide +kernel
theorem dX7_set_62 : decode cX7_set 62 = .ok (.invokevirtual 139, 3) := by decide +kernel
theorem dX7_set_65 : decode cX7_set 65 = .ok (.iload_n 3, 1) := by decide +kernel
theorem dX7_set_66 : decode cX7_set 66 = .ok (.ireturn, 1) := by decide +kernel
theorem dX7_pour_0 : decode cX7_pour 0 = .ok (.aload_n 0, 1) := by decide +kernel
theorem dX7_pour_1 : decode cX7_pour 1 = .ok (.getfield 19, 3) := by decide +kernel
theorem dX7_pour_4 : decode cX7_pour 4 = .ok (.iload_n 1, 1) := by decide +kernel
theorem dX7_pour_5 : decode cX7_pour 5 = .ok (.invokevirtual 107, 3) := by decide +kernel
theorem dX7_pour_8 : decode cX7_pour 8 = .ok (.ifCond .eq 10, 3) := by decide +kernel
theorem dX7_pour_11 : decode cX7_pour 11 = .ok (.iload_n 2, 1) := by decide +kernel
theorem dX7_pour_12 : decode cX7_pour 12 = .ok (.invokestatic 143, 3) := by decide +kernel
theorem dX7_pour_15 : decode cX7_pour 15 = .ok (.ifCond .ne 5, 3) := by decide +kernel
theorem dX7_pour_18 : decode cX7_pour 18 = .ok (.iconst (-1), 1) := by decide +kernel
theorem dX7_pour_19 : decode cX7_pour 19 = .ok (.ireturn, 1) := by decide +kernel
theorem dX7_pour_20 : decode cX7_pour 20 = .ok (.aload_n 0, 1) := by decide +kernel
theorem dX7_pour_21 : decode cX7_pour 21 = .ok (.getfield 19, 3) := by decide +kernel
theorem dX7_pour_24 : decode cX7_pour 24 = .ok (.iload_n 1, 1) := by decide +kernel
theorem dX7_pour_25 : decode cX7_pour 25 = .ok (.iload_n 2, 1) := by decide +kernel
theorem dX7_pour_26 : decode cX7_pour 26 = .ok (.invokevirtual 146, 3) := by decide +kernel
theorem dX7_pour_29 : decode cX7_pour 29 = .ok (.ifCond .ne 6, 3) := by decide +kernel
theorem dX7_pour_32 : decode cX7_pour 32 = .ok (.bipush (-3), 2) := by decide +kernel
theorem dX7_pour_34 : decode cX7_pour 34 = .ok (.ireturn, 1) := by decide +kernel
theorem dX7_pour_35 : decode cX7_pour 35 = .ok (.aload_n 0, 1) := by decide +kernel
theorem dX7_pour_36 : decode cX7_pour 36 = .ok (.getfield 29, 3) := by decide +kernel
theorem dX7_pour_39 : decode cX7_pour 39 = .ok (.aload_n 0, 1) := by decide +kernel
theorem dX7_pour_40 : decode cX7_pour 40 = .ok (.getfield 19, 3) := by decide +kernel
theorem dX7_pour_43 : decode cX7_pour 43 = .ok (.invokevirtual 123, 3) := by decide +kernel
theorem dX7_pour_46 : decode cX7_pour 46 = .ok (.aload_n 0, 1) := by decide +kernel
theorem dX7_pour_47 : decode cX7_pour 47 = .ok (.getfield 19, 3) := by decide +kernel
theorem dX7_pour_50 : decode cX7_pour 50 = .ok (.iload_n 1, 1) := by decide +kernel
theorem dX7_pour_51 : decode cX7_pour 51 = .ok (.iconst 2, 1) := by decide +kernel
theorem dX7_pour_52 : decode cX7_pour 52 = .ok (.invokevirtual 113, 3) := by decide +kernel
theorem dX7_pour_55 : decode cX7_pour 55 = .ok (.istore_n 3, 1) := by decide +kernel
theorem dX7_pour_56 : decode cX7_pour 56 = .ok (.aload_n 0, 1) := by decide +kernel
theorem dX7_pour_57 : decode cX7_pour 57 = .ok (.getfield 19, 3) := by decide +kernel
theorem dX7_pour_60 : decode cX7_pour 60 = .ok (.iload_n 1, 1) := by decide +kernel
theorem dX7_pour_61 : decode cX7_pour 61 = .ok (.iload_n 2, 1) := by decide +kernel
theorem dX7_pour_62 : decode cX7_pour 62 = .ok (.invokevirtual 149, 3) := by decide +kernel
theorem dX7_pour_65 : decode cX7_pour 65 = .ok (.iload_n 3, 1) := by decide +kernel
theorem dX7_pour_66 : decode cX7_pour 66 = .ok (.ireturn, 1) := by decide +kernel
theorem dX7_open_0 : decode cX7_open 0 = .ok (.aload_n 0, 1) := by decide +kernel
theorem dX7_open_1 : decode cX7_open 1 = .ok (.getfield 19, 3) := by decide +kernel
theorem dX7_open_4 : decode cX7_open 4 = .ok (.iload_n 1, 1) := by decide +kernel
theorem dX7_open_5 : decode cX7_open 5 = .ok (.invokevirtual 107, 3) := by decide +kernel
theorem dX7_open_8 : decode cX7_open 8 = .ok (.ifCond .ne 5, 3) := by decide +kernel
theorem dX7_open_11 : decode cX7_open 11 = .ok (.iconst (-1), 1) := by decide +kernel
theorem dX7_open_12 : decode cX7_open 12 = .ok (.ireturn, 1) := by decide +kernel
theorem dX7_open_13 : decode cX7_open 13 = .ok (.aload_n 0, 1) := by decide +kernel
theorem dX7_open_14 : decode cX7_open 14 = .ok (.getfield 19, 3) := by decide +kernel
theorem dX7_open_17 : decode cX7_open 17 = .ok (.iload_n 1, 1) := by decide +kernel
theorem dX7_open_18 : decode cX7_open 18 = .ok (.invokevirtual 152, 3) := by decide +kernel
theorem dX7_open_21 : decode cX7_open 21 = .ok (.ifCond .ne 6, 3) := by decide +kernel
theorem dX7_open_24 : decode cX7_open 24 = .ok (.bipush (-3), 2) := by decide +kernel
theorem dX7_open_26 : decode cX7_open 26 = .ok (.ireturn, 1) := by decide +kernel
theorem dX7_open_27 : decode cX7_open 27 = .ok (.aload_n 0, 1) := by decide +kernel
theorem dX7_open_28 : decode cX7_open 28 = .ok (.getfield 29, 3) := by decide +kernel
theorem dX7_open_31 : decode cX7_open 31 = .ok (.aload_n 0, 1) := by decide +kernel
theorem dX7_open_32 : decode cX7_open 32 = .ok (.getfield 19, 3) := by decide +kernel
theorem dX7_open_35 : decode cX7_open 35 = .ok (.invokevirtual 123, 3) := by decide +kernel
theorem dX7_open_38 : decode cX7_open 38 = .ok (.aload_n 0, 1) := by decide +kernel
theorem dX7_open_39 : decode cX7_open 39 = .ok (.getfield 19, 3) := by decide +kernel
theorem dX7_open_42 : decode cX7_open 42 = .ok (.iload_n 1, 1) := by decide +kernel
theorem dX7_open_43 : decode cX7_open 43 = .ok (.invokevirtual 155, 3) := by decide +kernel
theorem dX7_open_46 : decode cX7_open 46 = .ok (.aload_n 0, 1) := by decide +kernel
theorem dX7_open_47 : decode cX7_open 47 = .ok (.getfield 19, 3) := by decide +kernel
theorem dX7_open_50 : decode cX7_open 50 = .ok (.iload_n 1, 1) := by decide +kernel
theorem dX7_open_51 : decode cX7_open 51 = .ok (.iconst 1, 1) := by decide +kernel
theorem dX7_open_52 : decode cX7_open 52 = .ok (.invokevirtual 113, 3) := by decide +kernel
theorem dX7_open_55 : decode cX7_open 55 = .ok (.ireturn, 1) := by decide +kernel
theorem dX7_undo_0 : decode cX7_undo 0 = .ok (.aload_n 0, 1) := by decide +kernel
theorem dX7_undo_1 : decode cX7_undo 1 = .ok (.getfield 29, 3) := by decide +kernel
theorem dX7_undo_4 : decode cX7_undo 4 = .ok (.aload_n 0, 1) := by decide +kernel
theorem dX7_undo_5 : decode cX7_undo 5 = .ok (.getfield 19, 3) := by decide +kernel
theorem dX7_undo_8 : decode cX7_undo 8 = .ok (.invokevirtual 159, 3) := by decide +kernel
theorem dX7_undo_11 : decode cX7_undo 11 = .ok (.ifCond .eq 13, 3) := by decide +kernel
theorem dX7_undo_14 : decode cX7_undo 14 = .ok (.aload_n 0, 1) := by decide +kernel
theorem dX7_undo_15 : decode cX7_undo 15 = .ok (.getfield 29, 3) := by decide +kernel
theorem dX7_undo_18 : decode cX7_undo 18 = .ok (.invokevirtual 103, 3) := by decide +kernel
theorem dX7_undo_21 : decode cX7_undo 21 = .ok (.goto 5, 3) := by decide +kernel
theorem dX7_undo_24 : decode cX7_undo 24 = .ok (.bipush (-3), 2) := by decide +kernel
theorem dX7_undo_26 : decode cX7_undo 26 = .ok (.ireturn, 1) := by decide +kernel
theorem dX7_later_0 : decode cX7_later 0 = .ok (.aload_n 0, 1) := by decide +kernel
theorem dX7_later_1 : decode cX7_later 1 = .ok (.getfield 19, 3) := by decide +kernel
theorem dX7_later_4 : decode cX7_later 4 = .ok (.iload_n 1, 1) := by decide +kernel
theorem dX7_later_5 : decode cX7_later 5 = .ok (.invokevirtual 107, 3) := by decide +kernel
theorem dX7_later_8 : decode cX7_later 8 = .ok (.ifCond .ne 5, 3) := by decide +kernel
theorem dX7_later_11 : decode cX7_later 11 = .ok (.iconst (-1), 1) := by decide +kernel
theorem dX7_later_12 : decode cX7_later 12 = .ok (.ireturn, 1) := by decide +kernel
theorem dX7_later_13 : decode cX7_later 13 = .ok (.iload_n 2, 1) := by decide +kernel
theorem dX7_later_14 : decode cX7_later 14 = .ok (.ifCond .lt 18, 3) := by decide +kernel
theorem dX7_later_17 : decode cX7_later 17 = .ok (.iload_n 2, 1) := by decide +kernel
theorem dX7_later_18 : decode cX7_later 18 = .ok (.bipush 20, 2) := by decide +kernel
theorem dX7_later_20 : decode cX7_later 20 = .ok (.if_icmp .gt 12, 3) := by decide +kernel
theorem dX7_later_23 : decode cX7_later 23 = .ok (.iload_n 3, 1) := by decide +kernel
theorem dX7_later_24 : decode cX7_later 24 = .ok (.ifCond .lt 8, 3) := by decide +kernel
theorem dX7_later_27 : decode cX7_later 27 = .ok (.iload_n 3, 1) := by decide +kernel
theorem dX7_later_28 : decode cX7_later 28 = .ok (.iconst 1, 1) := by decide +kernel
theorem dX7_later_29 : decode cX7_later 29 = .ok (.if_icmp .le 6, 3) := by decide +kernel
theorem dX7_later_32 : decode cX7_later 32 = .ok (.bipush (-2), 2) := by decide +kernel
theorem dX7_later_34 : decode cX7_later 34 = .ok (.ireturn, 1) := by decide +kernel
theorem dX7_later_35 : decode cX7_later 35 = .ok (.aload_n 0, 1) := by decide +kernel
theorem dX7_later_36 : decode cX7_later 36 = .ok (.getfield 23, 3) := by decide +kernel
theorem dX7_later_39 : decode cX7_later 39 = .ok (.aload_n 0, 1) := by decide +kernel
theorem dX7_later_40 : decode cX7_later 40 = .ok (.getfield 19, 3) := by decide +kernel
theorem dX7_later_43 : decode cX7_later 43 = .ok (.invokevirtual 163, 3) := by decide +kernel
theorem dX7_later_46 : decode cX7_later 46 = .ok (.aload_n 0, 1) := by decide +kernel
theorem dX7_later_47 : decode cX7_later 47 = .ok (.getfield 23, 3) := by decide +kernel
theorem dX7_later_50 : decode cX7_later 50 = .ok (.iload_n 2, 1) := by decide +kernel
theorem dX7_later_51 : decode cX7_later 51 = .ok (.invokevirtual 166, 3) := by decide +kernel
theorem dX7_later_54 : decode cX7_later 54 = .ok (.iload_n 3, 1) := by decide +kernel
theorem dX7_later_55 : decode cX7_later 55 = .ok (.ifCond .ne 15, 3) := by decide +kernel
theorem dX7_later_58 : decode cX7_later 58 = .ok (.aload_n 0, 1) := by decide +kernel
theorem dX7_later_59 : decode cX7_later 59 = .ok (.getfield 23, 3) := by decide +kernel
theorem dX7_later_62 : decode cX7_later 62 = .ok (.iload_n 1, 1) := by decide +kernel
theorem dX7_later_63 : decode cX7_later 63 = .ok (.iconst 1, 1) := by decide +kernel
theorem dX7_later_64 : decode cX7_later 64 = .ok (.invokevirtual 113, 3) := by decide +kernel
theorem dX7_later_67 : decode cX7_later 67 = .ok (.goto 11, 3) := by decide +kernel
theorem dX7_later_70 : decode cX7_later 70 = .ok (.aload_n 0, 1) := by decide +kernel
theorem dX7_later_71 : decode cX7_later 71 = .ok (.getfield 23, 3) := by decide +kernel
theorem dX7_later_74 : decode cX7_later 74 = .ok (.iload_n 1, 1) := by decide +kernel
theorem dX7_later_75 : decode cX7_later 75 = .ok (.invokevirtual 110, 3) := by decide +kernel
theorem dX7_later_78 : decode cX7_later 78 = .ok (.ireturn, 1) := by decide +kernel
theorem dX7_becomes_0 : decode cX7_becomes 0 = .ok (.aload_n 0, 1) := by decide +kernel
theorem dX7_becomes_1 : decode cX7_becomes 1 = .ok (.getfield 19, 3) := by decide +kernel
theorem dX7_becomes_4 : decode cX7_becomes 4 = .ok (.iload_n 1, 1) := by decide +kernel
theorem dX7_becomes_5 : decode cX7_becomes 5 = .ok (.invokevirtual 107, 3) := by decide +kernel
theorem dX7_becomes_8 : decode cX7_becomes 8 = .ok (.ifCond .ne 5, 3) := by decide +kernel
theorem dX7_becomes_11 : decode cX7_becomes 11 = .ok (.iconst (-1), 1) := by decide +kernel
theorem dX7_becomes_12 : decode cX7_becomes 12 = .ok (.ireturn, 1) := by decide +kernel
theorem dX7_becomes_13 : decode cX7_becomes 13 = .ok (.iload_n 2, 1) := by decide +kernel
theorem dX7_becomes_14 : decode cX7_becomes 14 = .ok (.invokestatic 169, 3) := by decide +kernel
theorem dX7_becomes_17 : decode cX7_becomes 17 = .ok (.ifCond .ne 6, 3) := by decide +kernel
theorem dX7_becomes_20 : decode cX7_becomes 20 = .ok (.bipush (-2), 2) := by decide +kernel
theorem dX7_becomes_22 : decode cX7_becomes 22 = .ok (.ireturn, 1) := by decide +kernel
theorem dX7_becomes_23 : decode cX7_becomes 23 = .ok (.aload_n 0, 1) := by decide +kernel
theorem dX7_becomes_24 : decode cX7_becomes 24 = .ok (.getfield 19, 3) := by decide +kernel
theorem dX7_becomes_27 : decode cX7_becomes 27 = .ok (.iload_n 1, 1) := by decide +kernel
theorem dX7_becomes_28 : decode cX7_becomes 28 = .ok (.invokevirtual 152, 3) := by decide +kernel
theorem dX7_becomes_31 : decode cX7_becomes 31 = .ok (.ifCond .ne 6, 3) := by decide +kernel
theorem dX7_becomes_34 : decode cX7_becomes 34 = .ok (.bipush (-3), 2) := by decide +kernel
theorem dX7_becomes_36 : decode cX7_becomes 36 = .ok (.ireturn, 1) := by decide +kernel
theorem dX7_becomes_37 : decode cX7_becomes 37 = .ok (.aload_n 0, 1) := by decide +kernel
theorem dX7_becomes_38 : decode cX7_becomes 38 = .ok (.getfield 23, 3) := by decide +kernel
theorem dX7_becomes_41 : decode cX7_becomes 41 = .ok (.aload_n 0, 1) := by decide +kernel
theorem dX7_becomes_42 : decode cX7_becomes 42 = .ok (.getfield 19, 3) := by decide +kernel
theorem dX7_becomes_45 : decode cX7_becomes 45 = .ok (.invokevirtual 163, 3) := by decide +kernel
theorem dX7_becomes_48 : decode cX7_becomes 48 = .ok (.iconst 0, 1) := by decide +kernel
theorem dX7_becomes_49 : decode cX7_becomes 49 = .ok (.istore_n 3, 1) := by decide +kernel
theorem dX7_becomes_50 : decode cX7_becomes 50 = .ok (.iload_n 3, 1) := by decide +kernel
theorem dX7_becomes_51 : decode cX7_becomes 51 = .ok (.bipush 20, 2) := by decide +kernel
theorem dX7_becomes_53 : decode cX7_becomes 53 = .ok (.if_icmp .gt 31, 3) := by decide +kernel
theorem dX7_becomes_56 : decode cX7_becomes 56 = .ok (.aload_n 0, 1) := by decide +kernel
theorem dX7_becomes_57 : decode cX7_becomes 57 = .ok (.getfield 23, 3) := by decide +kernel
theorem dX7_becomes_60 : decode cX7_becomes 60 = .ok (.iload_n 1, 1) := by decide +kernel
theorem dX7_becomes_61 : decode cX7_becomes 61 = .ok (.iconst 1, 1) := by decide +kernel
theorem dX7_becomes_62 : decode cX7_becomes 62 = .ok (.invokevirtual 113, 3) := by decide +kernel
theorem dX7_becomes_65 : decode cX7_becomes 65 = .ok (.iload_n 2, 1) := by decide +kernel
theorem dX7_becomes_66 : decode cX7_becomes 66 = .ok (.if_icmp .ne 5, 3) := by decide +kernel
theorem dX7_becomes_69 : decode cX7_becomes 69 = .ok (.iload_n 3, 1) := by decide +kernel
theorem dX7_becomes_70 : decode cX7_becomes 70 = .ok (.ireturn, 1) := by decide +kernel
theorem dX7_becomes_71 : decode cX7_becomes 71 = .ok (.aload_n 0, 1) := by decide +kernel
theorem dX7_becomes_72 : decode cX7_becomes 72 = .ok (.getfield 23, 3) := by decide +kernel
theorem dX7_becomes_75 : decode cX7_becomes 75 = .ok (.invokevirtual 126, 3) := by decide +kernel
theorem dX7_becomes_78 : decode cX7_becomes 78 = .ok (.iinc 3 1, 3) := by decide +kernel
theorem dX7_becomes_81 : decode cX7_becomes 81 = .ok (.goto (-31), 3) := by decide +kernel
theorem dX7_becomes_84 : decode cX7_becomes 84 = .ok (.bipush (-9), 2) := by decide +kernel
theorem dX7_becomes_86 : decode cX7_becomes 86 = .ok (.ireturn, 1) := by decide +kernel
theorem dX7_fails_0 : decode cX7_fails 0 = .ok (.aload_n 0, 1) := by decide +kernel
theorem dX7_fails_1 : decode cX7_fails 1 = .ok (.getfield 19, 3) := by decide +kernel
theorem dX7_fails_4 : decode cX7_fails 4 = .ok (.iload_n 1, 1) := by decide +kernel
theorem dX7_fails_5 : decode cX7_fails 5 = .ok (.invokevirtual 107, 3) := by decide +kernel
theorem dX7_fails_8 : decode cX7_fails 8 = .ok (.ifCond .ne 5, 3) := by decide +kernel
theorem dX7_fails_11 : decode cX7_fails 11 = .ok (.iconst (-1), 1) := by decide +kernel
theorem dX7_fails_12 : decode cX7_fails 12 = .ok (.ireturn, 1) := by decide +kernel
theorem dX7_fails_13 : decode cX7_fails 13 = .ok (.aload_n 0, 1) := by decide +kernel
theorem dX7_fails_14 : decode cX7_fails 14 = .ok (.getfield 19, 3) := by decide +kernel
theorem dX7_fails_17 : decode cX7_fails 17 = .ok (.iload_n 1, 1) := by decide +kernel
theorem dX7_fails_18 : decode cX7_fails 18 = .ok (.invokevirtual 152, 3) := by decide +kernel
theorem dX7_fails_21 : decode cX7_fails 21 = .ok (.ifCond .ne 6, 3) := by decide +kernel
theorem dX7_fails_24 : decode cX7_fails 24 = .ok (.bipush (-3), 2) := by decide +kernel
theorem dX7_fails_26 : decode cX7_fails 26 = .ok (.ireturn, 1) := by decide +kernel
theorem dX7_fails_27 : decode cX7_fails 27 = .ok (.aload_n 0, 1) := by decide +kernel
