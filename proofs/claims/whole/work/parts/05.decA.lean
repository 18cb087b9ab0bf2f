theorem dX0_init_0 : decode cX0_init 0 = .ok (.aload_n 0, 1) := by decide +kernel
theorem dX0_init_1 : decode cX0_init 1 = .ok (.invokespecial 3, 3) := by decide +kernel
theorem dX0_init_4 : decode cX0_init 4 = .ok (.aload_n 0, 1) := by decide +kernel
theorem dX0_init_5 : decode cX0_init 5 = .ok (.bipush 8, 2) := by decide +kernel
theorem dX0_init_7 : decode cX0_init 7 = .ok (.newarray .int, 2) := by decide +kernel
theorem dX0_init_9 : decode cX0_init 9 = .ok (.putfield 9, 3) := by decide +kernel
theorem dX0_init_12 : decode cX0_init 12 = .ok (.aload_n 0, 1) := by decide +kernel
theorem dX0_init_13 : decode cX0_init 13 = .ok (.bipush 8, 2) := by decide +kernel
theorem dX0_init_15 : decode cX0_init 15 = .ok (.newarray .int, 2) := by decide +kernel
theorem dX0_init_17 : decode cX0_init 17 = .ok (.putfield 15, 3) := by decide +kernel
theorem dX0_init_20 : decode cX0_init 20 = .ok (.aload_n 0, 1) := by decide +kernel
theorem dX0_init_21 : decode cX0_init 21 = .ok (.bipush 8, 2) := by decide +kernel
theorem dX0_init_23 : decode cX0_init 23 = .ok (.newarray .int, 2) := by decide +kernel
theorem dX0_init_25 : decode cX0_init 25 = .ok (.putfield 18, 3) := by decide +kernel
theorem dX0_init_28 : decode cX0_init 28 = .ok (.return_, 1) := by decide +kernel
theorem dX0_add_0 : decode cX0_add 0 = .ok (.aload_n 0, 1) := by decide +kernel
theorem dX0_add_1 : decode cX0_add 1 = .ok (.getfield 9, 3) := by decide +kernel
theorem dX0_add_4 : decode cX0_add 4 = .ok (.aload_n 0, 1) := by decide +kernel
theorem dX0_add_5 : decode cX0_add 5 = .ok (.getfield 21, 3) := by decide +kernel
theorem dX0_add_8 : decode cX0_add 8 = .ok (.iload_n 1, 1) := by decide +kernel
theorem dX0_add_9 : decode cX0_add 9 = .ok (.iastore, 1) := by decide +kernel
theorem dX0_add_10 : decode cX0_add 10 = .ok (.aload_n 0, 1) := by decide +kernel
theorem dX0_add_11 : decode cX0_add 11 = .ok (.getfield 15, 3) := by decide +kernel
theorem dX0_add_14 : decode cX0_add 14 = .ok (.aload_n 0, 1) := by decide +kernel
theorem dX0_add_15 : decode cX0_add 15 = .ok (.getfield 21, 3) := by decide +kernel
theorem dX0_add_18 : decode cX0_add 18 = .ok (.iload_n 2, 1) := by decide +kernel
theorem dX0_add_19 : decode cX0_add 19 = .ok (.iastore, 1) := by decide +kernel
theorem dX0_add_20 : decode cX0_add 20 = .ok (.aload_n 0, 1) := by decide +kernel
theorem dX0_add_21 : decode cX0_add 21 = .ok (.getfield 18, 3) := by decide +kernel
theorem dX0_add_24 : decode cX0_add 24 = .ok (.aload_n 0, 1) := by decide +kernel
theorem dX0_add_25 : decode cX0_add 25 = .ok (.getfield 21, 3) := by decide +kernel
theorem dX0_add_28 : decode cX0_add 28 = .ok (.iload_n 3, 1) := by decide +kernel
theorem dX0_add_29 : decode cX0_add 29 = .ok (.iastore, 1) := by decide +kernel
theorem dX0_add_30 : decode cX0_add 30 = .ok (.aload_n 0, 1) := by decide +kernel
theorem dX0_add_31 : decode cX0_add 31 = .ok (.dup, 1) := by decide +kernel
theorem dX0_add_32 : decode cX0_add 32 = .ok (.getfield 21, 3) := by decide +kernel
theorem dX0_add_35 : decode cX0_add 35 = .ok (.iconst 1, 1) := by decide +kernel
theorem dX0_add_36 : decode cX0_add 36 = .ok (.iadd, 1) := by decide +kernel
theorem dX0_add_37 : decode cX0_add 37 = .ok (.putfield 21, 3) := by decide +kernel
theorem dX0_add_40 : decode cX0_add 40 = .ok (.aload_n 0, 1) := by decide +kernel
theorem dX0_add_41 : decode cX0_add 41 = .ok (.getfield 21, 3) := by decide +kernel
theorem dX0_add_44 : decode cX0_add 44 = .ok (.iconst 1, 1) := by decide +kernel
theorem dX0_add_45 : decode cX0_add 45 = .ok (.isub, 1) := by decide +kernel
theorem dX0_add_46 : decode cX0_add 46 = .ok (.ireturn, 1) := by decide +kernel
theorem dX0_daysForChain_0 : decode cX0_daysForChain 0 = .ok (.iconst 0, 1) := by decide +kernel
theorem dX0_daysForChain_1 : decode cX0_daysForChain 1 = .ok (.istore_n 2, 1) := by decide +kernel
theorem dX0_daysForChain_2 : decode cX0_daysForChain 2 = .ok (.iconst 0, 1) := by decide +kernel
theorem dX0_daysForChain_3 : decode cX0_daysForChain 3 = .ok (.istore_n 3, 1) := by decide +kernel
theorem dX0_daysForChain_4 : decode cX0_daysForChain 4 = .ok (.iload_n 3, 1) := by decide +kernel
theorem dX0_daysForChain_5 : decode cX0_daysForChain 5 = .ok (.aload_n 0, 1) := by decide +kernel
theorem dX0_daysForChain_6 : decode cX0_daysForChain 6 = .ok (.getfield 21, 3) := by decide +kernel
theorem dX0_daysForChain_9 : decode cX0_daysForChain 9 = .ok (.if_icmp .ge 29, 3) := by decide +kernel
theorem dX0_daysForChain_12 : decode cX0_daysForChain 12 = .ok (.aload_n 0, 1) := by decide +kernel
theorem dX0_daysForChain_13 : decode cX0_daysForChain 13 = .ok (.getfield 15, 3) := by decide +kernel
theorem dX0_daysForChain_16 : decode cX0_daysForChain 16 = .ok (.iload_n 3, 1) := by decide +kernel
theorem dX0_daysForChain_17 : decode cX0_daysForChain 17 = .ok (.iaload, 1) := by decide +kernel
theorem dX0_daysForChain_18 : decode cX0_daysForChain 18 = .ok (.iload_n 1, 1) := by decide +kernel
theorem dX0_daysForChain_19 : decode cX0_daysForChain 19 = .ok (.iand, 1) := by decide +kernel
theorem dX0_daysForChain_20 : decode cX0_daysForChain 20 = .ok (.ifCond .eq 12, 3) := by decide +kernel
theorem dX0_daysForChain_23 : decode cX0_daysForChain 23 = .ok (.iload_n 2, 1) := by decide +kernel
theorem dX0_daysForChain_24 : decode cX0_daysForChain 24 = .ok (.aload_n 0, 1) := by decide +kernel
theorem dX0_daysForChain_25 : decode cX0_daysForChain 25 = .ok (.getfield 9, 3) := by decide +kernel
theorem dX0_daysForChain_28 : decode cX0_daysForChain 28 = .ok (.iload_n 3, 1) := by decide +kernel
theorem dX0_daysForChain_29 : decode cX0_daysForChain 29 = .ok (.iaload, 1) := by decide +kernel
theorem dX0_daysForChain_30 : decode cX0_daysForChain 30 = .ok (.iadd, 1) := by decide +kernel
theorem dX0_daysForChain_31 : decode cX0_daysForChain 31 = .ok (.istore_n 2, 1) := by decide +kernel
theorem dX0_daysForChain_32 : decode cX0_daysForChain 32 = .ok (.iinc 3 1, 3) := by decide +kernel
theorem dX0_daysForChain_35 : decode cX0_daysForChain 35 = .ok (.goto (-31), 3) := by decide +kernel
theorem dX0_daysForChain_38 : decode cX0_daysForChain 38 = .ok (.iload_n 2, 1) := by decide +kernel
theorem dX0_daysForChain_39 : decode cX0_daysForChain 39 = .ok (.ireturn, 1) := by decide +kernel
theorem dX0_daysForRecall_0 : decode cX0_daysForRecall 0 = .ok (.iconst 0, 1) := by decide +kernel
theorem dX0_daysForRecall_1 : decode cX0_daysForRecall 1 = .ok (.istore_n 2, 1) := by decide +kernel
theorem dX0_daysForRecall_2 : decode cX0_daysForRecall 2 = .ok (.iconst 0, 1) := by decide +kernel
theorem dX0_daysForRecall_3 : decode cX0_daysForRecall 3 = .ok (.istore_n 3, 1) := by decide +kernel
theorem dX0_daysForRecall_4 : decode cX0_daysForRecall 4 = .ok (.iload_n 3, 1) := by decide +kernel
theorem dX0_daysForRecall_5 : decode cX0_daysForRecall 5 = .ok (.aload_n 0, 1) := by decide +kernel
theorem dX0_daysForRecall_6 : decode cX0_daysForRecall 6 = .ok (.getfield 21, 3) := by decide +kernel
theorem dX0_daysForRecall_9 : decode cX0_daysForRecall 9 = .ok (.if_icmp .ge 28, 3) := by decide +kernel
theorem dX0_daysForRecall_12 : decode cX0_daysForRecall 12 = .ok (.aload_n 0, 1) := by decide +kernel
theorem dX0_daysForRecall_13 : decode cX0_daysForRecall 13 = .ok (.getfield 18, 3) := by decide +kernel
theorem dX0_daysForRecall_16 : decode cX0_daysForRecall 16 = .ok (.iload_n 3, 1) := by decide +kernel
theorem dX0_daysForRecall_17 : decode cX0_daysForRecall 17 = .ok (.iaload, 1) := by decide +kernel
theorem dX0_daysForRecall_18 : decode cX0_daysForRecall 18 = .ok (.iload_n 1, 1) := by decide +kernel
theorem dX0_daysForRecall_19 : decode cX0_daysForRecall 19 = .ok (.if_icmp .ne 12, 3) := by decide +kernel
theorem dX0_daysForRecall_22 : decode cX0_daysForRecall 22 = .ok (.iload_n 2, 1) := by decide +kernel
theorem dX0_daysForRecall_23 : decode cX0_daysForRecall 23 = .ok (.aload_n 0, 1) := by decide +kernel
theorem dX0_daysForRecall_24 : decode cX0_daysForRecall 24 = .ok (.getfield 9, 3) := by decide +kernel
theorem dX0_daysForRecall_27 : decode cX0_daysForRecall 27 = .ok (.iload_n 3, 1) := by decide +kernel
theorem dX0_daysForRecall_28 : decode cX0_daysForRecall 28 = .ok (.iaload, 1) := by decide +kernel
theorem dX0_daysForRecall_29 : decode cX0_daysForRecall 29 = .ok (.iadd, 1) := by decide +kernel
theorem dX0_daysForRecall_30 : decode cX0_daysForRecall 30 = .ok (.istore_n 2, 1) := by decide +kernel
theorem dX0_daysForRecall_31 : decode cX0_daysForRecall 31 = .ok (.iinc 3 1, 3) := by decide +kernel
theorem dX0_daysForRecall_34 : decode cX0_daysForRecall 34 = .ok (.goto (-30), 3) := by decide +kernel
theorem dX0_daysForRecall_37 : decode cX0_daysForRecall 37 = .ok (.iload_n 2, 1) := by decide +kernel
theorem dX0_daysForRecall_38 : decode cX0_daysForRecall 38 = .ok (.ireturn, 1) := by decide +kernel
theorem dX1_exists_0 : decode cX1_exists 0 = .ok (.iload_n 0, 1) := by decide +kernel
theorem dX1_exists_1 : decode cX1_exists 1 = .ok (.sipush 2000, 3) := by decide +kernel
theorem dX1_exists_4 : decode cX1_exists 4 = .ok (.if_icmp .lt 39, 3) := by decide +kernel
theorem dX1_exists_7 : decode cX1_exists 7 = .ok (.iload_n 0, 1) := by decide +kernel
theorem dX1_exists_8 : decode cX1_exists 8 = .ok (.sipush 2099, 3) := by decide +kernel
theorem dX1_exists_11 : decode cX1_exists 11 = .ok (.if_icmp .gt 32, 3) := by decide +kernel
theorem dX1_exists_14 : decode cX1_exists 14 = .ok (.iload_n 1, 1) := by decide +kernel
theorem dX1_exists_15 : decode cX1_exists 15 = .ok (.iconst 1, 1) := by decide +kernel
theorem dX1_exists_16 : decode cX1_exists 16 = .ok (.if_icmp .lt 27, 3) := by decide +kernel
theorem dX1_exists_19 : decode cX1_exists 19 = .ok (.iload_n 1, 1) := by decide +kernel
theorem dX1_exists_20 : decode cX1_exists 20 = .ok (.bipush 12, 2) := by decide +kernel
theorem dX1_exists_22 : decode cX1_exists 22 = .ok (.if_icmp .gt 21, 3) := by decide +kernel
theorem dX1_exists_25 : decode cX1_exists 25 = .ok (.iload_n 2, 1) := by decide +kernel
theorem dX1_exists_26 : decode cX1_exists 26 = .ok (.iconst 1, 1) := by decide +kernel
theorem dX1_exists_27 : decode cX1_exists 27 = .ok (.if_icmp .lt 16, 3) := by decide +kernel
theorem dX1_exists_30 : decode cX1_exists 30 = .ok (.iload_n 2, 1) := by decide +kernel
theorem dX1_exists_31 : decode cX1_exists 31 = .ok (.iload_n 0, 1) := by decide +kernel
theorem dX1_exists_32 : decode cX1_exists 32 = .ok (.iload_n 1, 1) := by decide +kernel
theorem dX1_exists_33 : decode cX1_exists 33 = .ok (.invokestatic 9, 3) := by decide +kernel
theorem dX1_exists_36 : decode cX1_exists 36 = .ok (.if_icmp .gt 7, 3) := by decide +kernel
theorem dX1_exists_39 : decode cX1_exists 39 = .ok (.iconst 1, 1) := by decide +kernel
theorem dX1_exists_40 : decode cX1_exists 40 = .ok (.goto 4, 3) := by decide +kernel
theorem dX1_exists_43 : decode cX1_exists 43 = .ok (.iconst 0, 1) := by decide +kernel
theorem dX1_exists_44 : decode cX1_exists 44 = .ok (.ireturn, 1) := by decide +kernel
theorem dX1_daysIn_0 : decode cX1_daysIn 0 = .ok (.iload_n 1, 1) := by decide +kernel
theorem dX1_daysIn_1 : decode cX1_daysIn 1 = .ok (.iconst 2, 1) := by decide +kernel
theorem dX1_daysIn_2 : decode cX1_daysIn 2 = .ok (.if_icmp .ne 17, 3) := by decide +kernel
theorem dX1_daysIn_5 : decode cX1_daysIn 5 = .ok (.iload_n 0, 1) := by decide +kernel
theorem dX1_daysIn_6 : decode cX1_daysIn 6 = .ok (.iconst 4, 1) := by decide +kernel
theorem dX1_daysIn_7 : decode cX1_daysIn 7 = .ok (.irem, 1) := by decide +kernel
theorem dX1_daysIn_8 : decode cX1_daysIn 8 = .ok (.ifCond .ne 8, 3) := by decide +kernel
theorem dX1_daysIn_11 : decode cX1_daysIn 11 = .ok (.bipush 29, 2) := by decide +kernel
theorem dX1_daysIn_13 : decode cX1_daysIn 13 = .ok (.goto 5, 3) := by decide +kernel
theorem dX1_daysIn_16 : decode cX1_daysIn 16 = .ok (.bipush 28, 2) := by decide +kernel
theorem dX1_daysIn_18 : decode cX1_daysIn 18 = .ok (.ireturn, 1) := by decide +kernel
theorem dX1_daysIn_19 : decode cX1_daysIn 19 = .ok (.iload_n 1, 1) := by decide +kernel
theorem dX1_daysIn_20 : decode cX1_daysIn 20 = .ok (.iconst 4, 1) := by decide +kernel
theorem dX1_daysIn_21 : decode cX1_daysIn 21 = .ok (.if_icmp .eq 21, 3) := by decide +kernel
theorem dX1_daysIn_24 : decode cX1_daysIn 24 = .ok (.iload_n 1, 1) := by decide +kernel
theorem dX1_daysIn_25 : decode cX1_daysIn 25 = .ok (.bipush 6, 2) := by decide +kernel
theorem dX1_daysIn_27 : decode cX1_daysIn 27 = .ok (.if_icmp .eq 15, 3) := by decide +kernel
theorem dX1_daysIn_30 : decode cX1_daysIn 30 = .ok (.iload_n 1, 1) := by decide +kernel
theorem dX1_daysIn_31 : decode cX1_daysIn 31 = .ok (.bipush 9, 2) := by decide +kernel
theorem dX1_daysIn_33 : decode cX1_daysIn 33 = .ok (.if_icmp .eq 9, 3) := by decide +kernel
theorem dX1_daysIn_36 : decode cX1_daysIn 36 = .ok (.iload_n 1, 1) := by decide +kernel
theorem dX1_daysIn_37 : decode cX1_daysIn 37 = .ok (.bipush 11, 2) := by decide +kernel
theorem dX1_daysIn_39 : decode cX1_daysIn 39 = .ok (.if_icmp .ne 8, 3) := by decide +kernel
theorem dX1_daysIn_42 : decode cX1_daysIn 42 = .ok (.bipush 30, 2) := by decide +kernel
theorem dX1_daysIn_44 : decode cX1_daysIn 44 = .ok (.goto 5, 3) := by decide +kernel
theorem dX1_daysIn_47 : decode cX1_daysIn 47 = .ok (.bipush 31, 2) := by decide +kernel
theorem dX1_daysIn_49 : decode cX1_daysIn 49 = .ok (.ireturn, 1) := by decide +kernel
theorem dX1_numberOf_0 : decode cX1_numberOf 0 = .ok (.iload_n 0, 1) := by decide +kernel
theorem dX1_numberOf_1 : decode cX1_numberOf 1 = .ok (.invokestatic 13, 3) := by decide +kernel
theorem dX1_numberOf_4 : decode cX1_numberOf 4 = .ok (.iload_n 0, 1) := by decide +kernel
theorem dX1_numberOf_5 : decode cX1_numberOf 5 = .ok (.iload_n 1, 1) := by decide +kernel
theorem dX1_numberOf_6 : decode cX1_numberOf 6 = .ok (.invokestatic 17, 3) := by decide +kernel
theorem dX1_numberOf_9 : decode cX1_numberOf 9 = .ok (.iadd, 1) := by decide +kernel
theorem dX1_numberOf_10 : decode cX1_numberOf 10 = .ok (.iload_n 2, 1) := by decide +kernel
theorem dX1_numberOf_11 : decode cX1_numberOf 11 = .ok (.iadd, 1) := by decide +kernel
theorem dX1_numberOf_12 : decode cX1_numberOf 12 = .ok (.iconst 1, 1) := by decide +kernel
theorem dX1_numberOf_13 : decode cX1_numberOf 13 = .ok (.isub, 1) := by decide +kernel
theorem dX1_numberOf_14 : decode cX1_numberOf 14 = .ok (.ireturn, 1) := by decide +kernel
theorem dX1_yearStart_0 : decode cX1_yearStart 0 = .ok (.iload_n 0, 1) := by decide +kernel
theorem dX1_yearStart_1 : decode cX1_yearStart 1 = .ok (.sipush 2000, 3) := by decide +kernel
theorem dX1_yearStart_4 : decode cX1_yearStart 4 = .ok (.isub, 1) := by decide +kernel
theorem dX1_yearStart_5 : decode cX1_yearStart 5 = .ok (.istore_n 1, 1) := by decide +kernel
theorem dX1_yearStart_6 : decode cX1_yearStart 6 = .ok (.sipush 365, 3) := by decide +kernel
theorem dX1_yearStart_9 : decode cX1_yearStart 9 = .ok (.iload_n 1, 1) := by decide +kernel
theorem dX1_yearStart_10 : decode cX1_yearStart 10 = .ok (.imul, 1) := by decide +kernel
theorem dX1_yearStart_11 : decode cX1_yearStart 11 = .ok (.iload_n 1, 1) := by decide +kernel
theorem dX1_yearStart_12 : decode cX1_yearStart 12 = .ok (.iconst 3, 1) := by decide +kernel
theorem dX1_yearStart_13 : decode cX1_yearStart 13 = .ok (.iadd, 1) := by decide +kernel
theorem dX1_yearStart_14 : decode cX1_yearStart 14 = .ok (.iconst 4, 1) := by decide +kernel
theorem dX1_yearStart_15 : decode cX1_yearStart 15 = .ok (.idiv, 1) := by decide +kernel
theorem dX1_yearStart_16 : decode cX1_yearStart 16 = .ok (.iadd, 1) := by decide +kernel
theorem dX1_yearStart_17 : decode cX1_yearStart 17 = .ok (.ireturn, 1) := by decide +kernel
theorem dX1_numberByAdding_0 : decode cX1_numberByAdding 0 = .ok (.iload_n 2, 1) := by decide +kernel
theorem dX1_numberByAdding_1 : decode cX1_numberByAdding 1 = .ok (.iconst 1, 1) := by decide +kernel
theorem dX1_numberByAdding_2 : decode cX1_numberByAdding 2 = .ok (.isub, 1) := by decide +kernel
theorem dX1_numberByAdding_3 : decode cX1_numberByAdding 3 = .ok (.istore_n 3, 1) := by decide +kernel
theorem dX1_numberByAdding_4 : decode cX1_numberByAdding 4 = .ok (.sipush 2000, 3) := by decide +kernel
theorem dX1_numberByAdding_7 : decode cX1_numberByAdding 7 = .ok (.istore 4, 2) := by decide +kernel
theorem dX1_numberByAdding_9 : decode cX1_numberByAdding 9 = .ok (.iload 4, 2) := by decide +kernel
theorem dX1_numberByAdding_11 : decode cX1_numberByAdding 11 = .ok (.iload_n 0, 1) := by decide +kernel
theorem dX1_numberByAdding_12 : decode cX1_numberByAdding 12 = .ok (.if_icmp .gt 51, 3) := by decide +kernel
theorem dX1_numberByAdding_15 : decode cX1_numberByAdding 15 = .ok (.iload 4, 2) := by decide +kernel
theorem dX1_numberByAdding_17 : decode cX1_numberByAdding 17 = .ok (.iload_n 0, 1) := by decide +kernel
theorem dX1_numberByAdding_18 : decode cX1_numberByAdding 18 = .ok (.if_icmp .ge 8, 3) := by decide +kernel
theorem dX1_numberByAdding_21 : decode cX1_numberByAdding 21 = .ok (.bipush 12, 2) := by decide +kernel
theorem dX1_numberByAdding_23 : decode cX1_numberByAdding 23 = .ok (.goto 6, 3) := by decide +kernel
theorem dX1_numberByAdding_26 : decode cX1_numberByAdding 26 = .ok (.iload_n 1, 1) := by decide +kernel
theorem dX1_numberByAdding_27 : decode cX1_numberByAdding 27 = .ok (.iconst 1, 1) := by decide +kernel
theorem dX1_numberByAdding_28 : decode cX1_numberByAdding 28 = .ok (.isub, 1) := by decide +kernel
theorem dX1_numberByAdding_29 : decode cX1_numberByAdding 29 = .ok (.istore 5, 2) := by decide +kernel
theorem dX1_numberByAdding_31 : decode cX1_numberByAdding 31 = .ok (.iconst 1, 1) := by decide +kernel
theorem dX1_numberByAdding_32 : decode cX1_numberByAdding 32 = .ok (.istore 6, 2) := by decide +kernel
theorem dX1_numberByAdding_34 : decode cX1_numberByAdding 34 = .ok (.iload 6, 2) := by decide +kernel
theorem dX1_numberByAdding_36 : decode cX1_numberByAdding 36 = .ok (.iload 5, 2) := by decide +kernel
theorem dX1_numberByAdding_38 : decode cX1_numberByAdding 38 = .ok (.if_icmp .gt 19, 3) := by decide +kernel
theorem dX1_numberByAdding_41 : decode cX1_numberByAdding 41 = .ok (.iload_n 3, 1) := by decide +kernel
theorem dX1_numberByAdding_42 : decode cX1_numberByAdding 42 = .ok (.iload 4, 2) := by decide +kernel
theorem dX1_numberByAdding_44 : decode cX1_numberByAdding 44 = .ok (.iload 6, 2) := by decide +kernel
theorem dX1_numberByAdding_46 : decode cX1_numberByAdding 46 = .ok (.invokestatic 9, 3) := by decide +kernel
theorem dX1_numberByAdding_49 : decode cX1_numberByAdding 49 = .ok (.iadd, 1) := by decide +kernel
theorem dX1_numberByAdding_50 : decode cX1_numberByAdding 50 = .ok (.istore_n 3, 1) := by decide +kernel
theorem dX1_numberByAdding_51 : decode cX1_numberByAdding 51 = .ok (.iinc 6 1, 3) := by decide +kernel
theorem dX1_numberByAdding_54 : decode cX1_numberByAdding 54 = .ok (.goto (-20), 3) := by decide +kernel
theorem dX1_numberByAdding_57 : decode cX1_numberByAdding 57 = .ok (.iinc 4 1, 3) := by decide +kernel
theorem dX1_numberByAdding_60 : decode cX1_numberByAdding 60 = .ok (.goto (-51), 3) := by decide +kernel
theorem dX1_numberByAdding_63 : decode cX1_numberByAdding 63 = .ok (.iload_n 3, 1) := by decide +kernel
theorem dX1_numberByAdding_64 : decode cX1_numberByAdding 64 = .ok (.ireturn, 1) := by decide +kernel
theorem dX1_daysBefore_0 : decode cX1_daysBefore 0 = .ok (.sipush 367, 3) := by decide +kernel
theorem dX1_daysBefore_3 : decode cX1_daysBefore 3 = .ok (.iload_n 1, 1) := by decide +kernel
theorem dX1_daysBefore_4 : decode cX1_daysBefore 4 = .ok (.imul, 1) := by decide +kernel
theorem dX1_daysBefore_5 : decode cX1_daysBefore 5 = .ok (.sipush 362, 3) := by decide +kernel
theorem dX1_daysBefore_8 : decode cX1_daysBefore 8 = .ok (.isub, 1) := by decide +kernel
theorem dX1_daysBefore_9 : decode cX1_daysBefore 9 = .ok (.bipush 12, 2) := by decide +kernel
theorem dX1_daysBefore_11 : decode cX1_daysBefore 11 = .ok (.idiv, 1) := by decide +kernel
theorem dX1_daysBefore_12 : decode cX1_daysBefore 12 = .ok (.istore_n 2, 1) := by decide +kernel
theorem dX1_daysBefore_13 : decode cX1_daysBefore 13 = .ok (.iload_n 1, 1) := by decide +kernel
theorem dX1_daysBefore_14 : decode cX1_daysBefore 14 = .ok (.iconst 2, 1) := by decide +kernel
theorem dX1_daysBefore_15 : decode cX1_daysBefore 15 = .ok (.if_icmp .gt 5, 3) := by decide +kernel
theorem dX1_daysBefore_18 : decode cX1_daysBefore 18 = .ok (.iload_n 2, 1) := by decide +kernel
theorem dX1_daysBefore_19 : decode cX1_daysBefore 19 = .ok (.ireturn, 1) := by decide +kernel
theorem dX1_daysBefore_20 : decode cX1_daysBefore 20 = .ok (.iload_n 2, 1) := by decide +kernel
theorem dX1_daysBefore_21 : decode cX1_daysBefore 21 = .ok (.iload_n 0, 1) := by decide +kernel
theorem dX1_daysBefore_22 : decode cX1_daysBefore 22 = .ok (.iconst 4, 1) := by decide +kernel
theorem dX1_daysBefore_23 : decode cX1_daysBefore 23 = .ok (.irem, 1) := by decide +kernel
theorem dX1_daysBefore_24 : decode cX1_daysBefore 24 = .ok (.ifCond .ne 7, 3) := by decide +kernel
theorem dX1_daysBefore_27 : decode cX1_daysBefore 27 = .ok (.iconst 1, 1) := by decide +kernel
theorem dX1_daysBefore_28 : decode cX1_daysBefore 28 = .ok (.goto 4, 3) := by decide +kernel
theorem dX1_daysBefore_31 : decode cX1_daysBefore 31 = .ok (.iconst 2, 1) := by decide +kernel
theorem dX1_daysBefore_32 : decode cX1_daysBefore 32 = .ok (.isub, 1) := by decide +kernel
theorem dX1_daysBefore_33 : decode cX1_daysBefore 33 = .ok (.ireturn, 1) := by decide +kernel
theorem dX1_yearAt_0 : decode cX1_yearAt 0 = .ok (.iload_n 0, 1) := by decide +kernel
theorem dX1_yearAt_1 : decode cX1_yearAt 1 = .ok (.sipush 1461, 3) := by decide +kernel
theorem dX1_yearAt_4 : decode cX1_yearAt 4 = .ok (.irem, 1) := by decide +kernel
theorem dX1_yearAt_5 : decode cX1_yearAt 5 = .ok (.istore_n 1, 1) := by decide +kernel
theorem dX1_yearAt_6 : decode cX1_yearAt 6 = .ok (.iload_n 1, 1) := by decide +kernel
theorem dX1_yearAt_7 : decode cX1_yearAt 7 = .ok (.sipush 366, 3) := by decide +kernel
theorem dX1_yearAt_10 : decode cX1_yearAt 10 = .ok (.if_icmp .ge 7, 3) := by decide +kernel
theorem dX1_yearAt_13 : decode cX1_yearAt 13 = .ok (.iconst 0, 1) := by decide +kernel
theorem dX1_yearAt_14 : decode cX1_yearAt 14 = .ok (.goto 14, 3) := by decide +kernel
theorem dX1_yearAt_17 : decode cX1_yearAt 17 = .ok (.iconst 1, 1) := by decide +kernel
theorem dX1_yearAt_18 : decode cX1_yearAt 18 = .ok (.iload_n 1, 1) := by decide +kernel
theorem dX1_yearAt_19 : decode cX1_yearAt 19 = .ok (.sipush 366, 3) := by decide +kernel
theorem dX1_yearAt_22 : decode cX1_yearAt 22 = .ok (.isub, 1) := by decide +kernel
theorem dX1_yearAt_23 : decode cX1_yearAt 23 = .ok (.sipush 365, 3) := by decide +kernel
theorem dX1_yearAt_26 : decode cX1_yearAt 26 = .ok (.idiv, 1) := by decide +kernel
theorem dX1_yearAt_27 : decode cX1_yearAt 27 = .ok (.iadd, 1) := by decide +kernel
theorem dX1_yearAt_28 : decode cX1_yearAt 28 = .ok (.istore_n 2, 1) := by decide +kernel
theorem dX1_yearAt_29 : decode cX1_yearAt 29 = .ok (.sipush 2000, 3) := by decide +kernel
theorem dX1_yearAt_32 : decode cX1_yearAt 32 = .ok (.iconst 4, 1) := by decide +kernel
theorem dX1_yearAt_33 : decode cX1_yearAt 33 = .ok (.iload_n 0, 1) := by decide +kernel
theorem dX1_yearAt_34 : decode cX1_yearAt 34 = .ok (.sipush 1461, 3) := by decide +kernel
theorem dX1_yearAt_37 : decode cX1_yearAt 37 = .ok (.idiv, 1) := by decide +kernel
theorem dX1_yearAt_38 : decode cX1_yearAt 38 = .ok (.imul, 1) := by decide +kernel
theorem dX1_yearAt_39 : decode cX1_yearAt 39 = .ok (.iadd, 1) := by decide +kernel
theorem dX1_yearAt_40 : decode cX1_yearAt 40 = .ok (.iload_n 2, 1) := by decide +kernel
theorem dX1_yearAt_41 : decode cX1_yearAt 41 = .ok (.iadd, 1) := by decide +kernel
theorem dX1_yearAt_42 : decode cX1_yearAt 42 = .ok (.ireturn, 1) := by decide +kernel
theorem dX1_monthAt_0 : decode cX1_monthAt 0 = .ok (.iload_n 0, 1) := by decide +kernel
theorem dX1_monthAt_1 : decode cX1_monthAt 1 = .ok (.invokestatic 20, 3) := by decide +kernel
theorem dX1_monthAt_4 : decode cX1_monthAt 4 = .ok (.istore_n 1, 1) := by decide +kernel
theorem dX1_monthAt_5 : decode cX1_monthAt 5 = .ok (.iload_n 0, 1) := by decide +kernel
theorem dX1_monthAt_6 : decode cX1_monthAt 6 = .ok (.iload_n 1, 1) := by decide +kernel
theorem dX1_monthAt_7 : decode cX1_monthAt 7 = .ok (.invokestatic 13, 3) := by decide +kernel
theorem dX1_monthAt_10 : decode cX1_monthAt 10 = .ok (.isub, 1) := by decide +kernel
theorem dX1_monthAt_11 : decode cX1_monthAt 11 = .ok (.istore_n 2, 1) := by decide +kernel
theorem dX1_monthAt_12 : decode cX1_monthAt 12 = .ok (.iconst 1, 1) := by decide +kernel
theorem dX1_monthAt_13 : decode cX1_monthAt 13 = .ok (.istore_n 3, 1) := by decide +kernel
theorem dX1_monthAt_14 : decode cX1_monthAt 14 = .ok (.iload_n 3, 1) := by decide +kernel
theorem dX1_monthAt_15 : decode cX1_monthAt 15 = .ok (.bipush 12, 2) := by decide +kernel
theorem dX1_monthAt_17 : decode cX1_monthAt 17 = .ok (.if_icmp .ge 20, 3) := by decide +kernel
theorem dX1_monthAt_20 : decode cX1_monthAt 20 = .ok (.iload_n 1, 1) := by decide +kernel
theorem dX1_monthAt_21 : decode cX1_monthAt 21 = .ok (.iload_n 3, 1) := by decide +kernel
theorem dX1_monthAt_22 : decode cX1_monthAt 22 = .ok (.iconst 1, 1) := by decide +kernel
theorem dX1_monthAt_23 : decode cX1_monthAt 23 = .ok (.iadd, 1) := by decide +kernel
theorem dX1_monthAt_24 : decode cX1_monthAt 24 = .ok (.invokestatic 17, 3) := by decide +kernel
theorem dX1_monthAt_27 : decode cX1_monthAt 27 = .ok (.iload_n 2, 1) := by decide +kernel
theorem dX1_monthAt_28 : decode cX1_monthAt 28 = .ok (.if_icmp .gt 9, 3) := by decide +kernel
theorem dX1_monthAt_31 : decode cX1_monthAt 31 = .ok (.iinc 3 1, 3) := by decide +kernel
theorem dX1_monthAt_34 : decode cX1_monthAt 34 = .ok (.goto (-20), 3) := by decide +kernel
theorem dX1_monthAt_37 : decode cX1_monthAt 37 = .ok (.iload_n 3, 1) := by decide +kernel
theorem dX1_monthAt_38 : decode cX1_monthAt 38 = .ok (.ireturn, 1) := by decide +kernel
theorem dX1_dayInMonthAt_0 : decode cX1_dayInMonthAt 0 = .ok (.iload_n 0, 1) := by decide +kernel
theorem dX1_dayInMonthAt_1 : decode cX1_dayInMonthAt 1 = .ok (.iload_n 0, 1) := by decide +kernel
theorem dX1_dayInMonthAt_2 : decode cX1_dayInMonthAt 2 = .ok (.invokestatic 20, 3) := by decide +kernel
theorem dX1_dayInMonthAt_5 : decode cX1_dayInMonthAt 5 = .ok (.iload_n 0, 1) := by decide +kernel
theorem dX1_dayInMonthAt_6 : decode cX1_dayInMonthAt 6 = .ok (.invokestatic 23, 3) := by decide +kernel
theorem dX1_dayInMonthAt_9 : decode cX1_dayInMonthAt 9 = .ok (.iconst 1, 1) := by decide +kernel
theorem dX1_dayInMonthAt_10 : decode cX1_dayInMonthAt 10 = .ok (.invokestatic 26, 3) := by decide +kernel
theorem dX1_dayInMonthAt_13 : decode cX1_dayInMonthAt 13 = .ok (.isub, 1) := by decide +kernel
theorem dX1_dayInMonthAt_14 : decode cX1_dayInMonthAt 14 = .ok (.iconst 1, 1) := by decide +kernel
theorem dX1_dayInMonthAt_15 : decode cX1_dayInMonthAt 15 = .ok (.iadd, 1) := by decide +kernel
theorem dX1_dayInMonthAt_16 : decode cX1_dayInMonthAt 16 = .ok (.ireturn, 1) := by decide +kernel
theorem dX1_later_0 : decode cX1_later 0 = .ok (.iload_n 0, 1) := by decide +kernel
theorem dX1_later_1 : decode cX1_later 1 = .ok (.invokestatic 20, 3) := by decide +kernel
theorem dX1_later_4 : decode cX1_later 4 = .ok (.iload_n 0, 1) := by decide +kernel
theorem dX1_later_5 : decode cX1_later 5 = .ok (.invokestatic 23, 3) := by decide +kernel
theorem dX1_later_8 : decode cX1_later 8 = .ok (.iconst 1, 1) := by decide +kernel
theorem dX1_later_9 : decode cX1_later 9 = .ok (.invokestatic 26, 3) := by decide +kernel
theorem dX1_later_12 : decode cX1_later 12 = .ok (.istore_n 2, 1) := by decide +kernel
theorem dX1_later_13 : decode cX1_later 13 = .ok (.iload_n 0, 1) := by decide +kernel
theorem dX1_later_14 : decode cX1_later 14 = .ok (.invokestatic 23, 3) := by decide +kernel
theorem dX1_later_17 : decode cX1_later 17 = .ok (.iconst 1, 1) := by decide +kernel
theorem dX1_later_18 : decode cX1_later 18 = .ok (.isub, 1) := by decide +kernel
theorem dX1_later_19 : decode cX1_later 19 = .ok (.iload_n 1, 1) := by decide +kernel
theorem dX1_later_20 : decode cX1_later 20 = .ok (.iadd, 1) := by decide +kernel
theorem dX1_later_21 : decode cX1_later 21 = .ok (.istore_n 3, 1) := by decide +kernel
theorem dX1_later_22 : decode cX1_later 22 = .ok (.iload_n 0, 1) := by decide +kernel
theorem dX1_later_23 : decode cX1_later 23 = .ok (.invokestatic 20, 3) := by decide +kernel
theorem dX1_later_26 : decode cX1_later 26 = .ok (.iload_n 3, 1) := by decide +kernel
theorem dX1_later_27 : decode cX1_later 27 = .ok (.bipush 12, 2) := by decide +kernel
theorem dX1_later_29 : decode cX1_later 29 = .ok (.idiv, 1) := by decide +kernel
theorem dX1_later_30 : decode cX1_later 30 = .ok (.iadd, 1) := by decide +kernel
theorem dX1_later_31 : decode cX1_later 31 = .ok (.istore 4, 2) := by decide +kernel
theorem dX1_later_33 : decode cX1_later 33 = .ok (.iload_n 3, 1) := by decide +kernel
theorem dX1_later_34 : decode cX1_later 34 = .ok (.bipush 12, 2) := by decide +kernel
theorem dX1_later_36 : decode cX1_later 36 = .ok (.irem, 1) := by decide +kernel
theorem dX1_later_37 : decode cX1_later 37 = .ok (.iconst 1, 1) := by decide +kernel
theorem dX1_later_38 : decode cX1_later 38 = .ok (.iadd, 1) := by decide +kernel
theorem dX1_later_39 : decode cX1_later 39 = .ok (.istore 5, 2) := by decide +kernel
theorem dX1_later_41 : decode cX1_later 41 = .ok (.iload 4, 2) := by decide +kernel
theorem dX1_later_43 : decode cX1_later 43 = .ok (.iload 5, 2) := by decide +kernel
theorem dX1_later_45 : decode cX1_later 45 = .ok (.iload_n 0, 1) := by decide +kernel
theorem dX1_later_46 : decode cX1_later 46 = .ok (.iload_n 2, 1) := by decide +kernel
theorem dX1_later_47 : decode cX1_later 47 = .ok (.isub, 1) := by decide +kernel
theorem dX1_later_48 : decode cX1_later 48 = .ok (.iconst 1, 1) := by decide +kernel
theorem dX1_later_49 : decode cX1_later 49 = .ok (.iadd, 1) := by decide +kernel
theorem dX1_later_50 : decode cX1_later 50 = .ok (.iload 4, 2) := by decide +kernel
theorem dX1_later_52 : decode cX1_later 52 = .ok (.iload 5, 2) := by decide +kernel
theorem dX1_later_54 : decode cX1_later 54 = .ok (.invokestatic 9, 3) := by decide +kernel
theorem dX1_later_57 : decode cX1_later 57 = .ok (.invokestatic 30, 3) := by decide +kernel
theorem dX1_later_60 : decode cX1_later 60 = .ok (.invokestatic 26, 3) := by decide +kernel
theorem dX1_later_63 : decode cX1_later 63 = .ok (.ireturn, 1) := by decide +kernel
theorem dX2_init_0 : decode cX2_init 0 = .ok (.aload_n 0, 1) := by decide +kernel
theorem dX2_init_1 : decode cX2_init 1 = .ok (.invokespecial 3, 3) := by decide +kernel
theorem dX2_init_4 : decode cX2_init 4 = .ok (.aload_n 0, 1) := by decide +kernel
theorem dX2_init_5 : decode cX2_init 5 = .ok (.sipush 229, 3) := by decide +kernel
theorem dX2_init_8 : decode cX2_init 8 = .ok (.newarray .long, 2) := by decide +kernel
theorem dX2_init_10 : decode cX2_init 10 = .ok (.putfield 11, 3) := by decide +kernel
theorem dX2_init_13 : decode cX2_init 13 = .ok (.return_, 1) := by decide +kernel
theorem dX2_clear_0 : decode cX2_clear 0 = .ok (.aload_n 0, 1) := by decide +kernel
theorem dX2_clear_1 : decode cX2_clear 1 = .ok (.getfield 11, 3) := by decide +kernel
theorem dX2_clear_4 : decode cX2_clear 4 = .ok (.lconst 0, 1) := by decide +kernel
theorem dX2_clear_5 : decode cX2_clear 5 = .ok (.invokestatic 15, 3) := by decide +kernel
theorem dX2_clear_8 : decode cX2_clear 8 = .ok (.return_, 1) := by decide +kernel
theorem dX2_has_0 : decode cX2_has 0 = .ok (.iload_n 1, 1) := by decide +kernel
theorem dX2_has_1 : decode cX2_has 1 = .ok (.bipush 6, 2) := by decide +kernel
theorem dX2_has_3 : decode cX2_has 3 = .ok (.ishr, 1) := by decide +kernel
theorem dX2_has_4 : decode cX2_has 4 = .ok (.istore_n 2, 1) := by decide +kernel
theorem dX2_has_5 : decode cX2_has 5 = .ok (.iload_n 2, 1) := by decide +kernel
theorem dX2_has_6 : decode cX2_has 6 = .ok (.ifCond .lt 32, 3) := by decide +kernel
theorem dX2_has_9 : decode cX2_has 9 = .ok (.iload_n 2, 1) := by decide +kernel
theorem dX2_has_10 : decode cX2_has 10 = .ok (.sipush 229, 3) := by decide +kernel
theorem dX2_has_13 : decode cX2_has 13 = .ok (.if_icmp .ge 25, 3) := by decide +kernel
theorem dX2_has_16 : decode cX2_has 16 = .ok (.aload_n 0, 1) := by decide +kernel
theorem dX2_has_17 : decode cX2_has 17 = .ok (.getfield 11, 3) := by decide +kernel
theorem dX2_has_20 : decode cX2_has 20 = .ok (.iload_n 2, 1) := by decide +kernel
theorem dX2_has_21 : decode cX2_has 21 = .ok (.laload, 1) := by decide +kernel
theorem dX2_has_22 : decode cX2_has 22 = .ok (.iload_n 1, 1) := by decide +kernel
theorem dX2_has_23 : decode cX2_has 23 = .ok (.bipush 63, 2) := by decide +kernel
theorem dX2_has_25 : decode cX2_has 25 = .ok (.iand, 1) := by decide +kernel
theorem dX2_has_26 : decode cX2_has 26 = .ok (.lushr, 1) := by decide +kernel
theorem dX2_has_27 : decode cX2_has 27 = .ok (.lconst 1, 1) := by decide +kernel
theorem dX2_has_28 : decode cX2_has 28 = .ok (.land, 1) := by decide +kernel
theorem dX2_has_29 : decode cX2_has 29 = .ok (.lconst 0, 1) := by decide +kernel
theorem dX2_has_30 : decode cX2_has 30 = .ok (.lcmp, 1) := by decide +kernel
theorem dX2_has_31 : decode cX2_has 31 = .ok (.ifCond .eq 7, 3) := by decide +kernel
theorem dX2_has_34 : decode cX2_has 34 = .ok (.iconst 1, 1) := by decide +kernel
theorem dX2_has_35 : decode cX2_has 35 = .ok (.goto 4, 3) := by decide +kernel
theorem dX2_has_38 : decode cX2_has 38 = .ok (.iconst 0, 1) := by decide +kernel
theorem dX2_has_39 : decode cX2_has 39 = .ok (.ireturn, 1) := by decide +kernel
theorem dX2_mark_0 : decode cX2_mark 0 = .ok (.iload_n 1, 1) := by decide +kernel
theorem dX2_mark_1 : decode cX2_mark 1 = .ok (.iconst 0, 1) := by decide +kernel
theorem dX2_mark_2 : decode cX2_mark 2 = .ok (.invokestatic 21, 3) := by decide +kernel
theorem dX2_mark_5 : decode cX2_mark 5 = .ok (.bipush 6, 2) := by decide +kernel
theorem dX2_mark_7 : decode cX2_mark 7 = .ok (.ishr, 1) := by decide +kernel
theorem dX2_mark_8 : decode cX2_mark 8 = .ok (.istore_n 3, 1) := by decide +kernel
theorem dX2_mark_9 : decode cX2_mark 9 = .ok (.iload_n 3, 1) := by decide +kernel
theorem dX2_mark_10 : decode cX2_mark 10 = .ok (.sipush 229, 3) := by decide +kernel
theorem dX2_mark_13 : decode cX2_mark 13 = .ok (.if_icmp .ge 32, 3) := by decide +kernel
theorem dX2_mark_16 : decode cX2_mark 16 = .ok (.iload_n 3, 1) := by decide +kernel
theorem dX2_mark_17 : decode cX2_mark 17 = .ok (.iload_n 2, 1) := by decide +kernel
theorem dX2_mark_18 : decode cX2_mark 18 = .ok (.bipush 6, 2) := by decide +kernel
theorem dX2_mark_20 : decode cX2_mark 20 = .ok (.ishr, 1) := by decide +kernel
theorem dX2_mark_21 : decode cX2_mark 21 = .ok (.if_icmp .gt 24, 3) := by decide +kernel
theorem dX2_mark_24 : decode cX2_mark 24 = .ok (.aload_n 0, 1) := by decide +kernel
theorem dX2_mark_25 : decode cX2_mark 25 = .ok (.getfield 11, 3) := by decide +kernel
theorem dX2_mark_28 : decode cX2_mark 28 = .ok (.iload_n 3, 1) := by decide +kernel
theorem dX2_mark_29 : decode cX2_mark 29 = .ok (.dup2, 1) := by decide +kernel
theorem dX2_mark_30 : decode cX2_mark 30 = .ok (.laload, 1) := by decide +kernel
theorem dX2_mark_31 : decode cX2_mark 31 = .ok (.iload_n 3, 1) := by decide +kernel
theorem dX2_mark_32 : decode cX2_mark 32 = .ok (.iload_n 1, 1) := by decide +kernel
theorem dX2_mark_33 : decode cX2_mark 33 = .ok (.iload_n 2, 1) := by decide +kernel
theorem dX2_mark_34 : decode cX2_mark 34 = .ok (.invokestatic 27, 3) := by decide +kernel
theorem dX2_mark_37 : decode cX2_mark 37 = .ok (.lor, 1) := by decide +kernel
theorem dX2_mark_38 : decode cX2_mark 38 = .ok (.lastore, 1) := by decide +kernel
theorem dX2_mark_39 : decode cX2_mark 39 = .ok (.iinc 3 1, 3) := by decide +kernel
theorem dX2_mark_42 : decode cX2_mark 42 = .ok (.goto (-33), 3) := by decide +kernel
theorem dX2_mark_45 : decode cX2_mark 45 = .ok (.return_, 1) := by decide +kernel
theorem dX2_sizeWithin_0 : decode cX2_sizeWithin 0 = .ok (.iconst 0, 1) := by decide +kernel
theorem dX2_sizeWithin_1 : decode cX2_sizeWithin 1 = .ok (.istore_n 3, 1) := by decide +kernel
theorem dX2_sizeWithin_2 : decode cX2_sizeWithin 2 = .ok (.iload_n 1, 1) := by decide +kernel
theorem dX2_sizeWithin_3 : decode cX2_sizeWithin 3 = .ok (.iconst 0, 1) := by decide +kernel
theorem dX2_sizeWithin_4 : decode cX2_sizeWithin 4 = .ok (.invokestatic 21, 3) := by decide +kernel
theorem dX2_sizeWithin_7 : decode cX2_sizeWithin 7 = .ok (.bipush 6, 2) := by decide +kernel
theorem dX2_sizeWithin_9 : decode cX2_sizeWithin 9 = .ok (.ishr, 1) := by decide +kernel
theorem dX2_sizeWithin_10 : decode cX2_sizeWithin 10 = .ok (.istore 4, 2) := by decide +kernel
theorem dX2_sizeWithin_12 : decode cX2_sizeWithin 12 = .ok (.iload 4, 2) := by decide +kernel
theorem dX2_sizeWithin_14 : decode cX2_sizeWithin 14 = .ok (.sipush 229, 3) := by decide +kernel
theorem dX2_sizeWithin_17 : decode cX2_sizeWithin 17 = .ok (.if_icmp .ge 39, 3) := by decide +kernel
theorem dX2_sizeWithin_20 : decode cX2_sizeWithin 20 = .ok (.iload 4, 2) := by decide +kernel
theorem dX2_sizeWithin_22 : decode cX2_sizeWithin 22 = .ok (.iload_n 2, 1) := by decide +kernel
theorem dX2_sizeWithin_23 : decode cX2_sizeWithin 23 = .ok (.bipush 6, 2) := by decide +kernel
theorem dX2_sizeWithin_25 : decode cX2_sizeWithin 25 = .ok (.ishr, 1) := by decide +kernel
theorem dX2_sizeWithin_26 : decode cX2_sizeWithin 26 = .ok (.if_icmp .gt 30, 3) := by decide +kernel
theorem dX2_sizeWithin_29 : decode cX2_sizeWithin 29 = .ok (.iload_n 3, 1) := by decide +kernel
theorem dX2_sizeWithin_30 : decode cX2_sizeWithin 30 = .ok (.aload_n 0, 1) := by decide +kernel
theorem dX2_sizeWithin_31 : decode cX2_sizeWithin 31 = .ok (.getfield 11, 3) := by decide +kernel
theorem dX2_sizeWithin_34 : decode cX2_sizeWithin 34 = .ok (.iload 4, 2) := by decide +kernel
theorem dX2_sizeWithin_36 : decode cX2_sizeWithin 36 = .ok (.laload, 1) := by decide +kernel
theorem dX2_sizeWithin_37 : decode cX2_sizeWithin 37 = .ok (.iload 4, 2) := by decide +kernel
theorem dX2_sizeWithin_39 : decode cX2_sizeWithin 39 = .ok (.iload_n 1, 1) := by decide +kernel
theorem dX2_sizeWithin_40 : decode cX2_sizeWithin 40 = .ok (.iload_n 2, 1) := by decide +kernel
theorem dX2_sizeWithin_41 : decode cX2_sizeWithin 41 = .ok (.invokestatic 27, 3) := by decide +kernel
theorem dX2_sizeWithin_44 : decode cX2_sizeWithin 44 = .ok (.land, 1) := by decide +kernel
theorem dX2_sizeWithin_45 : decode cX2_sizeWithin 45 = .ok (.invokestatic 31, 3) := by decide +kernel
theorem dX2_sizeWithin_48 : decode cX2_sizeWithin 48 = .ok (.iadd, 1) := by decide +kernel
theorem dX2_sizeWithin_49 : decode cX2_sizeWithin 49 = .ok (.istore_n 3, 1) := by decide +kernel
theorem dX2_sizeWithin_50 : decode cX2_sizeWithin 50 = .ok (.iinc 4 1, 3) := by decide +kernel
theorem dX2_sizeWithin_53 : decode cX2_sizeWithin 53 = .ok (.goto (-41), 3) := by decide +kernel
theorem dX2_sizeWithin_56 : decode cX2_sizeWithin 56 = .ok (.iload_n 3, 1) := by decide +kernel
theorem dX2_sizeWithin_57 : decode cX2_sizeWithin 57 = .ok (.ireturn, 1) := by decide +kernel
theorem dX2_sizeWithout_0 : decode cX2_sizeWithout 0 = .ok (.iconst 0, 1) := by decide +kernel
theorem dX2_sizeWithout_1 : decode cX2_sizeWithout 1 = .ok (.istore_n 2, 1) := by decide +kernel
theorem dX2_sizeWithout_2 : decode cX2_sizeWithout 2 = .ok (.iconst 0, 1) := by decide +kernel
theorem dX2_sizeWithout_3 : decode cX2_sizeWithout 3 = .ok (.istore_n 3, 1) := by decide +kernel
theorem dX2_sizeWithout_4 : decode cX2_sizeWithout 4 = .ok (.iload_n 3, 1) := by decide +kernel
theorem dX2_sizeWithout_5 : decode cX2_sizeWithout 5 = .ok (.sipush 229, 3) := by decide +kernel
theorem dX2_sizeWithout_8 : decode cX2_sizeWithout 8 = .ok (.if_icmp .ge 32, 3) := by decide +kernel
theorem dX2_sizeWithout_11 : decode cX2_sizeWithout 11 = .ok (.iload_n 2, 1) := by decide +kernel
theorem dX2_sizeWithout_12 : decode cX2_sizeWithout 12 = .ok (.aload_n 0, 1) := by decide +kernel
theorem dX2_sizeWithout_13 : decode cX2_sizeWithout 13 = .ok (.getfield 11, 3) := by decide +kernel
theorem dX2_sizeWithout_16 : decode cX2_sizeWithout 16 = .ok (.iload_n 3, 1) := by decide +kernel
theorem dX2_sizeWithout_17 : decode cX2_sizeWithout 17 = .ok (.laload, 1) := by decide +kernel
theorem dX2_sizeWithout_18 : decode cX2_sizeWithout 18 = .ok (.aload_n 1, 1) := by decide +kernel
theorem dX2_sizeWithout_19 : decode cX2_sizeWithout 19 = .ok (.getfield 11, 3) := by decide +kernel
theorem dX2_sizeWithout_22 : decode cX2_sizeWithout 22 = .ok (.iload_n 3, 1) := by decide +kernel
theorem dX2_sizeWithout_23 : decode cX2_sizeWithout 23 = .ok (.laload, 1) := by decide +kernel
theorem dX2_sizeWithout_24 : decode cX2_sizeWithout 24 = .ok (.ldc2_w 37, 3) := by decide +kernel
theorem dX2_sizeWithout_27 : decode cX2_sizeWithout 27 = .ok (.lxor, 1) := by decide +kernel
theorem dX2_sizeWithout_28 : decode cX2_sizeWithout 28 = .ok (.land, 1) := by decide +kernel
theorem dX2_sizeWithout_29 : decode cX2_sizeWithout 29 = .ok (.invokestatic 31, 3) := by decide +kernel
theorem dX2_sizeWithout_32 : decode cX2_sizeWithout 32 = .ok (.iadd, 1) := by decide +kernel
theorem dX2_sizeWithout_33 : decode cX2_sizeWithout 33 = .ok (.istore_n 2, 1) := by decide +kernel
theorem dX2_sizeWithout_34 : decode cX2_sizeWithout 34 = .ok (.iinc 3 1, 3) := by decide +kernel
theorem dX2_sizeWithout_37 : decode cX2_sizeWithout 37 = .ok (.goto (-33), 3) := by decide +kernel
theorem dX2_sizeWithout_40 : decode cX2_sizeWithout 40 = .ok (.iload_n 2, 1) := by decide +kernel
theorem dX2_sizeWithout_41 : decode cX2_sizeWithout 41 = .ok (.ireturn, 1) := by decide +kernel
theorem dX2_bitsWithin_0 : decode cX2_bitsWithin 0 = .ok (.iload_n 1, 1) := by decide +kernel
theorem dX2_bitsWithin_1 : decode cX2_bitsWithin 1 = .ok (.iload_n 0, 1) := by decide +kernel
theorem dX2_bitsWithin_2 : decode cX2_bitsWithin 2 = .ok (.bipush 6, 2) := by decide +kernel
theorem dX2_bitsWithin_4 : decode cX2_bitsWithin 4 = .ok (.ishl, 1) := by decide +kernel
theorem dX2_bitsWithin_5 : decode cX2_bitsWithin 5 = .ok (.isub, 1) := by decide +kernel
theorem dX2_bitsWithin_6 : decode cX2_bitsWithin 6 = .ok (.iconst 0, 1) := by decide +kernel
theorem dX2_bitsWithin_7 : decode cX2_bitsWithin 7 = .ok (.invokestatic 21, 3) := by decide +kernel
theorem dX2_bitsWithin_10 : decode cX2_bitsWithin 10 = .ok (.istore_n 3, 1) := by decide +kernel
theorem dX2_bitsWithin_11 : decode cX2_bitsWithin 11 = .ok (.iload_n 2, 1) := by decide +kernel
theorem dX2_bitsWithin_12 : decode cX2_bitsWithin 12 = .ok (.iload_n 0, 1) := by decide +kernel
theorem dX2_bitsWithin_13 : decode cX2_bitsWithin 13 = .ok (.bipush 6, 2) := by decide +kernel
theorem dX2_bitsWithin_15 : decode cX2_bitsWithin 15 = .ok (.ishl, 1) := by decide +kernel
theorem dX2_bitsWithin_16 : decode cX2_bitsWithin 16 = .ok (.isub, 1) := by decide +kernel
theorem dX2_bitsWithin_17 : decode cX2_bitsWithin 17 = .ok (.bipush 63, 2) := by decide +kernel
theorem dX2_bitsWithin_19 : decode cX2_bitsWithin 19 = .ok (.invokestatic 39, 3) := by decide +kernel
theorem dX2_bitsWithin_22 : decode cX2_bitsWithin 22 = .ok (.istore 4, 2) := by decide +kernel
theorem dX2_bitsWithin_24 : decode cX2_bitsWithin 24 = .ok (.iload_n 3, 1) := by decide +kernel
theorem dX2_bitsWithin_25 : decode cX2_bitsWithin 25 = .ok (.iload 4, 2) := by decide +kernel
theorem dX2_bitsWithin_27 : decode cX2_bitsWithin 27 = .ok (.if_icmp .le 7, 3) := by decide +kernel
theorem dX2_bitsWithin_30 : decode cX2_bitsWithin 30 = .ok (.lconst 0, 1) := by decide +kernel
theorem dX2_bitsWithin_31 : decode cX2_bitsWithin 31 = .ok (.goto 18, 3) := by decide +kernel
theorem dX2_bitsWithin_34 : decode cX2_bitsWithin 34 = .ok (.ldc2_w 37, 3) := by decide +kernel
theorem dX2_bitsWithin_37 : decode cX2_bitsWithin 37 = .ok (.iload_n 3, 1) := by decide +kernel
theorem dX2_bitsWithin_38 : decode cX2_bitsWithin 38 = .ok (.lshl, 1) := by decide +kernel
theorem dX2_bitsWithin_39 : decode cX2_bitsWithin 39 = .ok (.ldc2_w 37, 3) := by decide +kernel
theorem dX2_bitsWithin_42 : decode cX2_bitsWithin 42 = .ok (.bipush 63, 2) := by decide +kernel
theorem dX2_bitsWithin_44 : decode cX2_bitsWithin 44 = .ok (.iload 4, 2) := by decide +kernel
theorem dX2_bitsWithin_46 : decode cX2_bitsWithin 46 = .ok (.isub, 1) := by decide +kernel
theorem dX2_bitsWithin_47 : decode cX2_bitsWithin 47 = .ok (.lushr, 1) := by decide +kernel
theorem dX2_bitsWithin_48 : decode cX2_bitsWithin 48 = .ok (.land, 1) := by decide +kernel
theorem dX2_bitsWithin_49 : decode cX2_bitsWithin 49 = .ok (.lreturn, 1) := by decide +kernel
theorem dX3_init_0 : decode cX3_init 0 = .ok (.aload_n 0, 1) := by decide +kernel
theorem dX3_init_1 : decode cX3_init 1 = .ok (.invokespecial 3, 3) := by decide +kernel
theorem dX3_init_4 : decode cX3_init 4 = .ok (.aload_n 0, 1) := by decide +kernel
theorem dX3_init_5 : decode cX3_init 5 = .ok (.iconst (-1), 1) := by decide +kernel
theorem dX3_init_6 : decode cX3_init 6 = .ok (.putfield 9, 3) := by decide +kernel
theorem dX3_init_9 : decode cX3_init 9 = .ok (.return_, 1) := by decide +kernel
theorem dX3_replace_0 : decode cX3_replace 0 = .ok (.aload_n 0, 1) := by decide +kernel
theorem dX3_replace_1 : decode cX3_replace 1 = .ok (.dup, 1) := by decide +kernel
theorem dX3_replace_2 : decode cX3_replace 2 = .ok (.getfield 9, 3) := by decide +kernel
theorem dX3_replace_5 : decode cX3_replace 5 = .ok (.iconst 1, 1) := by decide +kernel
theorem dX3_replace_6 : decode cX3_replace 6 = .ok (.iadd, 1) := by decide +kernel
theorem dX3_replace_7 : decode cX3_replace 7 = .ok (.putfield 9, 3) := by decide +kernel
theorem dX3_replace_10 : decode cX3_replace 10 = .ok (.aload_n 0, 1) := by decide +kernel
theorem dX3_replace_11 : decode cX3_replace 11 = .ok (.iload_n 1, 1) := by decide +kernel
theorem dX3_replace_12 : decode cX3_replace 12 = .ok (.putfield 15, 3) := by decide +kernel
theorem dX3_replace_15 : decode cX3_replace 15 = .ok (.aload_n 0, 1) := by decide +kernel
theorem dX3_replace_16 : decode cX3_replace 16 = .ok (.iload_n 2, 1) := by decide +kernel
theorem dX3_replace_17 : decode cX3_replace 17 = .ok (.putfield 18, 3) := by decide +kernel
theorem dX3_replace_20 : decode cX3_replace 20 = .ok (.aload_n 0, 1) := by decide +kernel
theorem dX3_replace_21 : decode cX3_replace 21 = .ok (.iload_n 3, 1) := by decide +kernel
theorem dX3_replace_22 : decode cX3_replace 22 = .ok (.putfield 21, 3) := by decide +kernel
theorem dX3_replace_25 : decode cX3_replace 25 = .ok (.return_, 1) := by decide +kernel
theorem dX3_lowerLimit_0 : decode cX3_lowerLimit 0 = .ok (.aload_n 0, 1) := by decide +kernel
theorem dX3_lowerLimit_1 : decode cX3_lowerLimit 1 = .ok (.aload_n 0, 1) := by decide +kernel
theorem dX3_lowerLimit_2 : decode cX3_lowerLimit 2 = .ok (.getfield 21, 3) := by decide +kernel
theorem dX3_lowerLimit_5 : decode cX3_lowerLimit 5 = .ok (.iload_n 1, 1) := by decide +kernel
theorem dX3_lowerLimit_6 : decode cX3_lowerLimit 6 = .ok (.invokestatic 24, 3) := by decide +kernel
theorem dX3_lowerLimit_9 : decode cX3_lowerLimit 9 = .ok (.putfield 21, 3) := by decide +kernel
theorem dX3_lowerLimit_12 : decode cX3_lowerLimit 12 = .ok (.return_, 1) := by decide +kernel
theorem dX3_endWith_0 : decode cX3_endWith 0 = .ok (.aload_n 0, 1) := by decide +kernel
theorem dX3_endWith_1 : decode cX3_endWith 1 = .ok (.getfield 18, 3) := by decide +kernel
theorem dX3_endWith_4 : decode cX3_endWith 4 = .ok (.ifCond .ne 10, 3) := by decide +kernel
theorem dX3_endWith_7 : decode cX3_endWith 7 = .ok (.aload_n 0, 1) := by decide +kernel
theorem dX3_endWith_8 : decode cX3_endWith 8 = .ok (.getfield 21, 3) := by decide +kernel
theorem dX3_endWith_11 : decode cX3_endWith 11 = .ok (.goto 21, 3) := by decide +kernel
theorem dX3_endWith_14 : decode cX3_endWith 14 = .ok (.aload_n 0, 1) := by decide +kernel
theorem dX3_endWith_15 : decode cX3_endWith 15 = .ok (.getfield 21, 3) := by decide +kernel
theorem dX3_endWith_18 : decode cX3_endWith 18 = .ok (.aload_n 0, 1) := by decide +kernel
theorem dX3_endWith_19 : decode cX3_endWith 19 = .ok (.getfield 15, 3) := by decide +kernel
theorem dX3_endWith_22 : decode cX3_endWith 22 = .ok (.aload_n 0, 1) := by decide +kernel
theorem dX3_endWith_23 : decode cX3_endWith 23 = .ok (.getfield 18, 3) := by decide +kernel
theorem dX3_endWith_26 : decode cX3_endWith 26 = .ok (.iadd, 1) := by decide +kernel
theorem dX3_endWith_27 : decode cX3_endWith 27 = .ok (.iload_n 1, 1) := by decide +kernel
theorem dX3_endWith_28 : decode cX3_endWith 28 = .ok (.iadd, 1) := by decide +kernel
theorem dX3_endWith_29 : decode cX3_endWith 29 = .ok (.invokestatic 24, 3) := by decide +kernel
theorem dX3_endWith_32 : decode cX3_endWith 32 = .ok (.ireturn, 1) := by decide +kernel
theorem dX4_init_0 : decode cX4_init 0 = .ok (.aload_n 0, 1) := by decide +kernel
theorem dX4_init_1 : decode cX4_init 1 = .ok (.invokespecial 3, 3) := by decide +kernel
theorem dX4_init_4 : decode cX4_init 4 = .ok (.aload_n 0, 1) := by decide +kernel
theorem dX4_init_5 : decode cX4_init 5 = .ok (.bipush 8, 2) := by decide +kernel
theorem dX4_init_7 : decode cX4_init 7 = .ok (.newarray .int, 2) := by decide +kernel
theorem dX4_init_9 : decode cX4_init 9 = .ok (.putfield 9, 3) := by decide +kernel
theorem dX4_init_12 : decode cX4_init 12 = .ok (.aload_n 0, 1) := by decide +kernel
theorem dX4_init_13 : decode cX4_init 13 = .ok (.bipush 8, 2) := by decide +kernel
theorem dX4_init_15 : decode cX4_init 15 = .ok (.newarray .int, 2) := by decide +kernel
theorem dX4_init_17 : decode cX4_init 17 = .ok (.putfield 15, 3) := by decide +kernel
theorem dX4_init_20 : decode cX4_init 20 = .ok (.aload_n 0, 1) := by decide +kernel
theorem dX4_init_21 : decode cX4_init 21 = .ok (.bipush 8, 2) := by decide +kernel
theorem dX4_init_23 : decode cX4_init 23 = .ok (.newarray .int, 2) := by decide +kernel
theorem dX4_init_25 : decode cX4_init 25 = .ok (.putfield 18, 3) := by decide +kernel
theorem dX4_init_28 : decode cX4_init 28 = .ok (.aload_n 0, 1) := by decide +kernel
theorem dX4_init_29 : decode cX4_init 29 = .ok (.bipush 8, 2) := by decide +kernel
theorem dX4_init_31 : decode cX4_init 31 = .ok (.newarray .int, 2) := by decide +kernel
theorem dX4_init_33 : decode cX4_init 33 = .ok (.putfield 21, 3) := by decide +kernel
theorem dX4_init_36 : decode cX4_init 36 = .ok (.aload_n 0, 1) := by decide +kernel
theorem dX4_init_37 : decode cX4_init 37 = .ok (.bipush 8, 2) := by decide +kernel
theorem dX4_init_39 : decode cX4_init 39 = .ok (.newarray .int, 2) := by decide +kernel
theorem dX4_init_41 : decode cX4_init 41 = .ok (.putfield 24, 3) := by decide +kernel
theorem dX4_init_44 : decode cX4_init 44 = .ok (.return_, 1) := by decide +kernel
theorem dX4_add_0 : decode cX4_add 0 = .ok (.aload_n 0, 1) := by decide +kernel
theorem dX4_add_1 : decode cX4_add 1 = .ok (.getfield 9, 3) := by decide +kernel
theorem dX4_add_4 : decode cX4_add 4 = .ok (.aload_n 0, 1) := by decide +kernel
theorem dX4_add_5 : decode cX4_add 5 = .ok (.getfield 27, 3) := by decide +kernel
theorem dX4_add_8 : decode cX4_add 8 = .ok (.iload_n 1, 1) := by decide +kernel
theorem dX4_add_9 : decode cX4_add 9 = .ok (.iastore, 1) := by decide +kernel
theorem dX4_add_10 : decode cX4_add 10 = .ok (.aload_n 0, 1) := by decide +kernel
theorem dX4_add_11 : decode cX4_add 11 = .ok (.getfield 15, 3) := by decide +kernel
theorem dX4_add_14 : decode cX4_add 14 = .ok (.aload_n 0, 1) := by decide +kernel
theorem dX4_add_15 : decode cX4_add 15 = .ok (.getfield 27, 3) := by decide +kernel
theorem dX4_add_18 : decode cX4_add 18 = .ok (.iload_n 2, 1) := by decide +kernel
theorem dX4_add_19 : decode cX4_add 19 = .ok (.iastore, 1) := by decide +kernel
theorem dX4_add_20 : decode cX4_add 20 = .ok (.aload_n 0, 1) := by decide +kernel
theorem dX4_add_21 : decode cX4_add 21 = .ok (.getfield 18, 3) := by decide +kernel
theorem dX4_add_24 : decode cX4_add 24 = .ok (.aload_n 0, 1) := by decide +kernel
theorem dX4_add_25 : decode cX4_add 25 = .ok (.getfield 27, 3) := by decide +kernel
theorem dX4_add_28 : decode cX4_add 28 = .ok (.iload_n 3, 1) := by decide +kernel
theorem dX4_add_29 : decode cX4_add 29 = .ok (.iastore, 1) := by decide +kernel
theorem dX4_add_30 : decode cX4_add 30 = .ok (.aload_n 0, 1) := by decide +kernel
theorem dX4_add_31 : decode cX4_add 31 = .ok (.dup, 1) := by decide +kernel
theorem dX4_add_32 : decode cX4_add 32 = .ok (.getfield 27, 3) := by decide +kernel
theorem dX4_add_35 : decode cX4_add 35 = .ok (.iconst 1, 1) := by decide +kernel
theorem dX4_add_36 : decode cX4_add 36 = .ok (.iadd, 1) := by decide +kernel
theorem dX4_add_37 : decode cX4_add 37 = .ok (.putfield 27, 3) := by decide +kernel
theorem dX4_add_40 : decode cX4_add 40 = .ok (.return_, 1) := by decide +kernel
theorem dX4_belongsTo_0 : decode cX4_belongsTo 0 = .ok (.iload_n 1, 1) := by decide +kernel
theorem dX4_belongsTo_1 : decode cX4_belongsTo 1 = .ok (.iconst 1, 1) := by decide +kernel
theorem dX4_belongsTo_2 : decode cX4_belongsTo 2 = .ok (.aload_n 0, 1) := by decide +kernel
theorem dX4_belongsTo_3 : decode cX4_belongsTo 3 = .ok (.getfield 9, 3) := by decide +kernel
theorem dX4_belongsTo_6 : decode cX4_belongsTo 6 = .ok (.iload_n 2, 1) := by decide +kernel
theorem dX4_belongsTo_7 : decode cX4_belongsTo 7 = .ok (.iaload, 1) := by decide +kernel
theorem dX4_belongsTo_8 : decode cX4_belongsTo 8 = .ok (.ishl, 1) := by decide +kernel
theorem dX4_belongsTo_9 : decode cX4_belongsTo 9 = .ok (.iand, 1) := by decide +kernel
theorem dX4_belongsTo_10 : decode cX4_belongsTo 10 = .ok (.ifCond .eq 7, 3) := by decide +kernel
theorem dX4_belongsTo_13 : decode cX4_belongsTo 13 = .ok (.iconst 1, 1) := by decide +kernel
theorem dX4_belongsTo_14 : decode cX4_belongsTo 14 = .ok (.goto 4, 3) := by decide +kernel
theorem dX4_belongsTo_17 : decode cX4_belongsTo 17 = .ok (.iconst 0, 1) := by decide +kernel
theorem dX4_belongsTo_18 : decode cX4_belongsTo 18 = .ok (.ireturn, 1) := by decide +kernel
theorem dX4_sort_0 : decode cX4_sort 0 = .ok (.iconst 0, 1) := by decide +kernel
theorem dX4_sort_1 : decode cX4_sort 1 = .ok (.istore_n 2, 1) := by decide +kernel
theorem dX4_sort_2 : decode cX4_sort 2 = .ok (.iconst 0, 1) := by decide +kernel
theorem dX4_sort_3 : decode cX4_sort 3 = .ok (.istore_n 3, 1) := by decide +kernel
theorem dX4_sort_4 : decode cX4_sort 4 = .ok (.iload_n 3, 1) := by decide +kernel
theorem dX4_sort_5 : decode cX4_sort 5 = .ok (.aload_n 0, 1) := by decide +kernel
theorem dX4_sort_6 : decode cX4_sort 6 = .ok (.getfield 27, 3) := by decide +kernel
theorem dX4_sort_9 : decode cX4_sort 9 = .ok (.if_icmp .ge 38, 3) := by decide +kernel
theorem dX4_sort_12 : decode cX4_sort 12 = .ok (.aload_n 0, 1) := by decide +kernel
theorem dX4_sort_13 : decode cX4_sort 13 = .ok (.iload_n 1, 1) := by decide +kernel
theorem dX4_sort_14 : decode cX4_sort 14 = .ok (.iload_n 3, 1) := by decide +kernel
theorem dX4_sort_15 : decode cX4_sort 15 = .ok (.invokevirtual 31, 3) := by decide +kernel
theorem dX4_sort_18 : decode cX4_sort 18 = .ok (.ifCond .eq 23, 3) := by decide +kernel
theorem dX4_sort_21 : decode cX4_sort 21 = .ok (.aload_n 0, 1) := by decide +kernel
theorem dX4_sort_22 : decode cX4_sort 22 = .ok (.iload_n 2, 1) := by decide +kernel
theorem dX4_sort_23 : decode cX4_sort 23 = .ok (.aload_n 0, 1) := by decide +kernel
theorem dX4_sort_24 : decode cX4_sort 24 = .ok (.getfield 15, 3) := by decide +kernel
theorem dX4_sort_27 : decode cX4_sort 27 = .ok (.iload_n 3, 1) := by decide +kernel
theorem dX4_sort_28 : decode cX4_sort 28 = .ok (.iaload, 1) := by decide +kernel
theorem dX4_sort_29 : decode cX4_sort 29 = .ok (.aload_n 0, 1) := by decide +kernel
theorem dX4_sort_30 : decode cX4_sort 30 = .ok (.getfield 18, 3) := by decide +kernel
theorem dX4_sort_33 : decode cX4_sort 33 = .ok (.iload_n 3, 1) := by decide +kernel
theorem dX4_sort_34 : decode cX4_sort 34 = .ok (.iaload, 1) := by decide +kernel
theorem dX4_sort_35 : decode cX4_sort 35 = .ok (.invokevirtual 35, 3) := by decide +kernel
theorem dX4_sort_38 : decode cX4_sort 38 = .ok (.iinc 2 1, 3) := by decide +kernel
theorem dX4_sort_41 : decode cX4_sort 41 = .ok (.iinc 3 1, 3) := by decide +kernel
theorem dX4_sort_44 : decode cX4_sort 44 = .ok (.goto (-40), 3) := by decide +kernel
theorem dX4_sort_47 : decode cX4_sort 47 = .ok (.iload_n 2, 1) := by decide +kernel
theorem dX4_sort_48 : decode cX4_sort 48 = .ok (.ireturn, 1) := by decide +kernel
theorem dX4_insert_0 : decode cX4_insert 0 = .ok (.iload_n 1, 1) := by decide +kernel
theorem dX4_insert_1 : decode cX4_insert 1 = .ok (.istore 4, 2) := by decide +kernel
theorem dX4_insert_3 : decode cX4_insert 3 = .ok (.iload 4, 2) := by decide +kernel
theorem dX4_insert_5 : decode cX4_insert 5 = .ok (.ifCond .le 54, 3) := by decide +kernel
theorem dX4_insert_8 : decode cX4_insert 8 = .ok (.aload_n 0, 1) := by decide +kernel
theorem dX4_insert_9 : decode cX4_insert 9 = .ok (.getfield 21, 3) := by decide +kernel
theorem dX4_insert_12 : decode cX4_insert 12 = .ok (.iload 4, 2) := by decide +kernel
theorem dX4_insert_14 : decode cX4_insert 14 = .ok (.iconst 1, 1) := by decide +kernel
theorem dX4_insert_15 : decode cX4_insert 15 = .ok (.isub, 1) := by decide +kernel
theorem dX4_insert_16 : decode cX4_insert 16 = .ok (.iaload, 1) := by decide +kernel
theorem dX4_insert_17 : decode cX4_insert 17 = .ok (.iload_n 2, 1) := by decide +kernel
theorem dX4_insert_18 : decode cX4_insert 18 = .ok (.if_icmp .le 41, 3) := by decide +kernel
theorem dX4_insert_21 : decode cX4_insert 21 = .ok (.aload_n 0, 1) := by decide +kernel
theorem dX4_insert_22 : decode cX4_insert 22 = .ok (.getfield 21, 3) := by decide +kernel
theorem dX4_insert_25 : decode cX4_insert 25 = .ok (.iload 4, 2) := by decide +kernel
theorem dX4_insert_27 : decode cX4_insert 27 = .ok (.aload_n 0, 1) := by decide +kernel
theorem dX4_insert_28 : decode cX4_insert 28 = .ok (.getfield 21, 3) := by decide +kernel
theorem dX4_insert_31 : decode cX4_insert 31 = .ok (.iload 4, 2) := by decide +kernel
theorem dX4_insert_33 : decode cX4_insert 33 = .ok (.iconst 1, 1) := by decide +kernel
theorem dX4_insert_34 : decode cX4_insert 34 = .ok (.isub, 1) := by decide +kernel
theorem dX4_insert_35 : decode cX4_insert 35 = .ok (.iaload, 1) := by decide +kernel
theorem dX4_insert_36 : decode cX4_insert 36 = .ok (.iastore, 1) := by decide +kernel
theorem dX4_insert_37 : decode cX4_insert 37 = .ok (.aload_n 0, 1) := by decide +kernel
theorem dX4_insert_38 : decode cX4_insert 38 = .ok (.getfield 24, 3) := by decide +kernel
theorem dX4_insert_41 : decode cX4_insert 41 = .ok (.iload 4, 2) := by decide +kernel
theorem dX4_insert_43 : decode cX4_insert 43 = .ok (.aload_n 0, 1) := by decide +kernel
theorem dX4_insert_44 : decode cX4_insert 44 = .ok (.getfield 24, 3) := by decide +kernel
theorem dX4_insert_47 : decode cX4_insert 47 = .ok (.iload 4, 2) := by decide +kernel
theorem dX4_insert_49 : decode cX4_insert 49 = .ok (.iconst 1, 1) := by decide +kernel
theorem dX4_insert_50 : decode cX4_insert 50 = .ok (.isub, 1) := by decide +kernel
theorem dX4_insert_51 : decode cX4_insert 51 = .ok (.iaload, 1) := by decide +kernel
theorem dX4_insert_52 : decode cX4_insert 52 = .ok (.iastore, 1) := by decide +kernel
theorem dX4_insert_53 : decode cX4_insert 53 = .ok (.iinc 4 (-1), 3) := by decide +kernel
theorem dX4_insert_56 : decode cX4_insert 56 = .ok (.goto (-53), 3) := by decide +kernel
theorem dX4_insert_59 : decode cX4_insert 59 = .ok (.aload_n 0, 1) := by decide +kernel
theorem dX4_insert_60 : decode cX4_insert 60 = .ok (.getfield 21, 3) := by decide +kernel
theorem dX4_insert_63 : decode cX4_insert 63 = .ok (.iload 4, 2) := by decide +kernel
theorem dX4_insert_65 : decode cX4_insert 65 = .ok (.iload_n 2, 1) := by decide +kernel
theorem dX4_insert_66 : decode cX4_insert 66 = .ok (.iastore, 1) := by decide +kernel
theorem dX4_insert_67 : decode cX4_insert 67 = .ok (.aload_n 0, 1) := by decide +kernel
theorem dX4_insert_68 : decode cX4_insert 68 = .ok (.getfield 24, 3) := by decide +kernel
theorem dX4_insert_71 : decode cX4_insert 71 = .ok (.iload 4, 2) := by decide +kernel
theorem dX4_insert_73 : decode cX4_insert 73 = .ok (.iload_n 3, 1) := by decide +kernel
theorem dX4_insert_74 : decode cX4_insert 74 = .ok (.iastore, 1) := by decide +kernel
theorem dX4_insert_75 : decode cX4_insert 75 = .ok (.return_, 1) := by decide +kernel
theorem dX5_init_0 : decode cX5_init 0 = .ok (.aload_n 0, 1) := by decide +kernel
theorem dX5_init_1 : decode cX5_init 1 = .ok (.invokespecial 3, 3) := by decide +kernel
theorem dX5_init_4 : decode cX5_init 4 = .ok (.aload_n 0, 1) := by decide +kernel
theorem dX5_init_5 : decode cX5_init 5 = .ok (.bipush 10, 2) := by decide +kernel
theorem dX5_init_7 : decode cX5_init 7 = .ok (.newarray .int, 2) := by decide +kernel
theorem dX5_init_9 : decode cX5_init 9 = .ok (.putfield 9, 3) := by decide +kernel
theorem dX5_init_12 : decode cX5_init 12 = .ok (.aload_n 0, 1) := by decide +kernel
theorem dX5_init_13 : decode cX5_init 13 = .ok (.bipush 10, 2) := by decide +kernel
theorem dX5_init_15 : decode cX5_init 15 = .ok (.newarray .int, 2) := by decide +kernel
theorem dX5_init_17 : decode cX5_init 17 = .ok (.putfield 15, 3) := by decide +kernel
theorem dX5_init_20 : decode cX5_init 20 = .ok (.aload_n 0, 1) := by decide +kernel
theorem dX5_init_21 : decode cX5_init 21 = .ok (.bipush 10, 2) := by decide +kernel
theorem dX5_init_23 : decode cX5_init 23 = .ok (.newarray .int, 2) := by decide +kernel
theorem dX5_init_25 : decode cX5_init 25 = .ok (.putfield 18, 3) := by decide +kernel
theorem dX5_init_28 : decode cX5_init 28 = .ok (.aload_n 0, 1) := by decide +kernel
theorem dX5_init_29 : decode cX5_init 29 = .ok (.bipush 10, 2) := by decide +kernel
theorem dX5_init_31 : decode cX5_init 31 = .ok (.newarray .int, 2) := by decide +kernel
theorem dX5_init_33 : decode cX5_init 33 = .ok (.putfield 21, 3) := by decide +kernel
theorem dX5_init_36 : decode cX5_init 36 = .ok (.aload_n 0, 1) := by decide +kernel
theorem dX5_init_37 : decode cX5_init 37 = .ok (.bipush 10, 2) := by decide +kernel
theorem dX5_init_39 : decode cX5_init 39 = .ok (.newarray .int, 2) := by decide +kernel
theorem dX5_init_41 : decode cX5_init 41 = .ok (.putfield 24, 3) := by decide +kernel
theorem dX5_init_44 : decode cX5_init 44 = .ok (.aload_n 0, 1) := by decide +kernel
theorem dX5_init_45 : decode cX5_init 45 = .ok (.bipush 10, 2) := by decide +kernel
theorem dX5_init_47 : decode cX5_init 47 = .ok (.newarray .int, 2) := by decide +kernel
theorem dX5_init_49 : decode cX5_init 49 = .ok (.putfield 27, 3) := by decide +kernel
theorem dX5_init_52 : decode cX5_init 52 = .ok (.aload_n 0, 1) := by decide +kernel
theorem dX5_init_53 : decode cX5_init 53 = .ok (.bipush 10, 2) := by decide +kernel
theorem dX5_init_55 : decode cX5_init 55 = .ok (.newarray .boolean, 2) := by decide +kernel
theorem dX5_init_57 : decode cX5_init 57 = .ok (.putfield 30, 3) := by decide +kernel
theorem dX5_init_60 : decode cX5_init 60 = .ok (.aload_n 0, 1) := by decide +kernel
theorem dX5_init_61 : decode cX5_init 61 = .ok (.bipush 10, 2) := by decide +kernel
theorem dX5_init_63 : decode cX5_init 63 = .ok (.newarray .int, 2) := by decide +kernel
theorem dX5_init_65 : decode cX5_init 65 = .ok (.putfield 34, 3) := by decide +kernel
theorem dX5_init_68 : decode cX5_init 68 = .ok (.aload_n 0, 1) := by decide +kernel
theorem dX5_init_69 : decode cX5_init 69 = .ok (.bipush 10, 2) := by decide +kernel
theorem dX5_init_71 : decode cX5_init 71 = .ok (.newarray .int, 2) := by decide +kernel
theorem dX5_init_73 : decode cX5_init 73 = .ok (.putfield 37, 3) := by decide +kernel
theorem dX5_init_76 : decode cX5_init 76 = .ok (.aload_n 0, 1) := by decide +kernel
theorem dX5_init_77 : decode cX5_init 77 = .ok (.bipush 10, 2) := by decide +kernel
theorem dX5_init_79 : decode cX5_init 79 = .ok (.newarray .int, 2) := by decide +kernel
theorem dX5_init_81 : decode cX5_init 81 = .ok (.putfield 40, 3) := by decide +kernel
theorem dX5_init_84 : decode cX5_init 84 = .ok (.aload_n 0, 1) := by decide +kernel
theorem dX5_init_85 : decode cX5_init 85 = .ok (.bipush 10, 2) := by decide +kernel
theorem dX5_init_87 : decode cX5_init 87 = .ok (.newarray .int, 2) := by decide +kernel
theorem dX5_init_89 : decode cX5_init 89 = .ok (.putfield 43, 3) := by decide +kernel
theorem dX5_init_92 : decode cX5_init 92 = .ok (.aload_n 0, 1) := by decide +kernel
theorem dX5_init_93 : decode cX5_init 93 = .ok (.bipush 10, 2) := by decide +kernel
theorem dX5_init_95 : decode cX5_init 95 = .ok (.newarray .int, 2) := by decide +kernel
theorem dX5_init_97 : decode cX5_init 97 = .ok (.putfield 46, 3) := by decide +kernel
theorem dX5_init_100 : decode cX5_init 100 = .ok (.aload_n 0, 1) := by decide +kernel
theorem dX5_init_101 : decode cX5_init 101 = .ok (.bipush 10, 2) := by decide +kernel
theorem dX5_init_103 : decode cX5_init 103 = .ok (.newarray .int, 2) := by decide +kernel
theorem dX5_init_105 : decode cX5_init 105 = .ok (.putfield 49, 3) := by decide +kernel
theorem dX5_init_108 : decode cX5_init 108 = .ok (.aload_n 0, 1) := by decide +kernel
theorem dX5_init_109 : decode cX5_init 109 = .ok (.bipush 10, 2) := by decide +kernel
theorem dX5_init_111 : decode cX5_init 111 = .ok (.newarray .int, 2) := by decide +kernel
theorem dX5_init_113 : decode cX5_init 113 = .ok (.putfield 52, 3) := by decide +kernel
theorem dX5_init_116 : decode cX5_init 116 = .ok (.aload_n 0, 1) := by decide +kernel
theorem dX5_init_117 : decode cX5_init 117 = .ok (.bipush 10, 2) := by decide +kernel
theorem dX5_init_119 : decode cX5_init 119 = .ok (.newarray .int, 2) := by decide +kernel
theorem dX5_init_121 : decode cX5_init 121 = .ok (.putfield 55, 3) := by decide +kernel
theorem dX5_init_124 : decode cX5_init 124 = .ok (.return_, 1) := by decide +kernel
theorem dX5_add_0 : decode cX5_add 0 = .ok (.aload_n 0, 1) := by decide +kernel
theorem dX5_add_1 : decode cX5_add 1 = .ok (.getfield 9, 3) := by decide +kernel
theorem dX5_add_4 : decode cX5_add 4 = .ok (.aload_n 0, 1) := by decide +kernel
theorem dX5_add_5 : decode cX5_add 5 = .ok (.getfield 58, 3) := by decide +kernel
theorem dX5_add_8 : decode cX5_add 8 = .ok (.iload_n 2, 1) := by decide +kernel
theorem dX5_add_9 : decode cX5_add 9 = .ok (.iastore, 1) := by decide +kernel
theorem dX5_add_10 : decode cX5_add 10 = .ok (.aload_n 0, 1) := by decide +kernel
theorem dX5_add_11 : decode cX5_add 11 = .ok (.getfield 15, 3) := by decide +kernel
theorem dX5_add_14 : decode cX5_add 14 = .ok (.aload_n 0, 1) := by decide +kernel
theorem dX5_add_15 : decode cX5_add 15 = .ok (.getfield 58, 3) := by decide +kernel
theorem dX5_add_18 : decode cX5_add 18 = .ok (.iload_n 3, 1) := by decide +kernel
theorem dX5_add_19 : decode cX5_add 19 = .ok (.iastore, 1) := by decide +kernel
theorem dX5_add_20 : decode cX5_add 20 = .ok (.aload_n 0, 1) := by decide +kernel
theorem dX5_add_21 : decode cX5_add 21 = .ok (.getfield 18, 3) := by decide +kernel
theorem dX5_add_24 : decode cX5_add 24 = .ok (.aload_n 0, 1) := by decide +kernel
theorem dX5_add_25 : decode cX5_add 25 = .ok (.getfield 58, 3) := by decide +kernel
theorem dX5_add_28 : decode cX5_add 28 = .ok (.iload 4, 2) := by decide +kernel
theorem dX5_add_30 : decode cX5_add 30 = .ok (.iastore, 1) := by decide +kernel
theorem dX5_add_31 : decode cX5_add 31 = .ok (.aload_n 0, 1) := by decide +kernel
theorem dX5_add_32 : decode cX5_add 32 = .ok (.getfield 21, 3) := by decide +kernel
theorem dX5_add_35 : decode cX5_add 35 = .ok (.aload_n 0, 1) := by decide +kernel
theorem dX5_add_36 : decode cX5_add 36 = .ok (.getfield 58, 3) := by decide +kernel
theorem dX5_add_39 : decode cX5_add 39 = .ok (.iload 5, 2) := by decide +kernel
theorem dX5_add_41 : decode cX5_add 41 = .ok (.iastore, 1) := by decide +kernel
theorem dX5_add_42 : decode cX5_add 42 = .ok (.aload_n 0, 1) := by decide +kernel
theorem dX5_add_43 : decode cX5_add 43 = .ok (.getfield 24, 3) := by decide +kernel
theorem dX5_add_46 : decode cX5_add 46 = .ok (.aload_n 0, 1) := by decide +kernel
theorem dX5_add_47 : decode cX5_add 47 = .ok (.getfield 58, 3) := by decide +kernel
theorem dX5_add_50 : decode cX5_add 50 = .ok (.iload_n 1, 1) := by decide +kernel
theorem dX5_add_51 : decode cX5_add 51 = .ok (.iastore, 1) := by decide +kernel
theorem dX5_add_52 : decode cX5_add 52 = .ok (.aload_n 0, 1) := by decide +kernel
theorem dX5_add_53 : decode cX5_add 53 = .ok (.getfield 27, 3) := by decide +kernel
theorem dX5_add_56 : decode cX5_add 56 = .ok (.aload_n 0, 1) := by decide +kernel
theorem dX5_add_57 : decode cX5_add 57 = .ok (.getfield 58, 3) := by decide +kernel
theorem dX5_add_60 : decode cX5_add 60 = .ok (.iload 5, 2) := by decide +kernel
theorem dX5_add_62 : decode cX5_add 62 = .ok (.iastore, 1) := by decide +kernel
theorem dX5_add_63 : decode cX5_add 63 = .ok (.aload_n 0, 1) := by decide +kernel
theorem dX5_add_64 : decode cX5_add 64 = .ok (.dup, 1) := by decide +kernel
theorem dX5_add_65 : decode cX5_add 65 = .ok (.getfield 58, 3) := by decide +kernel
theorem dX5_add_68 : decode cX5_add 68 = .ok (.iconst 1, 1) := by decide +kernel
theorem dX5_add_69 : decode cX5_add 69 = .ok (.iadd, 1) := by decide +kernel
theorem dX5_add_70 : decode cX5_add 70 = .ok (.putfield 58, 3) := by decide +kernel
theorem dX5_add_73 : decode cX5_add 73 = .ok (.aload_n 0, 1) := by decide +kernel
theorem dX5_add_74 : decode cX5_add 74 = .ok (.getfield 58, 3) := by decide +kernel
theorem dX5_add_77 : decode cX5_add 77 = .ok (.iconst 1, 1) := by decide +kernel
theorem dX5_add_78 : decode cX5_add 78 = .ok (.isub, 1) := by decide +kernel
theorem dX5_add_79 : decode cX5_add 79 = .ok (.ireturn, 1) := by decide +kernel
theorem dX5_standing_0 : decode cX5_standing 0 = .ok (.iconst 0, 1) := by decide +kernel
theorem dX5_standing_1 : decode cX5_standing 1 = .ok (.istore_n 1, 1) := by decide +kernel
theorem dX5_standing_2 : decode cX5_standing 2 = .ok (.iconst 0, 1) := by decide +kernel
theorem dX5_standing_3 : decode cX5_standing 3 = .ok (.istore_n 2, 1) := by decide +kernel
theorem dX5_standing_4 : decode cX5_standing 4 = .ok (.iload_n 2, 1) := by decide +kernel
theorem dX5_standing_5 : decode cX5_standing 5 = .ok (.aload_n 0, 1) := by decide +kernel
theorem dX5_standing_6 : decode cX5_standing 6 = .ok (.getfield 58, 3) := by decide +kernel
theorem dX5_standing_9 : decode cX5_standing 9 = .ok (.if_icmp .ge 21, 3) := by decide +kernel
theorem dX5_standing_12 : decode cX5_standing 12 = .ok (.aload_n 0, 1) := by decide +kernel
theorem dX5_standing_13 : decode cX5_standing 13 = .ok (.getfield 30, 3) := by decide +kernel
theorem dX5_standing_16 : decode cX5_standing 16 = .ok (.iload_n 2, 1) := by decide +kernel
theorem dX5_standing_17 : decode cX5_standing 17 = .ok (.baload, 1) := by decide +kernel
theorem dX5_standing_18 : decode cX5_standing 18 = .ok (.ifCond .ne 6, 3) := by decide +kernel
theorem dX5_standing_21 : decode cX5_standing 21 = .ok (.iinc 1 1, 3) := by decide +kernel
theorem dX5_standing_24 : decode cX5_standing 24 = .ok (.iinc 2 1, 3) := by decide +kernel
theorem dX5_standing_27 : decode cX5_standing 27 = .ok (.goto (-23), 3) := by decide +kernel
theorem dX5_standing_30 : decode cX5_standing 30 = .ok (.iload_n 1, 1) := by decide +kernel
theorem dX5_standing_31 : decode cX5_standing 31 = .ok (.ireturn, 1) := by decide +kernel
theorem dX5_remove_0 : decode cX5_remove 0 = .ok (.iconst 0, 1) := by decide +kernel
theorem dX5_remove_1 : decode cX5_remove 1 = .ok (.istore_n 2, 1) := by decide +kernel
theorem dX5_remove_2 : decode cX5_remove 2 = .ok (.iconst 0, 1) := by decide +kernel
theorem dX5_remove_3 : decode cX5_remove 3 = .ok (.istore_n 3, 1) := by decide +kernel
theorem dX5_remove_4 : decode cX5_remove 4 = .ok (.iload_n 3, 1) := by decide +kernel
theorem dX5_remove_5 : decode cX5_remove 5 = .ok (.aload_n 0, 1) := by decide +kernel
theorem dX5_remove_6 : decode cX5_remove 6 = .ok (.getfield 58, 3) := by decide +kernel
theorem dX5_remove_9 : decode cX5_remove 9 = .ok (.if_icmp .ge 55, 3) := by decide +kernel
theorem dX5_remove_12 : decode cX5_remove 12 = .ok (.aload_n 0, 1) := by decide +kernel
theorem dX5_remove_13 : decode cX5_remove 13 = .ok (.getfield 30, 3) := by decide +kernel
theorem dX5_remove_16 : decode cX5_remove 16 = .ok (.iload_n 3, 1) := by decide +kernel
theorem dX5_remove_17 : decode cX5_remove 17 = .ok (.baload, 1) := by decide +kernel
theorem dX5_remove_18 : decode cX5_remove 18 = .ok (.ifCond .ne 40, 3) := by decide +kernel
theorem dX5_remove_21 : decode cX5_remove 21 = .ok (.aload_n 0, 1) := by decide +kernel
theorem dX5_remove_22 : decode cX5_remove 22 = .ok (.getfield 24, 3) := by decide +kernel
theorem dX5_remove_25 : decode cX5_remove 25 = .ok (.iload_n 3, 1) := by decide +kernel
theorem dX5_remove_26 : decode cX5_remove 26 = .ok (.iaload, 1) := by decide +kernel
theorem dX5_remove_27 : decode cX5_remove 27 = .ok (.iload_n 1, 1) := by decide +kernel
theorem dX5_remove_28 : decode cX5_remove 28 = .ok (.if_icmp .ne 30, 3) := by decide +kernel
theorem dX5_remove_31 : decode cX5_remove 31 = .ok (.aload_n 0, 1) := by decide +kernel
theorem dX5_remove_32 : decode cX5_remove 32 = .ok (.getfield 24, 3) := by decide +kernel
theorem dX5_remove_35 : decode cX5_remove 35 = .ok (.iload_n 3, 1) := by decide +kernel
theorem dX5_remove_36 : decode cX5_remove 36 = .ok (.aload_n 0, 1) := by decide +kernel
theorem dX5_remove_37 : decode cX5_remove 37 = .ok (.getfield 24, 3) := by decide +kernel
theorem dX5_remove_40 : decode cX5_remove 40 = .ok (.iload_n 1, 1) := by decide +kernel
theorem dX5_remove_41 : decode cX5_remove 41 = .ok (.iaload, 1) := by decide +kernel
theorem dX5_remove_42 : decode cX5_remove 42 = .ok (.iastore, 1) := by decide +kernel
theorem dX5_remove_43 : decode cX5_remove 43 = .ok (.aload_n 0, 1) := by decide +kernel
theorem dX5_remove_44 : decode cX5_remove 44 = .ok (.getfield 27, 3) := by decide +kernel
theorem dX5_remove_47 : decode cX5_remove 47 = .ok (.iload_n 3, 1) := by decide +kernel
theorem dX5_remove_48 : decode cX5_remove 48 = .ok (.aload_n 0, 1) := by decide +kernel
theorem dX5_remove_49 : decode cX5_remove 49 = .ok (.getfield 27, 3) := by decide +kernel
theorem dX5_remove_52 : decode cX5_remove 52 = .ok (.iload_n 1, 1) := by decide +kernel
theorem dX5_remove_53 : decode cX5_remove 53 = .ok (.iaload, 1) := by decide +kernel
theorem dX5_remove_54 : decode cX5_remove 54 = .ok (.iastore, 1) := by decide +kernel
theorem dX5_remove_55 : decode cX5_remove 55 = .ok (.iinc 2 1, 3) := by decide +kernel
theorem dX5_remove_58 : decode cX5_remove 58 = .ok (.iinc 3 1, 3) := by decide +kernel
theorem dX5_remove_61 : decode cX5_remove 61 = .ok (.goto (-57), 3) := by decide +kernel
theorem dX5_remove_64 : decode cX5_remove 64 = .ok (.aload_n 0, 1) := by decide +kernel
theorem dX5_remove_65 : decode cX5_remove 65 = .ok (.getfield 30, 3) := by decide +kernel
theorem dX5_remove_68 : decode cX5_remove 68 = .ok (.iload_n 1, 1) := by decide +kernel
theorem dX5_remove_69 : decode cX5_remove 69 = .ok (.iconst 1, 1) := by decide +kernel
theorem dX5_remove_70 : decode cX5_remove 70 = .ok (.bastore, 1) := by decide +kernel
theorem dX5_remove_71 : decode cX5_remove 71 = .ok (.iload_n 2, 1) := by decide +kernel
theorem dX5_remove_72 : decode cX5_remove 72 = .ok (.ireturn, 1) := by decide +kernel
theorem dX5_remember_0 : decode cX5_remember 0 = .ok (.aload_n 0, 1) := by decide +kernel
theorem dX5_remember_1 : decode cX5_remember 1 = .ok (.getfield 24, 3) := by decide +kernel
theorem dX5_remember_4 : decode cX5_remember 4 = .ok (.iconst 0, 1) := by decide +kernel
theorem dX5_remember_5 : decode cX5_remember 5 = .ok (.aload_n 0, 1) := by decide +kernel
theorem dX5_remember_6 : decode cX5_remember 6 = .ok (.getfield 55, 3) := by decide +kernel
theorem dX5_remember_9 : decode cX5_remember 9 = .ok (.iconst 0, 1) := by decide +kernel
theorem dX5_remember_10 : decode cX5_remember 10 = .ok (.bipush 10, 2) := by decide +kernel
theorem dX5_remember_12 : decode cX5_remember 12 = .ok (.invokestatic 62, 3) := by decide +kernel
theorem dX5_remember_15 : decode cX5_remember 15 = .ok (.return_, 1) := by decide +kernel
theorem dX5_bringBack_0 : decode cX5_bringBack 0 = .ok (.aload_n 0, 1) := by decide +kernel
theorem dX5_bringBack_1 : decode cX5_bringBack 1 = .ok (.getfield 55, 3) := by decide +kernel
theorem dX5_bringBack_4 : decode cX5_bringBack 4 = .ok (.iconst 0, 1) := by decide +kernel
theorem dX5_bringBack_5 : decode cX5_bringBack 5 = .ok (.aload_n 0, 1) := by decide +kernel
theorem dX5_bringBack_6 : decode cX5_bringBack 6 = .ok (.getfield 24, 3) := by decide +kernel
theorem dX5_bringBack_9 : decode cX5_bringBack 9 = .ok (.iconst 0, 1) := by decide +kernel
theorem dX5_bringBack_10 : decode cX5_bringBack 10 = .ok (.bipush 10, 2) := by decide +kernel
theorem dX5_bringBack_12 : decode cX5_bringBack 12 = .ok (.invokestatic 62, 3) := by decide +kernel
theorem dX5_bringBack_15 : decode cX5_bringBack 15 = .ok (.aload_n 0, 1) := by decide +kernel
theorem dX5_bringBack_16 : decode cX5_bringBack 16 = .ok (.getfield 30, 3) := by decide +kernel
theorem dX5_bringBack_19 : decode cX5_bringBack 19 = .ok (.iload_n 1, 1) := by decide +kernel
theorem dX5_bringBack_20 : decode cX5_bringBack 20 = .ok (.iconst 0, 1) := by decide +kernel
theorem dX5_bringBack_21 : decode cX5_bringBack 21 = .ok (.bastore, 1) := by decide +kernel
theorem dX5_bringBack_22 : decode cX5_bringBack 22 = .ok (.return_, 1) := by decide +kernel
theorem dX5_settleChain_0 : decode cX5_settleChain 0 = .ok (.aload_n 0, 1) := by decide +kernel
theorem dX5_settleChain_1 : decode cX5_settleChain 1 = .ok (.getfield 24, 3) := by decide +kernel
theorem dX5_settleChain_4 : decode cX5_settleChain 4 = .ok (.iload_n 1, 1) := by decide +kernel
theorem dX5_settleChain_5 : decode cX5_settleChain 5 = .ok (.iaload, 1) := by decide +kernel
theorem dX5_settleChain_6 : decode cX5_settleChain 6 = .ok (.istore_n 2, 1) := by decide +kernel
theorem dX5_settleChain_7 : decode cX5_settleChain 7 = .ok (.iload_n 2, 1) := by decide +kernel
theorem dX5_settleChain_8 : decode cX5_settleChain 8 = .ok (.ifCond .lt 12, 3) := by decide +kernel
theorem dX5_settleChain_11 : decode cX5_settleChain 11 = .ok (.iload_n 2, 1) := by decide +kernel
theorem dX5_settleChain_12 : decode cX5_settleChain 12 = .ok (.iload_n 1, 1) := by decide +kernel
theorem dX5_settleChain_13 : decode cX5_settleChain 13 = .ok (.if_icmp .ge 7, 3) := by decide +kernel
theorem dX5_settleChain_16 : decode cX5_settleChain 16 = .ok (.iconst 1, 1) := by decide +kernel
theorem dX5_settleChain_17 : decode cX5_settleChain 17 = .ok (.goto 4, 3) := by decide +kernel
theorem dX5_settleChain_20 : decode cX5_settleChain 20 = .ok (.iconst 0, 1) := by decide +kernel
theorem dX5_settleChain_21 : decode cX5_settleChain 21 = .ok (.istore_n 3, 1) := by decide +kernel
theorem dX5_settleChain_22 : decode cX5_settleChain 22 = .ok (.aload_n 0, 1) := by decide +kernel
theorem dX5_settleChain_23 : decode cX5_settleChain 23 = .ok (.getfield 37, 3) := by decide +kernel
theorem dX5_settleChain_26 : decode cX5_settleChain 26 = .ok (.iload_n 1, 1) := by decide +kernel
theorem dX5_settleChain_27 : decode cX5_settleChain 27 = .ok (.iload_n 3, 1) := by decide +kernel
theorem dX5_settleChain_28 : decode cX5_settleChain 28 = .ok (.ifCond .eq 19, 3) := by decide +kernel
theorem dX5_settleChain_31 : decode cX5_settleChain 31 = .ok (.aload_n 0, 1) := by decide +kernel
theorem dX5_settleChain_32 : decode cX5_settleChain 32 = .ok (.getfield 37, 3) := by decide +kernel
theorem dX5_settleChain_35 : decode cX5_settleChain 35 = .ok (.iload_n 2, 1) := by decide +kernel
theorem dX5_settleChain_36 : decode cX5_settleChain 36 = .ok (.iaload, 1) := by decide +kernel
theorem dX5_settleChain_37 : decode cX5_settleChain 37 = .ok (.aload_n 0, 1) := by decide +kernel
theorem dX5_settleChain_38 : decode cX5_settleChain 38 = .ok (.getfield 40, 3) := by decide +kernel
theorem dX5_settleChain_41 : decode cX5_settleChain 41 = .ok (.iload_n 2, 1) := by decide +kernel
theorem dX5_settleChain_42 : decode cX5_settleChain 42 = .ok (.iaload, 1) := by decide +kernel
theorem dX5_settleChain_43 : decode cX5_settleChain 43 = .ok (.iadd, 1) := by decide +kernel
theorem dX5_settleChain_44 : decode cX5_settleChain 44 = .ok (.goto 9, 3) := by decide +kernel
theorem dX5_settleChain_47 : decode cX5_settleChain 47 = .ok (.aload_n 0, 1) := by decide +kernel
theorem dX5_settleChain_48 : decode cX5_settleChain 48 = .ok (.getfield 27, 3) := by decide +kernel
theorem dX5_settleChain_51 : decode cX5_settleChain 51 = .ok (.iload_n 1, 1) := by decide +kernel
theorem dX5_settleChain_52 : decode cX5_settleChain 52 = .ok (.iaload, 1) := by decide +kernel
theorem dX5_settleChain_53 : decode cX5_settleChain 53 = .ok (.iastore, 1) := by decide +kernel
theorem dX5_settleChain_54 : decode cX5_settleChain 54 = .ok (.aload_n 0, 1) := by decide +kernel
theorem dX5_settleChain_55 : decode cX5_settleChain 55 = .ok (.getfield 40, 3) := by decide +kernel
theorem dX5_settleChain_58 : decode cX5_settleChain 58 = .ok (.iload_n 1, 1) := by decide +kernel
theorem dX5_settleChain_59 : decode cX5_settleChain 59 = .ok (.aload_n 0, 1) := by decide +kernel
theorem dX5_settleChain_60 : decode cX5_settleChain 60 = .ok (.getfield 37, 3) := by decide +kernel
theorem dX5_settleChain_63 : decode cX5_settleChain 63 = .ok (.iload_n 1, 1) := by decide +kernel
theorem dX5_settleChain_64 : decode cX5_settleChain 64 = .ok (.iaload, 1) := by decide +kernel
theorem dX5_settleChain_65 : decode cX5_settleChain 65 = .ok (.aload_n 0, 1) := by decide +kernel
theorem dX5_settleChain_66 : decode cX5_settleChain 66 = .ok (.getfield 15, 3) := by decide +kernel
theorem dX5_settleChain_69 : decode cX5_settleChain 69 = .ok (.iload_n 1, 1) := by decide +kernel
theorem dX5_settleChain_70 : decode cX5_settleChain 70 = .ok (.iaload, 1) := by decide +kernel
theorem dX5_settleChain_71 : decode cX5_settleChain 71 = .ok (.invokestatic 68, 3) := by decide +kernel
theorem dX5_settleChain_74 : decode cX5_settleChain 74 = .ok (.aload_n 0, 1) := by decide +kernel
theorem dX5_settleChain_75 : decode cX5_settleChain 75 = .ok (.getfield 37, 3) := by decide +kernel
theorem dX5_settleChain_78 : decode cX5_settleChain 78 = .ok (.iload_n 1, 1) := by decide +kernel
theorem dX5_settleChain_79 : decode cX5_settleChain 79 = .ok (.iaload, 1) := by decide +kernel
theorem dX5_settleChain_80 : decode cX5_settleChain 80 = .ok (.isub, 1) := by decide +kernel
theorem dX5_settleChain_81 : decode cX5_settleChain 81 = .ok (.aload_n 0, 1) := by decide +kernel
theorem dX5_settleChain_82 : decode cX5_settleChain 82 = .ok (.getfield 18, 3) := by decide +kernel
theorem dX5_settleChain_85 : decode cX5_settleChain 85 = .ok (.iload_n 1, 1) := by decide +kernel
theorem dX5_settleChain_86 : decode cX5_settleChain 86 = .ok (.iaload, 1) := by decide +kernel
theorem dX5_settleChain_87 : decode cX5_settleChain 87 = .ok (.iadd, 1) := by decide +kernel
theorem dX5_settleChain_88 : decode cX5_settleChain 88 = .ok (.iastore, 1) := by decide +kernel
theorem dX5_settleChain_89 : decode cX5_settleChain 89 = .ok (.aload_n 0, 1) := by decide +kernel
theorem dX5_settleChain_90 : decode cX5_settleChain 90 = .ok (.getfield 9, 3) := by decide +kernel
theorem dX5_settleChain_93 : decode cX5_settleChain 93 = .ok (.iload_n 1, 1) := by decide +kernel
theorem dX5_settleChain_94 : decode cX5_settleChain 94 = .ok (.iaload, 1) := by decide +kernel
theorem dX5_settleChain_95 : decode cX5_settleChain 95 = .ok (.aload_n 0, 1) := by decide +kernel
theorem dX5_settleChain_96 : decode cX5_settleChain 96 = .ok (.getfield 40, 3) := by decide +kernel
theorem dX5_settleChain_99 : decode cX5_settleChain 99 = .ok (.iload_n 1, 1) := by decide +kernel
theorem dX5_settleChain_100 : decode cX5_settleChain 100 = .ok (.iaload, 1) := by decide +kernel
theorem dX5_settleChain_101 : decode cX5_settleChain 101 = .ok (.invokestatic 74, 3) := by decide +kernel
theorem dX5_settleChain_104 : decode cX5_settleChain 104 = .ok (.istore 4, 2) := by decide +kernel
theorem dX5_settleChain_106 : decode cX5_settleChain 106 = .ok (.aload_n 0, 1) := by decide +kernel
theorem dX5_settleChain_107 : decode cX5_settleChain 107 = .ok (.getfield 34, 3) := by decide +kernel
theorem dX5_settleChain_110 : decode cX5_settleChain 110 = .ok (.iload_n 1, 1) := by decide +kernel
theorem dX5_settleChain_111 : decode cX5_settleChain 111 = .ok (.iconst 1, 1) := by decide +kernel
theorem dX5_settleChain_112 : decode cX5_settleChain 112 = .ok (.iload_n 1, 1) := by decide +kernel
theorem dX5_settleChain_113 : decode cX5_settleChain 113 = .ok (.ishl, 1) := by decide +kernel
theorem dX5_settleChain_114 : decode cX5_settleChain 114 = .ok (.iload_n 3, 1) := by decide +kernel
theorem dX5_settleChain_115 : decode cX5_settleChain 115 = .ok (.ifCond .eq 12, 3) := by decide +kernel
theorem dX5_settleChain_118 : decode cX5_settleChain 118 = .ok (.aload_n 0, 1) := by decide +kernel
theorem dX5_settleChain_119 : decode cX5_settleChain 119 = .ok (.getfield 34, 3) := by decide +kernel
theorem dX5_settleChain_122 : decode cX5_settleChain 122 = .ok (.iload_n 2, 1) := by decide +kernel
theorem dX5_settleChain_123 : decode cX5_settleChain 123 = .ok (.iaload, 1) := by decide +kernel
theorem dX5_settleChain_124 : decode cX5_settleChain 124 = .ok (.goto 4, 3) := by decide +kernel
theorem dX5_settleChain_127 : decode cX5_settleChain 127 = .ok (.iconst 0, 1) := by decide +kernel
theorem dX5_settleChain_128 : decode cX5_settleChain 128 = .ok (.ior, 1) := by decide +kernel
theorem dX5_settleChain_129 : decode cX5_settleChain 129 = .ok (.iastore, 1) := by decide +kernel
theorem dX5_settleChain_130 : decode cX5_settleChain 130 = .ok (.aload_n 0, 1) := by decide +kernel
theorem dX5_settleChain_131 : decode cX5_settleChain 131 = .ok (.getfield 43, 3) := by decide +kernel
theorem dX5_settleChain_134 : decode cX5_settleChain 134 = .ok (.iload_n 1, 1) := by decide +kernel
theorem dX5_settleChain_135 : decode cX5_settleChain 135 = .ok (.iload_n 3, 1) := by decide +kernel
theorem dX5_settleChain_136 : decode cX5_settleChain 136 = .ok (.ifCond .eq 12, 3) := by decide +kernel
theorem dX5_settleChain_139 : decode cX5_settleChain 139 = .ok (.aload_n 0, 1) := by decide +kernel
theorem dX5_settleChain_140 : decode cX5_settleChain 140 = .ok (.getfield 43, 3) := by decide +kernel
theorem dX5_settleChain_143 : decode cX5_settleChain 143 = .ok (.iload_n 2, 1) := by decide +kernel
theorem dX5_settleChain_144 : decode cX5_settleChain 144 = .ok (.iaload, 1) := by decide +kernel
theorem dX5_settleChain_145 : decode cX5_settleChain 145 = .ok (.goto 9, 3) := by decide +kernel
theorem dX5_settleChain_148 : decode cX5_settleChain 148 = .ok (.aload_n 0, 1) := by decide +kernel
theorem dX5_settleChain_149 : decode cX5_settleChain 149 = .ok (.getfield 37, 3) := by decide +kernel
theorem dX5_settleChain_152 : decode cX5_settleChain 152 = .ok (.iload_n 1, 1) := by decide +kernel
theorem dX5_settleChain_153 : decode cX5_settleChain 153 = .ok (.iaload, 1) := by decide +kernel
theorem dX5_settleChain_154 : decode cX5_settleChain 154 = .ok (.iastore, 1) := by decide +kernel
theorem dX5_settleChain_155 : decode cX5_settleChain 155 = .ok (.aload_n 0, 1) := by decide +kernel
theorem dX5_settleChain_156 : decode cX5_settleChain 156 = .ok (.getfield 46, 3) := by decide +kernel
theorem dX5_settleChain_159 : decode cX5_settleChain 159 = .ok (.iload_n 1, 1) := by decide +kernel
theorem dX5_settleChain_160 : decode cX5_settleChain 160 = .ok (.aload_n 0, 1) := by decide +kernel
theorem dX5_settleChain_161 : decode cX5_settleChain 161 = .ok (.getfield 40, 3) := by decide +kernel
theorem dX5_settleChain_164 : decode cX5_settleChain 164 = .ok (.iload_n 1, 1) := by decide +kernel
theorem dX5_settleChain_165 : decode cX5_settleChain 165 = .ok (.iaload, 1) := by decide +kernel
theorem dX5_settleChain_166 : decode cX5_settleChain 166 = .ok (.iload_n 3, 1) := by decide +kernel
theorem dX5_settleChain_167 : decode cX5_settleChain 167 = .ok (.ifCond .eq 12, 3) := by decide +kernel
theorem dX5_settleChain_170 : decode cX5_settleChain 170 = .ok (.aload_n 0, 1) := by decide +kernel
theorem dX5_settleChain_171 : decode cX5_settleChain 171 = .ok (.getfield 46, 3) := by decide +kernel
theorem dX5_settleChain_174 : decode cX5_settleChain 174 = .ok (.iload_n 2, 1) := by decide +kernel
theorem dX5_settleChain_175 : decode cX5_settleChain 175 = .ok (.iaload, 1) := by decide +kernel
theorem dX5_settleChain_176 : decode cX5_settleChain 176 = .ok (.goto 4, 3) := by decide +kernel
theorem dX5_settleChain_179 : decode cX5_settleChain 179 = .ok (.iconst 0, 1) := by decide +kernel
theorem dX5_settleChain_180 : decode cX5_settleChain 180 = .ok (.iadd, 1) := by decide +kernel
theorem dX5_settleChain_181 : decode cX5_settleChain 181 = .ok (.iastore, 1) := by decide +kernel
theorem dX5_settleChain_182 : decode cX5_settleChain 182 = .ok (.aload_n 0, 1) := by decide +kernel
theorem dX5_settleChain_183 : decode cX5_settleChain 183 = .ok (.getfield 49, 3) := by decide +kernel
theorem dX5_settleChain_186 : decode cX5_settleChain 186 = .ok (.iload_n 1, 1) := by decide +kernel
theorem dX5_settleChain_187 : decode cX5_settleChain 187 = .ok (.iload 4, 2) := by decide +kernel
theorem dX5_settleChain_189 : decode cX5_settleChain 189 = .ok (.iload_n 3, 1) := by decide +kernel
theorem dX5_settleChain_190 : decode cX5_settleChain 190 = .ok (.ifCond .eq 12, 3) := by decide +kernel
theorem dX5_settleChain_193 : decode cX5_settleChain 193 = .ok (.aload_n 0, 1) := by decide +kernel
theorem dX5_settleChain_194 : decode cX5_settleChain 194 = .ok (.getfield 49, 3) := by decide +kernel
theorem dX5_settleChain_197 : decode cX5_settleChain 197 = .ok (.iload_n 2, 1) := by decide +kernel
theorem dX5_settleChain_198 : decode cX5_settleChain 198 = .ok (.iaload, 1) := by decide +kernel
theorem dX5_settleChain_199 : decode cX5_settleChain 199 = .ok (.goto 4, 3) := by decide +kernel
theorem dX5_settleChain_202 : decode cX5_settleChain 202 = .ok (.iconst 0, 1) := by decide +kernel
theorem dX5_settleChain_203 : decode cX5_settleChain 203 = .ok (.iadd, 1) := by decide +kernel
theorem dX5_settleChain_204 : decode cX5_settleChain 204 = .ok (.iastore, 1) := by decide +kernel
theorem dX5_settleChain_205 : decode cX5_settleChain 205 = .ok (.return_, 1) := by decide +kernel
theorem dX5_custodyOf_0 : decode cX5_custodyOf 0 = .ok (.iload_n 0, 1) := by decide +kernel
theorem dX5_custodyOf_1 : decode cX5_custodyOf 1 = .ok (.tableswitch 60 0 3 #[31, 37, 60, 45], 31) := by decide +kernel
theorem dX5_custodyOf_32 : decode cX5_custodyOf 32 = .ok (.iload_n 1, 1) := by decide +kernel
theorem dX5_custodyOf_33 : decode cX5_custodyOf 33 = .ok (.iconst 1, 1) := by decide +kernel
theorem dX5_custodyOf_34 : decode cX5_custodyOf 34 = .ok (.iadd, 1) := by decide +kernel
theorem dX5_custodyOf_35 : decode cX5_custodyOf 35 = .ok (.iconst 2, 1) := by decide +kernel
theorem dX5_custodyOf_36 : decode cX5_custodyOf 36 = .ok (.idiv, 1) := by decide +kernel
theorem dX5_custodyOf_37 : decode cX5_custodyOf 37 = .ok (.ireturn, 1) := by decide +kernel
theorem dX5_custodyOf_38 : decode cX5_custodyOf 38 = .ok (.iconst 2, 1) := by decide +kernel
theorem dX5_custodyOf_39 : decode cX5_custodyOf 39 = .ok (.iload_n 1, 1) := by decide +kernel
theorem dX5_custodyOf_40 : decode cX5_custodyOf 40 = .ok (.imul, 1) := by decide +kernel
theorem dX5_custodyOf_41 : decode cX5_custodyOf 41 = .ok (.iconst 2, 1) := by decide +kernel
theorem dX5_custodyOf_42 : decode cX5_custodyOf 42 = .ok (.iadd, 1) := by decide +kernel
theorem dX5_custodyOf_43 : decode cX5_custodyOf 43 = .ok (.iconst 3, 1) := by decide +kernel
theorem dX5_custodyOf_44 : decode cX5_custodyOf 44 = .ok (.idiv, 1) := by decide +kernel
theorem dX5_custodyOf_45 : decode cX5_custodyOf 45 = .ok (.ireturn, 1) := by decide +kernel
theorem dX5_custodyOf_46 : decode cX5_custodyOf 46 = .ok (.iload_n 1, 1) := by decide +kernel
theorem dX5_custodyOf_47 : decode cX5_custodyOf 47 = .ok (.iconst 1, 1) := by decide +kernel
theorem dX5_custodyOf_48 : decode cX5_custodyOf 48 = .ok (.iadd, 1) := by decide +kernel
theorem dX5_custodyOf_49 : decode cX5_custodyOf 49 = .ok (.iconst 2, 1) := by decide +kernel
theorem dX5_custodyOf_50 : decode cX5_custodyOf 50 = .ok (.idiv, 1) := by decide +kernel
theorem dX5_custodyOf_51 : decode cX5_custodyOf 51 = .ok (.bipush 30, 2) := by decide +kernel
theorem dX5_custodyOf_53 : decode cX5_custodyOf 53 = .ok (.invokestatic 77, 3) := by decide +kernel
theorem dX5_custodyOf_56 : decode cX5_custodyOf 56 = .ok (.iload_n 1, 1) := by decide +kernel
theorem dX5_custodyOf_57 : decode cX5_custodyOf 57 = .ok (.invokestatic 82, 3) := by decide +kernel
theorem dX5_custodyOf_60 : decode cX5_custodyOf 60 = .ok (.ireturn, 1) := by decide +kernel
theorem dX5_custodyOf_61 : decode cX5_custodyOf 61 = .ok (.iload_n 1, 1) := by decide +kernel
theorem dX5_custodyOf_62 : decode cX5_custodyOf 62 = .ok (.ireturn, 1) := by decide +kernel
theorem dX5_releaseWith_0 : decode cX5_releaseWith 0 = .ok (.aload_n 0, 1) := by decide +kernel
theorem dX5_releaseWith_1 : decode cX5_releaseWith 1 = .ok (.getfield 49, 3) := by decide +kernel
theorem dX5_releaseWith_4 : decode cX5_releaseWith 4 = .ok (.iload_n 1, 1) := by decide +kernel
theorem dX5_releaseWith_5 : decode cX5_releaseWith 5 = .ok (.iaload, 1) := by decide +kernel
theorem dX5_releaseWith_6 : decode cX5_releaseWith 6 = .ok (.aload_n 0, 1) := by decide +kernel
theorem dX5_releaseWith_7 : decode cX5_releaseWith 7 = .ok (.getfield 52, 3) := by decide +kernel
theorem dX5_releaseWith_10 : decode cX5_releaseWith 10 = .ok (.iload_n 1, 1) := by decide +kernel
theorem dX5_releaseWith_11 : decode cX5_releaseWith 11 = .ok (.iaload, 1) := by decide +kernel
theorem dX5_releaseWith_12 : decode cX5_releaseWith 12 = .ok (.isub, 1) := by decide +kernel
theorem dX5_releaseWith_13 : decode cX5_releaseWith 13 = .ok (.iconst 0, 1) := by decide +kernel
theorem dX5_releaseWith_14 : decode cX5_releaseWith 14 = .ok (.invokestatic 77, 3) := by decide +kernel
theorem dX5_releaseWith_17 : decode cX5_releaseWith 17 = .ok (.istore_n 3, 1) := by decide +kernel
theorem dX5_releaseWith_18 : decode cX5_releaseWith 18 = .ok (.aload_n 0, 1) := by decide +kernel
theorem dX5_releaseWith_19 : decode cX5_releaseWith 19 = .ok (.getfield 46, 3) := by decide +kernel
theorem dX5_releaseWith_22 : decode cX5_releaseWith 22 = .ok (.iload_n 1, 1) := by decide +kernel
theorem dX5_releaseWith_23 : decode cX5_releaseWith 23 = .ok (.iaload, 1) := by decide +kernel
theorem dX5_releaseWith_24 : decode cX5_releaseWith 24 = .ok (.aload_n 0, 1) := by decide +kernel
theorem dX5_releaseWith_25 : decode cX5_releaseWith 25 = .ok (.getfield 52, 3) := by decide +kernel
theorem dX5_releaseWith_28 : decode cX5_releaseWith 28 = .ok (.iload_n 1, 1) := by decide +kernel
theorem dX5_releaseWith_29 : decode cX5_releaseWith 29 = .ok (.iaload, 1) := by decide +kernel
theorem dX5_releaseWith_30 : decode cX5_releaseWith 30 = .ok (.isub, 1) := by decide +kernel
theorem dX5_releaseWith_31 : decode cX5_releaseWith 31 = .ok (.istore 4, 2) := by decide +kernel
theorem dX5_releaseWith_33 : decode cX5_releaseWith 33 = .ok (.aload_n 0, 1) := by decide +kernel
theorem dX5_releaseWith_34 : decode cX5_releaseWith 34 = .ok (.getfield 43, 3) := by decide +kernel
theorem dX5_releaseWith_37 : decode cX5_releaseWith 37 = .ok (.iload_n 1, 1) := by decide +kernel
theorem dX5_releaseWith_38 : decode cX5_releaseWith 38 = .ok (.iaload, 1) := by decide +kernel
theorem dX5_releaseWith_39 : decode cX5_releaseWith 39 = .ok (.iload 4, 2) := by decide +kernel
theorem dX5_releaseWith_41 : decode cX5_releaseWith 41 = .ok (.iload_n 3, 1) := by decide +kernel
theorem dX5_releaseWith_42 : decode cX5_releaseWith 42 = .ok (.iload_n 2, 1) := by decide +kernel
theorem dX5_releaseWith_43 : decode cX5_releaseWith 43 = .ok (.iadd, 1) := by decide +kernel
theorem dX5_releaseWith_44 : decode cX5_releaseWith 44 = .ok (.invokestatic 82, 3) := by decide +kernel
theorem dX5_releaseWith_47 : decode cX5_releaseWith 47 = .ok (.iadd, 1) := by decide +kernel
theorem dX5_releaseWith_48 : decode cX5_releaseWith 48 = .ok (.ireturn, 1) := by decide +kernel
theorem dX5_endOf_0 : decode cX5_endOf 0 = .ok (.aload_n 0, 1) := by decide +kernel
theorem dX5_endOf_1 : decode cX5_endOf 1 = .ok (.getfield 43, 3) := by decide +kernel
theorem dX5_endOf_4 : decode cX5_endOf 4 = .ok (.iload_n 1, 1) := by decide +kernel
theorem dX5_endOf_5 : decode cX5_endOf 5 = .ok (.iaload, 1) := by decide +kernel
theorem dX5_endOf_6 : decode cX5_endOf 6 = .ok (.aload_n 0, 1) := by decide +kernel
theorem dX5_endOf_7 : decode cX5_endOf 7 = .ok (.getfield 46, 3) := by decide +kernel
theorem dX5_endOf_10 : decode cX5_endOf 10 = .ok (.iload_n 1, 1) := by decide +kernel
theorem dX5_endOf_11 : decode cX5_endOf 11 = .ok (.iaload, 1) := by decide +kernel
theorem dX5_endOf_12 : decode cX5_endOf 12 = .ok (.iadd, 1) := by decide +kernel
theorem dX5_endOf_13 : decode cX5_endOf 13 = .ok (.aload_n 0, 1) := by decide +kernel
theorem dX5_endOf_14 : decode cX5_endOf 14 = .ok (.getfield 52, 3) := by decide +kernel
theorem dX5_endOf_17 : decode cX5_endOf 17 = .ok (.iload_n 1, 1) := by decide +kernel
theorem dX5_endOf_18 : decode cX5_endOf 18 = .ok (.iaload, 1) := by decide +kernel
theorem dX5_endOf_19 : decode cX5_endOf 19 = .ok (.isub, 1) := by decide +kernel
theorem dX5_endOf_20 : decode cX5_endOf 20 = .ok (.ireturn, 1) := by decide +kernel
theorem dX6_init_0 : decode cX6_init 0 = .ok (.aload_n 0, 1) := by decide +kernel
theorem dX6_init_1 : decode cX6_init 1 = .ok (.invokespecial 1, 3) := by decide +kernel
theorem dX6_init_4 : decode cX6_init 4 = .ok (.aload_n 0, 1) := by decide +kernel
theorem dX6_init_5 : decode cX6_init 5 = .ok (.new 7, 3) := by decide +kernel
theorem dX6_init_8 : decode cX6_init 8 = .ok (.dup, 1) := by decide +kernel
theorem dX6_init_9 : decode cX6_init 9 = .ok (.invokespecial 9, 3) := by decide +kernel
theorem dX6_init_12 : decode cX6_init 12 = .ok (.putfield 10, 3) := by decide +kernel
theorem dX6_init_15 : decode cX6_init 15 = .ok (.aload_n 0, 1) := by decide +kernel
theorem dX6_init_16 : decode cX6_init 16 = .ok (.new 16, 3) := by decide +kernel
theorem dX6_init_19 : decode cX6_init 19 = .ok (.dup, 1) := by decide +kernel
theorem dX6_init_20 : decode cX6_init 20 = .ok (.invokespecial 18, 3) := by decide +kernel
theorem dX6_init_23 : decode cX6_init 23 = .ok (.putfield 19, 3) := by decide +kernel
theorem dX6_init_26 : decode cX6_init 26 = .ok (.aload_n 0, 1) := by decide +kernel
theorem dX6_init_27 : decode cX6_init 27 = .ok (.new 23, 3) := by decide +kernel
theorem dX6_init_30 : decode cX6_init 30 = .ok (.dup, 1) := by decide +kernel
theorem dX6_init_31 : decode cX6_init 31 = .ok (.invokespecial 25, 3) := by decide +kernel
theorem dX6_init_34 : decode cX6_init 34 = .ok (.putfield 26, 3) := by decide +kernel
theorem dX6_init_37 : decode cX6_init 37 = .ok (.aload_n 0, 1) := by decide +kernel
theorem dX6_init_38 : decode cX6_init 38 = .ok (.new 30, 3) := by decide +kernel
theorem dX6_init_41 : decode cX6_init 41 = .ok (.dup, 1) := by decide +kernel
theorem dX6_init_42 : decode cX6_init 42 = .ok (.invokespecial 32, 3) := by decide +kernel
theorem dX6_init_45 : decode cX6_init 45 = .ok (.putfield 33, 3) := by decide +kernel
theorem dX6_init_48 : decode cX6_init 48 = .ok (.aload_n 0, 1) := by decide +kernel
theorem dX6_init_49 : decode cX6_init 49 = .ok (.new 37, 3) := by decide +kernel
theorem dX6_init_52 : decode cX6_init 52 = .ok (.dup, 1) := by decide +kernel
theorem dX6_init_53 : decode cX6_init 53 = .ok (.invokespecial 39, 3) := by decide +kernel
theorem dX6_init_56 : decode cX6_init 56 = .ok (.putfield 40, 3) := by decide +kernel
theorem dX6_init_59 : decode cX6_init 59 = .ok (.aload_n 0, 1) := by decide +kernel
theorem dX6_init_60 : decode cX6_init 60 = .ok (.new 37, 3) := by decide +kernel
theorem dX6_init_63 : decode cX6_init 63 = .ok (.dup, 1) := by decide +kernel
theorem dX6_init_64 : decode cX6_init 64 = .ok (.invokespecial 39, 3) := by decide +kernel
theorem dX6_init_67 : decode cX6_init 67 = .ok (.putfield 44, 3) := by decide +kernel
theorem dX6_init_70 : decode cX6_init 70 = .ok (.aload_n 0, 1) := by decide +kernel
theorem dX6_init_71 : decode cX6_init 71 = .ok (.new 37, 3) := by decide +kernel
theorem dX6_init_74 : decode cX6_init 74 = .ok (.dup, 1) := by decide +kernel
theorem dX6_init_75 : decode cX6_init 75 = .ok (.invokespecial 39, 3) := by decide +kernel
theorem dX6_init_78 : decode cX6_init 78 = .ok (.putfield 47, 3) := by decide +kernel
theorem dX6_init_81 : decode cX6_init 81 = .ok (.aload_n 0, 1) := by decide +kernel
theorem dX6_init_82 : decode cX6_init 82 = .ok (.new 50, 3) := by decide +kernel
theorem dX6_init_85 : decode cX6_init 85 = .ok (.dup, 1) := by decide +kernel
theorem dX6_init_86 : decode cX6_init 86 = .ok (.invokespecial 52, 3) := by decide +kernel
theorem dX6_init_89 : decode cX6_init 89 = .ok (.putfield 53, 3) := by decide +kernel
theorem dX6_init_92 : decode cX6_init 92 = .ok (.return_, 1) := by decide +kernel
theorem dX6_dayNumber_0 : decode cX6_dayNumber 0 = .ok (.iload_n 1, 1) := by decide +kernel
theorem dX6_dayNumber_1 : decode cX6_dayNumber 1 = .ok (.iload_n 2, 1) := by decide +kernel
theorem dX6_dayNumber_2 : decode cX6_dayNumber 2 = .ok (.iload_n 3, 1) := by decide +kernel
theorem dX6_dayNumber_3 : decode cX6_dayNumber 3 = .ok (.invokestatic 57, 3) := by decide +kernel
theorem dX6_dayNumber_6 : decode cX6_dayNumber 6 = .ok (.iload_n 1, 1) := by decide +kernel
theorem dX6_dayNumber_7 : decode cX6_dayNumber 7 = .ok (.iload_n 2, 1) := by decide +kernel
theorem dX6_dayNumber_8 : decode cX6_dayNumber 8 = .ok (.iload_n 3, 1) := by decide +kernel
theorem dX6_dayNumber_9 : decode cX6_dayNumber 9 = .ok (.invokestatic 61, 3) := by decide +kernel
theorem dX6_dayNumber_12 : decode cX6_dayNumber 12 = .ok (.ireturn, 1) := by decide +kernel
theorem dX6_dayNumberByMonths_0 : decode cX6_dayNumberByMonths 0 = .ok (.iload_n 1, 1) := by decide +kernel
theorem dX6_dayNumberByMonths_1 : decode cX6_dayNumberByMonths 1 = .ok (.iload_n 2, 1) := by decide +kernel
theorem dX6_dayNumberByMonths_2 : decode cX6_dayNumberByMonths 2 = .ok (.iload_n 3, 1) := by decide +kernel
theorem dX6_dayNumberByMonths_3 : decode cX6_dayNumberByMonths 3 = .ok (.invokestatic 57, 3) := by decide +kernel
theorem dX6_dayNumberByMonths_6 : decode cX6_dayNumberByMonths 6 = .ok (.iload_n 1, 1) := by decide +kernel
theorem dX6_dayNumberByMonths_7 : decode cX6_dayNumberByMonths 7 = .ok (.iload_n 2, 1) := by decide +kernel
theorem dX6_dayNumberByMonths_8 : decode cX6_dayNumberByMonths 8 = .ok (.iload_n 3, 1) := by decide +kernel
theorem dX6_dayNumberByMonths_9 : decode cX6_dayNumberByMonths 9 = .ok (.invokestatic 67, 3) := by decide +kernel
theorem dX6_dayNumberByMonths_12 : decode cX6_dayNumberByMonths 12 = .ok (.ireturn, 1) := by decide +kernel
theorem dX6_yearOf_0 : decode cX6_yearOf 0 = .ok (.iload_n 1, 1) := by decide +kernel
theorem dX6_yearOf_1 : decode cX6_yearOf 1 = .ok (.invokestatic 70, 3) := by decide +kernel
theorem dX6_yearOf_4 : decode cX6_yearOf 4 = .ok (.iload_n 1, 1) := by decide +kernel
theorem dX6_yearOf_5 : decode cX6_yearOf 5 = .ok (.invokestatic 74, 3) := by decide +kernel
theorem dX6_yearOf_8 : decode cX6_yearOf 8 = .ok (.ireturn, 1) := by decide +kernel
theorem dX6_monthOf_0 : decode cX6_monthOf 0 = .ok (.iload_n 1, 1) := by decide +kernel
theorem dX6_monthOf_1 : decode cX6_monthOf 1 = .ok (.invokestatic 70, 3) := by decide +kernel
theorem dX6_monthOf_4 : decode cX6_monthOf 4 = .ok (.iload_n 1, 1) := by decide +kernel
theorem dX6_monthOf_5 : decode cX6_monthOf 5 = .ok (.invokestatic 78, 3) := by decide +kernel
theorem dX6_monthOf_8 : decode cX6_monthOf 8 = .ok (.ireturn, 1) := by decide +kernel
theorem dX6_dayOfMonth_0 : decode cX6_dayOfMonth 0 = .ok (.iload_n 1, 1) := by decide +kernel
theorem dX6_dayOfMonth_1 : decode cX6_dayOfMonth 1 = .ok (.invokestatic 70, 3) := by decide +kernel
theorem dX6_dayOfMonth_4 : decode cX6_dayOfMonth 4 = .ok (.iload_n 1, 1) := by decide +kernel
theorem dX6_dayOfMonth_5 : decode cX6_dayOfMonth 5 = .ok (.invokestatic 81, 3) := by decide +kernel
theorem dX6_dayOfMonth_8 : decode cX6_dayOfMonth 8 = .ok (.ireturn, 1) := by decide +kernel
theorem dX6_monthsAfter_0 : decode cX6_monthsAfter 0 = .ok (.iload_n 1, 1) := by decide +kernel
theorem dX6_monthsAfter_1 : decode cX6_monthsAfter 1 = .ok (.invokestatic 70, 3) := by decide +kernel
theorem dX6_monthsAfter_4 : decode cX6_monthsAfter 4 = .ok (.iload_n 2, 1) := by decide +kernel
theorem dX6_monthsAfter_5 : decode cX6_monthsAfter 5 = .ok (.ifCond .lt 9, 3) := by decide +kernel
theorem dX6_monthsAfter_8 : decode cX6_monthsAfter 8 = .ok (.iload_n 2, 1) := by decide +kernel
theorem dX6_monthsAfter_9 : decode cX6_monthsAfter 9 = .ok (.bipush 60, 2) := by decide +kernel
theorem dX6_monthsAfter_11 : decode cX6_monthsAfter 11 = .ok (.if_icmp .le 11, 3) := by decide +kernel
theorem dX6_monthsAfter_14 : decode cX6_monthsAfter 14 = .ok (.new 84, 3) := by decide +kernel
theorem dX6_monthsAfter_17 : decode cX6_monthsAfter 17 = .ok (.dup, 1) := by decide +kernel
theorem dX6_monthsAfter_18 : decode cX6_monthsAfter 18 = .ok (.invokespecial 86, 3) := by decide +kernel
theorem dX6_monthsAfter_21 : decode cX6_monthsAfter 21 = .ok (.athrow, 1) := by decide +kernel
theorem dX6_monthsAfter_22 : decode cX6_monthsAfter 22 = .ok (.iload_n 1, 1) := by decide +kernel
theorem dX6_monthsAfter_23 : decode cX6_monthsAfter 23 = .ok (.iload_n 2, 1) := by decide +kernel
theorem dX6_monthsAfter_24 : decode cX6_monthsAfter 24 = .ok (.invokestatic 87, 3) := by decide +kernel
theorem dX6_monthsAfter_27 : decode cX6_monthsAfter 27 = .ok (.istore_n 3, 1) := by decide +kernel
theorem dX6_monthsAfter_28 : decode cX6_monthsAfter 28 = .ok (.iload_n 3, 1) := by decide +kernel
theorem dX6_monthsAfter_29 : decode cX6_monthsAfter 29 = .ok (.ldc 91, 2) := by decide +kernel
theorem dX6_monthsAfter_31 : decode cX6_monthsAfter 31 = .ok (.if_icmp .le 11, 3) := by decide +kernel
theorem dX6_monthsAfter_34 : decode cX6_monthsAfter 34 = .ok (.new 84, 3) := by decide +kernel
theorem dX6_monthsAfter_37 : decode cX6_monthsAfter 37 = .ok (.dup, 1) := by decide +kernel
theorem dX6_monthsAfter_38 : decode cX6_monthsAfter 38 = .ok (.invokespecial 86, 3) := by decide +kernel
theorem dX6_monthsAfter_41 : decode cX6_monthsAfter 41 = .ok (.athrow, 1) := by decide +kernel
theorem dX6_monthsAfter_42 : decode cX6_monthsAfter 42 = .ok (.iload_n 3, 1) := by decide +kernel
theorem dX6_monthsAfter_43 : decode cX6_monthsAfter 43 = .ok (.ireturn, 1) := by decide +kernel
theorem dX6_today_0 : decode cX6_today 0 = .ok (.aload_n 0, 1) := by decide +kernel
theorem dX6_today_1 : decode cX6_today 1 = .ok (.getfield 92, 3) := by decide +kernel
theorem dX6_today_4 : decode cX6_today 4 = .ok (.ireturn, 1) := by decide +kernel
theorem dX6_advance_0 : decode cX6_advance 0 = .ok (.iload_n 1, 1) := by decide +kernel
theorem dX6_advance_1 : decode cX6_advance 1 = .ok (.iconst 1, 1) := by decide +kernel
theorem dX6_advance_2 : decode cX6_advance 2 = .ok (.if_icmp .lt 10, 3) := by decide +kernel
theorem dX6_advance_5 : decode cX6_advance 5 = .ok (.iload_n 1, 1) := by decide +kernel
theorem dX6_advance_6 : decode cX6_advance 6 = .ok (.sipush 400, 3) := by decide +kernel
theorem dX6_advance_9 : decode cX6_advance 9 = .ok (.if_icmp .le 11, 3) := by decide +kernel
theorem dX6_advance_12 : decode cX6_advance 12 = .ok (.new 84, 3) := by decide +kernel
theorem dX6_advance_15 : decode cX6_advance 15 = .ok (.dup, 1) := by decide +kernel
theorem dX6_advance_16 : decode cX6_advance 16 = .ok (.invokespecial 86, 3) := by decide +kernel
theorem dX6_advance_19 : decode cX6_advance 19 = .ok (.athrow, 1) := by decide +kernel
theorem dX6_advance_20 : decode cX6_advance 20 = .ok (.aload_n 0, 1) := by decide +kernel
theorem dX6_advance_21 : decode cX6_advance 21 = .ok (.getfield 92, 3) := by decide +kernel
theorem dX6_advance_24 : decode cX6_advance 24 = .ok (.iload_n 1, 1) := by decide +kernel
theorem dX6_advance_25 : decode cX6_advance 25 = .ok (.iadd, 1) := by decide +kernel
theorem dX6_advance_26 : decode cX6_advance 26 = .ok (.sipush 14609, 3) := by decide +kernel
theorem dX6_advance_29 : decode cX6_advance 29 = .ok (.if_icmp .le 11, 3) := by decide +kernel
theorem dX6_advance_32 : decode cX6_advance 32 = .ok (.new 96, 3) := by decide +kernel
theorem dX6_advance_35 : decode cX6_advance 35 = .ok (.dup, 1) := by decide +kernel
theorem dX6_advance_36 : decode cX6_advance 36 = .ok (.invokespecial 98, 3) := by decide +kernel
theorem dX6_advance_39 : decode cX6_advance 39 = .ok (.athrow, 1) := by decide +kernel
theorem dX6_advance_40 : decode cX6_advance 40 = .ok (.aload_n 0, 1) := by decide +kernel
theorem dX6_advance_41 : decode cX6_advance 41 = .ok (.getfield 92, 3) := by decide +kernel
theorem dX6_advance_44 : decode cX6_advance 44 = .ok (.iload_n 1, 1) := by decide +kernel
theorem dX6_advance_45 : decode cX6_advance 45 = .ok (.iadd, 1) := by decide +kernel
theorem dX6_advance_46 : decode cX6_advance 46 = .ok (.istore_n 2, 1) := by decide +kernel
theorem dX6_advance_47 : decode cX6_advance 47 = .ok (.aload_n 0, 1) := by decide +kernel
theorem dX6_advance_48 : decode cX6_advance 48 = .ok (.getfield 92, 3) := by decide +kernel
theorem dX6_advance_51 : decode cX6_advance 51 = .ok (.aload_n 0, 1) := by decide +kernel
theorem dX6_advance_52 : decode cX6_advance 52 = .ok (.invokevirtual 99, 3) := by decide +kernel
theorem dX6_advance_55 : decode cX6_advance 55 = .ok (.iload_n 2, 1) := by decide +kernel
theorem dX6_advance_56 : decode cX6_advance 56 = .ok (.invokestatic 103, 3) := by decide +kernel
theorem dX6_advance_59 : decode cX6_advance 59 = .ok (.istore_n 3, 1) := by decide +kernel
theorem dX6_advance_60 : decode cX6_advance 60 = .ok (.iload_n 3, 1) := by decide +kernel
theorem dX6_advance_61 : decode cX6_advance 61 = .ok (.aload_n 0, 1) := by decide +kernel
theorem dX6_advance_62 : decode cX6_advance 62 = .ok (.invokevirtual 106, 3) := by decide +kernel
theorem dX6_advance_65 : decode cX6_advance 65 = .ok (.iload_n 2, 1) := by decide +kernel
theorem dX6_advance_66 : decode cX6_advance 66 = .ok (.invokestatic 103, 3) := by decide +kernel
theorem dX6_advance_69 : decode cX6_advance 69 = .ok (.istore 4, 2) := by decide +kernel
theorem dX6_advance_71 : decode cX6_advance 71 = .ok (.aload_n 0, 1) := by decide +kernel
theorem dX6_advance_72 : decode cX6_advance 72 = .ok (.getfield 40, 3) := by decide +kernel
theorem dX6_advance_75 : decode cX6_advance 75 = .ok (.aload_n 0, 1) := by decide +kernel
theorem dX6_advance_76 : decode cX6_advance 76 = .ok (.getfield 92, 3) := by decide +kernel
theorem dX6_advance_79 : decode cX6_advance 79 = .ok (.iload_n 3, 1) := by decide +kernel
theorem dX6_advance_80 : decode cX6_advance 80 = .ok (.iconst 1, 1) := by decide +kernel
theorem dX6_advance_81 : decode cX6_advance 81 = .ok (.isub, 1) := by decide +kernel
theorem dX6_advance_82 : decode cX6_advance 82 = .ok (.invokevirtual 109, 3) := by decide +kernel
theorem dX6_advance_85 : decode cX6_advance 85 = .ok (.aload_n 0, 1) := by decide +kernel
theorem dX6_advance_86 : decode cX6_advance 86 = .ok (.getfield 44, 3) := by decide +kernel
theorem dX6_advance_89 : decode cX6_advance 89 = .ok (.iload_n 3, 1) := by decide +kernel
theorem dX6_advance_90 : decode cX6_advance 90 = .ok (.iload 4, 2) := by decide +kernel
theorem dX6_advance_92 : decode cX6_advance 92 = .ok (.iconst 1, 1) := by decide +kernel
theorem dX6_advance_93 : decode cX6_advance 93 = .ok (.isub, 1) := by decide +kernel
theorem dX6_advance_94 : decode cX6_advance 94 = .ok (.invokevirtual 109, 3) := by decide +kernel
theorem dX6_advance_97 : decode cX6_advance 97 = .ok (.iload_n 3, 1) := by decide +kernel
theorem dX6_advance_98 : decode cX6_advance 98 = .ok (.aload_n 0, 1) := by decide +kernel
theorem dX6_advance_99 : decode cX6_advance 99 = .ok (.getfield 92, 3) := by decide +kernel
theorem dX6_advance_102 : decode cX6_advance 102 = .ok (.isub, 1) := by decide +kernel
theorem dX6_advance_103 : decode cX6_advance 103 = .ok (.istore 5, 2) := by decide +kernel
theorem dX6_advance_105 : decode cX6_advance 105 = .ok (.aload_n 0, 1) := by decide +kernel
theorem dX6_advance_106 : decode cX6_advance 106 = .ok (.dup, 1) := by decide +kernel
theorem dX6_advance_107 : decode cX6_advance 107 = .ok (.getfield 113, 3) := by decide +kernel
theorem dX6_advance_110 : decode cX6_advance 110 = .ok (.iload 5, 2) := by decide +kernel
theorem dX6_advance_112 : decode cX6_advance 112 = .ok (.iadd, 1) := by decide +kernel
theorem dX6_advance_113 : decode cX6_advance 113 = .ok (.putfield 113, 3) := by decide +kernel
theorem dX6_advance_116 : decode cX6_advance 116 = .ok (.aload_n 0, 1) := by decide +kernel
theorem dX6_advance_117 : decode cX6_advance 117 = .ok (.dup, 1) := by decide +kernel
theorem dX6_advance_118 : decode cX6_advance 118 = .ok (.getfield 116, 3) := by decide +kernel
theorem dX6_advance_121 : decode cX6_advance 121 = .ok (.iload 4, 2) := by decide +kernel
theorem dX6_advance_123 : decode cX6_advance 123 = .ok (.iload_n 3, 1) := by decide +kernel
theorem dX6_advance_124 : decode cX6_advance 124 = .ok (.isub, 1) := by decide +kernel
theorem dX6_advance_125 : decode cX6_advance 125 = .ok (.iadd, 1) := by decide +kernel
theorem dX6_advance_126 : decode cX6_advance 126 = .ok (.putfield 116, 3) := by decide +kernel
theorem dX6_advance_129 : decode cX6_advance 129 = .ok (.aload_n 0, 1) := by decide +kernel
theorem dX6_advance_130 : decode cX6_advance 130 = .ok (.iload_n 2, 1) := by decide +kernel
theorem dX6_advance_131 : decode cX6_advance 131 = .ok (.putfield 92, 3) := by decide +kernel
theorem dX6_advance_134 : decode cX6_advance 134 = .ok (.iload 5, 2) := by decide +kernel
theorem dX6_advance_136 : decode cX6_advance 136 = .ok (.ireturn, 1) := by decide +kernel
theorem dX6_impose_0 : decode cX6_impose 0 = .ok (.iload_n 1, 1) := by decide +kernel
theorem dX6_impose_1 : decode cX6_impose 1 = .ok (.iload_n 2, 1) := by decide +kernel
theorem dX6_impose_2 : decode cX6_impose 2 = .ok (.iload_n 3, 1) := by decide +kernel
theorem dX6_impose_3 : decode cX6_impose 3 = .ok (.invokestatic 119, 3) := by decide +kernel
theorem dX6_impose_6 : decode cX6_impose 6 = .ok (.aload_n 0, 1) := by decide +kernel
theorem dX6_impose_7 : decode cX6_impose 7 = .ok (.invokevirtual 122, 3) := by decide +kernel
theorem dX6_impose_10 : decode cX6_impose 10 = .ok (.aload_n 0, 1) := by decide +kernel
theorem dX6_impose_11 : decode cX6_impose 11 = .ok (.iconst (-1), 1) := by decide +kernel
theorem dX6_impose_12 : decode cX6_impose 12 = .ok (.iload_n 1, 1) := by decide +kernel
theorem dX6_impose_13 : decode cX6_impose 13 = .ok (.iload_n 2, 1) := by decide +kernel
theorem dX6_impose_14 : decode cX6_impose 14 = .ok (.iload_n 3, 1) := by decide +kernel
theorem dX6_impose_15 : decode cX6_impose 15 = .ok (.invokevirtual 125, 3) := by decide +kernel
theorem dX6_impose_18 : decode cX6_impose 18 = .ok (.ireturn, 1) := by decide +kernel
theorem dX6_imposeConsecutive_0 : decode cX6_imposeConsecutive 0 = .ok (.aload_n 0, 1) := by decide +kernel
theorem dX6_imposeConsecutive_1 : decode cX6_imposeConsecutive 1 = .ok (.iload_n 1, 1) := by decide +kernel
theorem dX6_imposeConsecutive_2 : decode cX6_imposeConsecutive 2 = .ok (.invokevirtual 129, 3) := by decide +kernel
theorem dX6_imposeConsecutive_5 : decode cX6_imposeConsecutive 5 = .ok (.iload_n 2, 1) := by decide +kernel
theorem dX6_imposeConsecutive_6 : decode cX6_imposeConsecutive 6 = .ok (.iload_n 3, 1) := by decide +kernel
theorem dX6_imposeConsecutive_7 : decode cX6_imposeConsecutive 7 = .ok (.iload 4, 2) := by decide +kernel
theorem dX6_imposeConsecutive_9 : decode cX6_imposeConsecutive 9 = .ok (.invokestatic 119, 3) := by decide +kernel
theorem dX6_imposeConsecutive_12 : decode cX6_imposeConsecutive 12 = .ok (.aload_n 0, 1) := by decide +kernel
theorem dX6_imposeConsecutive_13 : decode cX6_imposeConsecutive 13 = .ok (.invokevirtual 122, 3) := by decide +kernel
theorem dX6_imposeConsecutive_16 : decode cX6_imposeConsecutive 16 = .ok (.aload_n 0, 1) := by decide +kernel
theorem dX6_imposeConsecutive_17 : decode cX6_imposeConsecutive 17 = .ok (.getfield 10, 3) := by decide +kernel
theorem dX6_imposeConsecutive_20 : decode cX6_imposeConsecutive 20 = .ok (.getfield 132, 3) := by decide +kernel
theorem dX6_imposeConsecutive_23 : decode cX6_imposeConsecutive 23 = .ok (.iload_n 1, 1) := by decide +kernel
theorem dX6_imposeConsecutive_24 : decode cX6_imposeConsecutive 24 = .ok (.baload, 1) := by decide +kernel
theorem dX6_imposeConsecutive_25 : decode cX6_imposeConsecutive 25 = .ok (.ifCond .ne 15, 3) := by decide +kernel
theorem dX6_imposeConsecutive_28 : decode cX6_imposeConsecutive 28 = .ok (.aload_n 0, 1) := by decide +kernel
theorem dX6_imposeConsecutive_29 : decode cX6_imposeConsecutive 29 = .ok (.iload_n 1, 1) := by decide +kernel
theorem dX6_imposeConsecutive_30 : decode cX6_imposeConsecutive 30 = .ok (.invokevirtual 136, 3) := by decide +kernel
theorem dX6_imposeConsecutive_33 : decode cX6_imposeConsecutive 33 = .ok (.aload_n 0, 1) := by decide +kernel
theorem dX6_imposeConsecutive_34 : decode cX6_imposeConsecutive 34 = .ok (.getfield 92, 3) := by decide +kernel
theorem dX6_imposeConsecutive_37 : decode cX6_imposeConsecutive 37 = .ok (.if_icmp .gt 11, 3) := by decide +kernel
theorem dX6_imposeConsecutive_40 : decode cX6_imposeConsecutive 40 = .ok (.new 96, 3) := by decide +kernel
theorem dX6_imposeConsecutive_43 : decode cX6_imposeConsecutive 43 = .ok (.dup, 1) := by decide +kernel
theorem dX6_imposeConsecutive_44 : decode cX6_imposeConsecutive 44 = .ok (.invokespecial 98, 3) := by decide +kernel
theorem dX6_imposeConsecutive_47 : decode cX6_imposeConsecutive 47 = .ok (.athrow, 1) := by decide +kernel
theorem dX6_imposeConsecutive_48 : decode cX6_imposeConsecutive 48 = .ok (.aload_n 0, 1) := by decide +kernel
theorem dX6_imposeConsecutive_49 : decode cX6_imposeConsecutive 49 = .ok (.iload_n 1, 1) := by decide +kernel
theorem dX6_imposeConsecutive_50 : decode cX6_imposeConsecutive 50 = .ok (.iload_n 2, 1) := by decide +kernel
theorem dX6_imposeConsecutive_51 : decode cX6_imposeConsecutive 51 = .ok (.iload_n 3, 1) := by decide +kernel
theorem dX6_imposeConsecutive_52 : decode cX6_imposeConsecutive 52 = .ok (.iload 4, 2) := by decide +kernel
theorem dX6_imposeConsecutive_54 : decode cX6_imposeConsecutive 54 = .ok (.invokevirtual 125, 3) := by decide +kernel
theorem dX6_imposeConsecutive_57 : decode cX6_imposeConsecutive 57 = .ok (.ireturn, 1) := by decide +kernel
theorem dX6_addRemand_0 : decode cX6_addRemand 0 = .ok (.aload_n 0, 1) := by decide +kernel
theorem dX6_addRemand_1 : decode cX6_addRemand 1 = .ok (.iload_n 1, 1) := by decide +kernel
theorem dX6_addRemand_2 : decode cX6_addRemand 2 = .ok (.invokevirtual 129, 3) := by decide +kernel
theorem dX6_addRemand_5 : decode cX6_addRemand 5 = .ok (.iload_n 2, 1) := by decide +kernel
theorem dX6_addRemand_6 : decode cX6_addRemand 6 = .ok (.ifCond .lt 16, 3) := by decide +kernel
theorem dX6_addRemand_9 : decode cX6_addRemand 9 = .ok (.iload_n 3, 1) := by decide +kernel
theorem dX6_addRemand_10 : decode cX6_addRemand 10 = .ok (.iload_n 2, 1) := by decide +kernel
theorem dX6_addRemand_11 : decode cX6_addRemand 11 = .ok (.if_icmp .lt 11, 3) := by decide +kernel
theorem dX6_addRemand_14 : decode cX6_addRemand 14 = .ok (.iload_n 3, 1) := by decide +kernel
theorem dX6_addRemand_15 : decode cX6_addRemand 15 = .ok (.aload_n 0, 1) := by decide +kernel
theorem dX6_addRemand_16 : decode cX6_addRemand 16 = .ok (.getfield 92, 3) := by decide +kernel
theorem dX6_addRemand_19 : decode cX6_addRemand 19 = .ok (.if_icmp .lt 11, 3) := by decide +kernel
theorem dX6_addRemand_22 : decode cX6_addRemand 22 = .ok (.new 84, 3) := by decide +kernel
theorem dX6_addRemand_25 : decode cX6_addRemand 25 = .ok (.dup, 1) := by decide +kernel
theorem dX6_addRemand_26 : decode cX6_addRemand 26 = .ok (.invokespecial 86, 3) := by decide +kernel
theorem dX6_addRemand_29 : decode cX6_addRemand 29 = .ok (.athrow, 1) := by decide +kernel
theorem dX6_addRemand_30 : decode cX6_addRemand 30 = .ok (.aload_n 0, 1) := by decide +kernel
theorem dX6_addRemand_31 : decode cX6_addRemand 31 = .ok (.getfield 10, 3) := by decide +kernel
theorem dX6_addRemand_34 : decode cX6_addRemand 34 = .ok (.getfield 132, 3) := by decide +kernel
theorem dX6_addRemand_37 : decode cX6_addRemand 37 = .ok (.iload_n 1, 1) := by decide +kernel
theorem dX6_addRemand_38 : decode cX6_addRemand 38 = .ok (.baload, 1) := by decide +kernel
theorem dX6_addRemand_39 : decode cX6_addRemand 39 = .ok (.ifCond .ne 31, 3) := by decide +kernel
theorem dX6_addRemand_42 : decode cX6_addRemand 42 = .ok (.aload_n 0, 1) := by decide +kernel
theorem dX6_addRemand_43 : decode cX6_addRemand 43 = .ok (.getfield 10, 3) := by decide +kernel
theorem dX6_addRemand_46 : decode cX6_addRemand 46 = .ok (.getfield 139, 3) := by decide +kernel
theorem dX6_addRemand_49 : decode cX6_addRemand 49 = .ok (.iload_n 1, 1) := by decide +kernel
theorem dX6_addRemand_50 : decode cX6_addRemand 50 = .ok (.iaload, 1) := by decide +kernel
theorem dX6_addRemand_51 : decode cX6_addRemand 51 = .ok (.aload_n 0, 1) := by decide +kernel
theorem dX6_addRemand_52 : decode cX6_addRemand 52 = .ok (.getfield 92, 3) := by decide +kernel
theorem dX6_addRemand_55 : decode cX6_addRemand 55 = .ok (.if_icmp .ne 15, 3) := by decide +kernel
theorem dX6_addRemand_58 : decode cX6_addRemand 58 = .ok (.aload_n 0, 1) := by decide +kernel
theorem dX6_addRemand_59 : decode cX6_addRemand 59 = .ok (.getfield 19, 3) := by decide +kernel
theorem dX6_addRemand_62 : decode cX6_addRemand 62 = .ok (.getfield 143, 3) := by decide +kernel
theorem dX6_addRemand_65 : decode cX6_addRemand 65 = .ok (.bipush 8, 2) := by decide +kernel
theorem dX6_addRemand_67 : decode cX6_addRemand 67 = .ok (.if_icmp .lt 11, 3) := by decide +kernel
theorem dX6_addRemand_70 : decode cX6_addRemand 70 = .ok (.new 96, 3) := by decide +kernel
theorem dX6_addRemand_73 : decode cX6_addRemand 73 = .ok (.dup, 1) := by decide +kernel
theorem dX6_addRemand_74 : decode cX6_addRemand 74 = .ok (.invokespecial 98, 3) := by decide +kernel
theorem dX6_addRemand_77 : decode cX6_addRemand 77 = .ok (.athrow, 1) := by decide +kernel
theorem dX6_addRemand_78 : decode cX6_addRemand 78 = .ok (.aload_n 0, 1) := by decide +kernel
theorem dX6_addRemand_79 : decode cX6_addRemand 79 = .ok (.getfield 19, 3) := by decide +kernel
theorem dX6_addRemand_82 : decode cX6_addRemand 82 = .ok (.iload_n 1, 1) := by decide +kernel
theorem dX6_addRemand_83 : decode cX6_addRemand 83 = .ok (.iload_n 2, 1) := by decide +kernel
theorem dX6_addRemand_84 : decode cX6_addRemand 84 = .ok (.iload_n 3, 1) := by decide +kernel
theorem dX6_addRemand_85 : decode cX6_addRemand 85 = .ok (.invokevirtual 146, 3) := by decide +kernel
theorem dX6_addRemand_88 : decode cX6_addRemand 88 = .ok (.aload_n 0, 1) := by decide +kernel
theorem dX6_addRemand_89 : decode cX6_addRemand 89 = .ok (.invokevirtual 149, 3) := by decide +kernel
theorem dX6_addRemand_92 : decode cX6_addRemand 92 = .ok (.aload_n 0, 1) := by decide +kernel
theorem dX6_addRemand_93 : decode cX6_addRemand 93 = .ok (.getfield 33, 3) := by decide +kernel
theorem dX6_addRemand_96 : decode cX6_addRemand 96 = .ok (.aload_n 0, 1) := by decide +kernel
theorem dX6_addRemand_97 : decode cX6_addRemand 97 = .ok (.invokevirtual 106, 3) := by decide +kernel
theorem dX6_addRemand_100 : decode cX6_addRemand 100 = .ok (.invokevirtual 152, 3) := by decide +kernel
theorem dX6_addRemand_103 : decode cX6_addRemand 103 = .ok (.aload_n 0, 1) := by decide +kernel
theorem dX6_addRemand_104 : decode cX6_addRemand 104 = .ok (.getfield 10, 3) := by decide +kernel
theorem dX6_addRemand_107 : decode cX6_addRemand 107 = .ok (.getfield 155, 3) := by decide +kernel
theorem dX6_addRemand_110 : decode cX6_addRemand 110 = .ok (.iload_n 1, 1) := by decide +kernel
theorem dX6_addRemand_111 : decode cX6_addRemand 111 = .ok (.iaload, 1) := by decide +kernel
theorem dX6_addRemand_112 : decode cX6_addRemand 112 = .ok (.ireturn, 1) := by decide +kernel
theorem dX6_quash_0 : decode cX6_quash 0 = .ok (.aload_n 0, 1) := by decide +kernel
theorem dX6_quash_1 : decode cX6_quash 1 = .ok (.iload_n 1, 1) := by decide +kernel
theorem dX6_quash_2 : decode cX6_quash 2 = .ok (.invokevirtual 158, 3) := by decide +kernel
theorem dX6_quash_5 : decode cX6_quash 5 = .ok (.aload_n 0, 1) := by decide +kernel
theorem dX6_quash_6 : decode cX6_quash 6 = .ok (.getfield 10, 3) := by decide +kernel
theorem dX6_quash_9 : decode cX6_quash 9 = .ok (.iload_n 1, 1) := by decide +kernel
theorem dX6_quash_10 : decode cX6_quash 10 = .ok (.invokevirtual 161, 3) := by decide +kernel
theorem dX6_quash_13 : decode cX6_quash 13 = .ok (.istore_n 2, 1) := by decide +kernel
theorem dX6_quash_14 : decode cX6_quash 14 = .ok (.aload_n 0, 1) := by decide +kernel
theorem dX6_quash_15 : decode cX6_quash 15 = .ok (.invokevirtual 149, 3) := by decide +kernel
theorem dX6_quash_18 : decode cX6_quash 18 = .ok (.aload_n 0, 1) := by decide +kernel
theorem dX6_quash_19 : decode cX6_quash 19 = .ok (.getfield 33, 3) := by decide +kernel
theorem dX6_quash_22 : decode cX6_quash 22 = .ok (.aload_n 0, 1) := by decide +kernel
theorem dX6_quash_23 : decode cX6_quash 23 = .ok (.invokevirtual 106, 3) := by decide +kernel
theorem dX6_quash_26 : decode cX6_quash 26 = .ok (.invokevirtual 152, 3) := by decide +kernel
theorem dX6_quash_29 : decode cX6_quash 29 = .ok (.iload_n 2, 1) := by decide +kernel
theorem dX6_quash_30 : decode cX6_quash 30 = .ok (.ireturn, 1) := by decide +kernel
theorem dX6_award_0 : decode cX6_award 0 = .ok (.iload_n 1, 1) := by decide +kernel
theorem dX6_award_1 : decode cX6_award 1 = .ok (.invokestatic 164, 3) := by decide +kernel
theorem dX6_award_4 : decode cX6_award 4 = .ok (.aload_n 0, 1) := by decide +kernel
theorem dX6_award_5 : decode cX6_award 5 = .ok (.invokevirtual 99, 3) := by decide +kernel
theorem dX6_award_8 : decode cX6_award 8 = .ok (.aload_n 0, 1) := by decide +kernel
theorem dX6_award_9 : decode cX6_award 9 = .ok (.getfield 92, 3) := by decide +kernel
theorem dX6_award_12 : decode cX6_award 12 = .ok (.if_icmp .le 15, 3) := by decide +kernel
theorem dX6_award_15 : decode cX6_award 15 = .ok (.aload_n 0, 1) := by decide +kernel
theorem dX6_award_16 : decode cX6_award 16 = .ok (.getfield 26, 3) := by decide +kernel
theorem dX6_award_19 : decode cX6_award 19 = .ok (.getfield 167, 3) := by decide +kernel
theorem dX6_award_22 : decode cX6_award 22 = .ok (.bipush 8, 2) := by decide +kernel
theorem dX6_award_24 : decode cX6_award 24 = .ok (.if_icmp .lt 11, 3) := by decide +kernel
theorem dX6_award_27 : decode cX6_award 27 = .ok (.new 96, 3) := by decide +kernel
theorem dX6_award_30 : decode cX6_award 30 = .ok (.dup, 1) := by decide +kernel
theorem dX6_award_31 : decode cX6_award 31 = .ok (.invokespecial 98, 3) := by decide +kernel
theorem dX6_award_34 : decode cX6_award 34 = .ok (.athrow, 1) := by decide +kernel
theorem dX6_award_35 : decode cX6_award 35 = .ok (.aload_n 0, 1) := by decide +kernel
theorem dX6_award_36 : decode cX6_award 36 = .ok (.invokevirtual 168, 3) := by decide +kernel
theorem dX6_award_39 : decode cX6_award 39 = .ok (.ifCond .eq 13, 3) := by decide +kernel
theorem dX6_award_42 : decode cX6_award 42 = .ok (.aload_n 0, 1) := by decide +kernel
theorem dX6_award_43 : decode cX6_award 43 = .ok (.getfield 33, 3) := by decide +kernel
theorem dX6_award_46 : decode cX6_award 46 = .ok (.getfield 172, 3) := by decide +kernel
theorem dX6_award_49 : decode cX6_award 49 = .ok (.goto 4, 3) := by decide +kernel
theorem dX6_award_52 : decode cX6_award 52 = .ok (.iconst (-1), 1) := by decide +kernel
theorem dX6_award_53 : decode cX6_award 53 = .ok (.istore_n 2, 1) := by decide +kernel
theorem dX6_award_54 : decode cX6_award 54 = .ok (.aload_n 0, 1) := by decide +kernel
theorem dX6_award_55 : decode cX6_award 55 = .ok (.getfield 26, 3) := by decide +kernel
theorem dX6_award_58 : decode cX6_award 58 = .ok (.iload_n 1, 1) := by decide +kernel
theorem dX6_award_59 : decode cX6_award 59 = .ok (.aload_n 0, 1) := by decide +kernel
theorem dX6_award_60 : decode cX6_award 60 = .ok (.invokevirtual 175, 3) := by decide +kernel
theorem dX6_award_63 : decode cX6_award 63 = .ok (.iload_n 2, 1) := by decide +kernel
theorem dX6_award_64 : decode cX6_award 64 = .ok (.invokevirtual 178, 3) := by decide +kernel
theorem dX6_award_67 : decode cX6_award 67 = .ok (.ireturn, 1) := by decide +kernel
theorem dX6_giveBack_0 : decode cX6_giveBack 0 = .ok (.aload_n 0, 1) := by decide +kernel
theorem dX6_giveBack_1 : decode cX6_giveBack 1 = .ok (.iload_n 1, 1) := by decide +kernel
theorem dX6_giveBack_2 : decode cX6_giveBack 2 = .ok (.invokevirtual 180, 3) := by decide +kernel
theorem dX6_giveBack_5 : decode cX6_giveBack 5 = .ok (.iload_n 2, 1) := by decide +kernel
theorem dX6_giveBack_6 : decode cX6_giveBack 6 = .ok (.iconst 1, 1) := by decide +kernel
theorem dX6_giveBack_7 : decode cX6_giveBack 7 = .ok (.if_icmp .lt 16, 3) := by decide +kernel
theorem dX6_giveBack_10 : decode cX6_giveBack 10 = .ok (.iload_n 2, 1) := by decide +kernel
theorem dX6_giveBack_11 : decode cX6_giveBack 11 = .ok (.aload_n 0, 1) := by decide +kernel
theorem dX6_giveBack_12 : decode cX6_giveBack 12 = .ok (.getfield 26, 3) := by decide +kernel
theorem dX6_giveBack_15 : decode cX6_giveBack 15 = .ok (.getfield 183, 3) := by decide +kernel
theorem dX6_giveBack_18 : decode cX6_giveBack 18 = .ok (.iload_n 1, 1) := by decide +kernel
theorem dX6_giveBack_19 : decode cX6_giveBack 19 = .ok (.iaload, 1) := by decide +kernel
theorem dX6_giveBack_20 : decode cX6_giveBack 20 = .ok (.if_icmp .le 11, 3) := by decide +kernel
theorem dX6_giveBack_23 : decode cX6_giveBack 23 = .ok (.new 84, 3) := by decide +kernel
theorem dX6_giveBack_26 : decode cX6_giveBack 26 = .ok (.dup, 1) := by decide +kernel
theorem dX6_giveBack_27 : decode cX6_giveBack 27 = .ok (.invokespecial 86, 3) := by decide +kernel
theorem dX6_giveBack_30 : decode cX6_giveBack 30 = .ok (.athrow, 1) := by decide +kernel
theorem dX6_giveBack_31 : decode cX6_giveBack 31 = .ok (.aload_n 0, 1) := by decide +kernel
theorem dX6_giveBack_32 : decode cX6_giveBack 32 = .ok (.getfield 26, 3) := by decide +kernel
theorem dX6_giveBack_35 : decode cX6_giveBack 35 = .ok (.getfield 183, 3) := by decide +kernel
theorem dX6_giveBack_38 : decode cX6_giveBack 38 = .ok (.iload_n 1, 1) := by decide +kernel
theorem dX6_giveBack_39 : decode cX6_giveBack 39 = .ok (.dup2, 1) := by decide +kernel
theorem dX6_giveBack_40 : decode cX6_giveBack 40 = .ok (.iaload, 1) := by decide +kernel
theorem dX6_giveBack_41 : decode cX6_giveBack 41 = .ok (.iload_n 2, 1) := by decide +kernel
theorem dX6_giveBack_42 : decode cX6_giveBack 42 = .ok (.isub, 1) := by decide +kernel
theorem dX6_giveBack_43 : decode cX6_giveBack 43 = .ok (.iastore, 1) := by decide +kernel
theorem dX6_giveBack_44 : decode cX6_giveBack 44 = .ok (.aload_n 0, 1) := by decide +kernel
theorem dX6_giveBack_45 : decode cX6_giveBack 45 = .ok (.getfield 26, 3) := by decide +kernel
theorem dX6_giveBack_48 : decode cX6_giveBack 48 = .ok (.getfield 183, 3) := by decide +kernel
theorem dX6_giveBack_51 : decode cX6_giveBack 51 = .ok (.iload_n 1, 1) := by decide +kernel
theorem dX6_giveBack_52 : decode cX6_giveBack 52 = .ok (.iaload, 1) := by decide +kernel
theorem dX6_giveBack_53 : decode cX6_giveBack 53 = .ok (.ireturn, 1) := by decide +kernel
theorem dX6_recall_0 : decode cX6_recall 0 = .ok (.iload_n 1, 1) := by decide +kernel
theorem dX6_recall_1 : decode cX6_recall 1 = .ok (.ifCond .lt 9, 3) := by decide +kernel
theorem dX6_recall_4 : decode cX6_recall 4 = .ok (.iload_n 1, 1) := by decide +kernel
theorem dX6_recall_5 : decode cX6_recall 5 = .ok (.bipush 28, 2) := by decide +kernel
theorem dX6_recall_7 : decode cX6_recall 7 = .ok (.if_icmp .le 11, 3) := by decide +kernel
theorem dX6_recall_10 : decode cX6_recall 10 = .ok (.new 84, 3) := by decide +kernel
theorem dX6_recall_13 : decode cX6_recall 13 = .ok (.dup, 1) := by decide +kernel
theorem dX6_recall_14 : decode cX6_recall 14 = .ok (.invokespecial 86, 3) := by decide +kernel
theorem dX6_recall_17 : decode cX6_recall 17 = .ok (.athrow, 1) := by decide +kernel
theorem dX6_recall_18 : decode cX6_recall 18 = .ok (.aload_n 0, 1) := by decide +kernel
theorem dX6_recall_19 : decode cX6_recall 19 = .ok (.invokevirtual 186, 3) := by decide +kernel
theorem dX6_recall_22 : decode cX6_recall 22 = .ok (.iconst 1, 1) := by decide +kernel
theorem dX6_recall_23 : decode cX6_recall 23 = .ok (.if_icmp .ne 12, 3) := by decide +kernel
theorem dX6_recall_26 : decode cX6_recall 26 = .ok (.aload_n 0, 1) := by decide +kernel
theorem dX6_recall_27 : decode cX6_recall 27 = .ok (.invokevirtual 189, 3) := by decide +kernel
theorem dX6_recall_30 : decode cX6_recall 30 = .ok (.bipush 6, 2) := by decide +kernel
theorem dX6_recall_32 : decode cX6_recall 32 = .ok (.if_icmp .lt 11, 3) := by decide +kernel
theorem dX6_recall_35 : decode cX6_recall 35 = .ok (.new 96, 3) := by decide +kernel
theorem dX6_recall_38 : decode cX6_recall 38 = .ok (.dup, 1) := by decide +kernel
theorem dX6_recall_39 : decode cX6_recall 39 = .ok (.invokespecial 98, 3) := by decide +kernel
theorem dX6_recall_42 : decode cX6_recall 42 = .ok (.athrow, 1) := by decide +kernel
theorem dX6_recall_43 : decode cX6_recall 43 = .ok (.aload_n 0, 1) := by decide +kernel
theorem dX6_recall_44 : decode cX6_recall 44 = .ok (.getfield 33, 3) := by decide +kernel
theorem dX6_recall_47 : decode cX6_recall 47 = .ok (.aload_n 0, 1) := by decide +kernel
theorem dX6_recall_48 : decode cX6_recall 48 = .ok (.getfield 92, 3) := by decide +kernel
theorem dX6_recall_51 : decode cX6_recall 51 = .ok (.iload_n 1, 1) := by decide +kernel
theorem dX6_recall_52 : decode cX6_recall 52 = .ok (.aload_n 0, 1) := by decide +kernel
theorem dX6_recall_53 : decode cX6_recall 53 = .ok (.invokevirtual 106, 3) := by decide +kernel
theorem dX6_recall_56 : decode cX6_recall 56 = .ok (.invokevirtual 192, 3) := by decide +kernel
theorem dX6_recall_59 : decode cX6_recall 59 = .ok (.aload_n 0, 1) := by decide +kernel
theorem dX6_recall_60 : decode cX6_recall 60 = .ok (.invokevirtual 195, 3) := by decide +kernel
theorem dX6_recall_63 : decode cX6_recall 63 = .ok (.ireturn, 1) := by decide +kernel
theorem dX6_termCount_0 : decode cX6_termCount 0 = .ok (.aload_n 0, 1) := by decide +kernel
theorem dX6_termCount_1 : decode cX6_termCount 1 = .ok (.getfield 10, 3) := by decide +kernel
theorem dX6_termCount_4 : decode cX6_termCount 4 = .ok (.getfield 198, 3) := by decide +kernel
theorem dX6_termCount_7 : decode cX6_termCount 7 = .ok (.ireturn, 1) := by decide +kernel
theorem dX6_kindOf_0 : decode cX6_kindOf 0 = .ok (.aload_n 0, 1) := by decide +kernel
theorem dX6_kindOf_1 : decode cX6_kindOf 1 = .ok (.iload_n 1, 1) := by decide +kernel
theorem dX6_kindOf_2 : decode cX6_kindOf 2 = .ok (.invokevirtual 129, 3) := by decide +kernel
theorem dX6_kindOf_5 : decode cX6_kindOf 5 = .ok (.aload_n 0, 1) := by decide +kernel
theorem dX6_kindOf_6 : decode cX6_kindOf 6 = .ok (.getfield 10, 3) := by decide +kernel
theorem dX6_kindOf_9 : decode cX6_kindOf 9 = .ok (.getfield 199, 3) := by decide +kernel
theorem dX6_kindOf_12 : decode cX6_kindOf 12 = .ok (.iload_n 1, 1) := by decide +kernel
theorem dX6_kindOf_13 : decode cX6_kindOf 13 = .ok (.iaload, 1) := by decide +kernel
theorem dX6_kindOf_14 : decode cX6_kindOf 14 = .ok (.ireturn, 1) := by decide +kernel
theorem dX6_isQuashed_0 : decode cX6_isQuashed 0 = .ok (.aload_n 0, 1) := by decide +kernel
theorem dX6_isQuashed_1 : decode cX6_isQuashed 1 = .ok (.iload_n 1, 1) := by decide +kernel
theorem dX6_isQuashed_2 : decode cX6_isQuashed 2 = .ok (.invokevirtual 129, 3) := by decide +kernel
theorem dX6_isQuashed_5 : decode cX6_isQuashed 5 = .ok (.aload_n 0, 1) := by decide +kernel
theorem dX6_isQuashed_6 : decode cX6_isQuashed 6 = .ok (.getfield 10, 3) := by decide +kernel
theorem dX6_isQuashed_9 : decode cX6_isQuashed 9 = .ok (.getfield 132, 3) := by decide +kernel
theorem dX6_isQuashed_12 : decode cX6_isQuashed 12 = .ok (.iload_n 1, 1) := by decide +kernel
theorem dX6_isQuashed_13 : decode cX6_isQuashed 13 = .ok (.baload, 1) := by decide +kernel
theorem dX6_isQuashed_14 : decode cX6_isQuashed 14 = .ok (.ireturn, 1) := by decide +kernel
theorem dX6_parentOf_0 : decode cX6_parentOf 0 = .ok (.aload_n 0, 1) := by decide +kernel
theorem dX6_parentOf_1 : decode cX6_parentOf 1 = .ok (.iload_n 1, 1) := by decide +kernel
theorem dX6_parentOf_2 : decode cX6_parentOf 2 = .ok (.invokevirtual 158, 3) := by decide +kernel
theorem dX6_parentOf_5 : decode cX6_parentOf 5 = .ok (.aload_n 0, 1) := by decide +kernel
theorem dX6_parentOf_6 : decode cX6_parentOf 6 = .ok (.getfield 10, 3) := by decide +kernel
theorem dX6_parentOf_9 : decode cX6_parentOf 9 = .ok (.getfield 202, 3) := by decide +kernel
theorem dX6_parentOf_12 : decode cX6_parentOf 12 = .ok (.iload_n 1, 1) := by decide +kernel
theorem dX6_parentOf_13 : decode cX6_parentOf 13 = .ok (.iaload, 1) := by decide +kernel
theorem dX6_parentOf_14 : decode cX6_parentOf 14 = .ok (.iconst (-1), 1) := by decide +kernel
theorem dX6_parentOf_15 : decode cX6_parentOf 15 = .ok (.if_icmp .ne 11, 3) := by decide +kernel
theorem dX6_parentOf_18 : decode cX6_parentOf 18 = .ok (.new 205, 3) := by decide +kernel
theorem dX6_parentOf_21 : decode cX6_parentOf 21 = .ok (.dup, 1) := by decide +kernel
theorem dX6_parentOf_22 : decode cX6_parentOf 22 = .ok (.invokespecial 207, 3) := by decide +kernel
theorem dX6_parentOf_25 : decode cX6_parentOf 25 = .ok (.athrow, 1) := by decide +kernel
theorem dX6_parentOf_26 : decode cX6_parentOf 26 = .ok (.aload_n 0, 1) := by decide +kernel
theorem dX6_parentOf_27 : decode cX6_parentOf 27 = .ok (.getfield 10, 3) := by decide +kernel
theorem dX6_parentOf_30 : decode cX6_parentOf 30 = .ok (.getfield 202, 3) := by decide +kernel
theorem dX6_parentOf_33 : decode cX6_parentOf 33 = .ok (.iload_n 1, 1) := by decide +kernel
theorem dX6_parentOf_34 : decode cX6_parentOf 34 = .ok (.iaload, 1) := by decide +kernel
theorem dX6_parentOf_35 : decode cX6_parentOf 35 = .ok (.ireturn, 1) := by decide +kernel
theorem dX6_chainLength_0 : decode cX6_chainLength 0 = .ok (.aload_n 0, 1) := by decide +kernel
theorem dX6_chainLength_1 : decode cX6_chainLength 1 = .ok (.iload_n 1, 1) := by decide +kernel
theorem dX6_chainLength_2 : decode cX6_chainLength 2 = .ok (.invokevirtual 158, 3) := by decide +kernel
theorem dX6_chainLength_5 : decode cX6_chainLength 5 = .ok (.aload_n 0, 1) := by decide +kernel
theorem dX6_chainLength_6 : decode cX6_chainLength 6 = .ok (.getfield 10, 3) := by decide +kernel
theorem dX6_chainLength_9 : decode cX6_chainLength 9 = .ok (.getfield 208, 3) := by decide +kernel
theorem dX6_chainLength_12 : decode cX6_chainLength 12 = .ok (.iload_n 1, 1) := by decide +kernel
theorem dX6_chainLength_13 : decode cX6_chainLength 13 = .ok (.iaload, 1) := by decide +kernel
theorem dX6_chainLength_14 : decode cX6_chainLength 14 = .ok (.invokestatic 211, 3) := by decide +kernel
theorem dX6_chainLength_17 : decode cX6_chainLength 17 = .ok (.ireturn, 1) := by decide +kernel
theorem dX6_descendants_0 : decode cX6_descendants 0 = .ok (.aload_n 0, 1) := by decide +kernel
theorem dX6_descendants_1 : decode cX6_descendants 1 = .ok (.iload_n 1, 1) := by decide +kernel
theorem dX6_descendants_2 : decode cX6_descendants 2 = .ok (.invokevirtual 158, 3) := by decide +kernel
theorem dX6_descendants_5 : decode cX6_descendants 5 = .ok (.iconst 0, 1) := by decide +kernel
theorem dX6_descendants_6 : decode cX6_descendants 6 = .ok (.istore_n 2, 1) := by decide +kernel
theorem dX6_descendants_7 : decode cX6_descendants 7 = .ok (.iconst 0, 1) := by decide +kernel
theorem dX6_descendants_8 : decode cX6_descendants 8 = .ok (.istore_n 3, 1) := by decide +kernel
theorem dX6_descendants_9 : decode cX6_descendants 9 = .ok (.iload_n 3, 1) := by decide +kernel
theorem dX6_descendants_10 : decode cX6_descendants 10 = .ok (.aload_n 0, 1) := by decide +kernel
theorem dX6_descendants_11 : decode cX6_descendants 11 = .ok (.getfield 10, 3) := by decide +kernel
theorem dX6_descendants_14 : decode cX6_descendants 14 = .ok (.getfield 198, 3) := by decide +kernel
theorem dX6_descendants_17 : decode cX6_descendants 17 = .ok (.if_icmp .ge 45, 3) := by decide +kernel
theorem dX6_descendants_20 : decode cX6_descendants 20 = .ok (.iload_n 3, 1) := by decide +kernel
theorem dX6_descendants_21 : decode cX6_descendants 21 = .ok (.iload_n 1, 1) := by decide +kernel
theorem dX6_descendants_22 : decode cX6_descendants 22 = .ok (.if_icmp .eq 34, 3) := by decide +kernel
theorem dX6_descendants_25 : decode cX6_descendants 25 = .ok (.aload_n 0, 1) := by decide +kernel
theorem dX6_descendants_26 : decode cX6_descendants 26 = .ok (.getfield 10, 3) := by decide +kernel
theorem dX6_descendants_29 : decode cX6_descendants 29 = .ok (.getfield 132, 3) := by decide +kernel
theorem dX6_descendants_32 : decode cX6_descendants 32 = .ok (.iload_n 3, 1) := by decide +kernel
theorem dX6_descendants_33 : decode cX6_descendants 33 = .ok (.baload, 1) := by decide +kernel
theorem dX6_descendants_34 : decode cX6_descendants 34 = .ok (.ifCond .ne 22, 3) := by decide +kernel
theorem dX6_descendants_37 : decode cX6_descendants 37 = .ok (.aload_n 0, 1) := by decide +kernel
theorem dX6_descendants_38 : decode cX6_descendants 38 = .ok (.getfield 10, 3) := by decide +kernel
theorem dX6_descendants_41 : decode cX6_descendants 41 = .ok (.getfield 208, 3) := by decide +kernel
theorem dX6_descendants_44 : decode cX6_descendants 44 = .ok (.iload_n 3, 1) := by decide +kernel
theorem dX6_descendants_45 : decode cX6_descendants 45 = .ok (.iaload, 1) := by decide +kernel
theorem dX6_descendants_46 : decode cX6_descendants 46 = .ok (.iconst 1, 1) := by decide +kernel
theorem dX6_descendants_47 : decode cX6_descendants 47 = .ok (.iload_n 1, 1) := by decide +kernel
theorem dX6_descendants_48 : decode cX6_descendants 48 = .ok (.ishl, 1) := by decide +kernel
theorem dX6_descendants_49 : decode cX6_descendants 49 = .ok (.iand, 1) := by decide +kernel
theorem dX6_descendants_50 : decode cX6_descendants 50 = .ok (.ifCond .eq 6, 3) := by decide +kernel
theorem dX6_descendants_53 : decode cX6_descendants 53 = .ok (.iinc 2 1, 3) := by decide +kernel
theorem dX6_descendants_56 : decode cX6_descendants 56 = .ok (.iinc 3 1, 3) := by decide +kernel
theorem dX6_descendants_59 : decode cX6_descendants 59 = .ok (.goto (-50), 3) := by decide +kernel
theorem dX6_descendants_62 : decode cX6_descendants 62 = .ok (.iload_n 2, 1) := by decide +kernel
theorem dX6_descendants_63 : decode cX6_descendants 63 = .ok (.ireturn, 1) := by decide +kernel
theorem dX6_start_0 : decode cX6_start 0 = .ok (.aload_n 0, 1) := by decide +kernel
theorem dX6_start_1 : decode cX6_start 1 = .ok (.iload_n 1, 1) := by decide +kernel
theorem dX6_start_2 : decode cX6_start 2 = .ok (.invokevirtual 158, 3) := by decide +kernel
theorem dX6_start_5 : decode cX6_start 5 = .ok (.aload_n 0, 1) := by decide +kernel
theorem dX6_start_6 : decode cX6_start 6 = .ok (.getfield 10, 3) := by decide +kernel
theorem dX6_start_9 : decode cX6_start 9 = .ok (.getfield 216, 3) := by decide +kernel
theorem dX6_start_12 : decode cX6_start 12 = .ok (.iload_n 1, 1) := by decide +kernel
theorem dX6_start_13 : decode cX6_start 13 = .ok (.iaload, 1) := by decide +kernel
theorem dX6_start_14 : decode cX6_start 14 = .ok (.ireturn, 1) := by decide +kernel
theorem dX6_length_0 : decode cX6_length 0 = .ok (.aload_n 0, 1) := by decide +kernel
theorem dX6_length_1 : decode cX6_length 1 = .ok (.iload_n 1, 1) := by decide +kernel
theorem dX6_length_2 : decode cX6_length 2 = .ok (.invokevirtual 158, 3) := by decide +kernel
theorem dX6_length_5 : decode cX6_length 5 = .ok (.aload_n 0, 1) := by decide +kernel
theorem dX6_length_6 : decode cX6_length 6 = .ok (.getfield 10, 3) := by decide +kernel
theorem dX6_length_9 : decode cX6_length 9 = .ok (.getfield 219, 3) := by decide +kernel
theorem dX6_length_12 : decode cX6_length 12 = .ok (.iload_n 1, 1) := by decide +kernel
theorem dX6_length_13 : decode cX6_length 13 = .ok (.iaload, 1) := by decide +kernel
theorem dX6_length_14 : decode cX6_length 14 = .ok (.ireturn, 1) := by decide +kernel
theorem dX6_totalLength_0 : decode cX6_totalLength 0 = .ok (.aload_n 0, 1) := by decide +kernel
theorem dX6_totalLength_1 : decode cX6_totalLength 1 = .ok (.iload_n 1, 1) := by decide +kernel
theorem dX6_totalLength_2 : decode cX6_totalLength 2 = .ok (.invokevirtual 158, 3) := by decide +kernel
theorem dX6_totalLength_5 : decode cX6_totalLength 5 = .ok (.aload_n 0, 1) := by decide +kernel
theorem dX6_totalLength_6 : decode cX6_totalLength 6 = .ok (.getfield 10, 3) := by decide +kernel
theorem dX6_totalLength_9 : decode cX6_totalLength 9 = .ok (.getfield 222, 3) := by decide +kernel
theorem dX6_totalLength_12 : decode cX6_totalLength 12 = .ok (.iload_n 1, 1) := by decide +kernel
theorem dX6_totalLength_13 : decode cX6_totalLength 13 = .ok (.iaload, 1) := by decide +kernel
theorem dX6_totalLength_14 : decode cX6_totalLength 14 = .ok (.ireturn, 1) := by decide +kernel
theorem dX6_custodialPart_0 : decode cX6_custodialPart 0 = .ok (.aload_n 0, 1) := by decide +kernel
theorem dX6_custodialPart_1 : decode cX6_custodialPart 1 = .ok (.iload_n 1, 1) := by decide +kernel
theorem dX6_custodialPart_2 : decode cX6_custodialPart 2 = .ok (.invokevirtual 158, 3) := by decide +kernel
theorem dX6_custodialPart_5 : decode cX6_custodialPart 5 = .ok (.aload_n 0, 1) := by decide +kernel
theorem dX6_custodialPart_6 : decode cX6_custodialPart 6 = .ok (.getfield 10, 3) := by decide +kernel
theorem dX6_custodialPart_9 : decode cX6_custodialPart 9 = .ok (.getfield 225, 3) := by decide +kernel
theorem dX6_custodialPart_12 : decode cX6_custodialPart 12 = .ok (.iload_n 1, 1) := by decide +kernel
theorem dX6_custodialPart_13 : decode cX6_custodialPart 13 = .ok (.iaload, 1) := by decide +kernel
theorem dX6_custodialPart_14 : decode cX6_custodialPart 14 = .ok (.ireturn, 1) := by decide +kernel
theorem dX6_credit_0 : decode cX6_credit 0 = .ok (.aload_n 0, 1) := by decide +kernel
theorem dX6_credit_1 : decode cX6_credit 1 = .ok (.iload_n 1, 1) := by decide +kernel
theorem dX6_credit_2 : decode cX6_credit 2 = .ok (.invokevirtual 158, 3) := by decide +kernel
theorem dX6_credit_5 : decode cX6_credit 5 = .ok (.aload_n 0, 1) := by decide +kernel
theorem dX6_credit_6 : decode cX6_credit 6 = .ok (.getfield 10, 3) := by decide +kernel
theorem dX6_credit_9 : decode cX6_credit 9 = .ok (.getfield 155, 3) := by decide +kernel
theorem dX6_credit_12 : decode cX6_credit 12 = .ok (.iload_n 1, 1) := by decide +kernel
theorem dX6_credit_13 : decode cX6_credit 13 = .ok (.iaload, 1) := by decide +kernel
theorem dX6_credit_14 : decode cX6_credit 14 = .ok (.ireturn, 1) := by decide +kernel
theorem dX6_creditByMerging_0 : decode cX6_creditByMerging 0 = .ok (.aload_n 0, 1) := by decide +kernel
theorem dX6_creditByMerging_1 : decode cX6_creditByMerging 1 = .ok (.iload_n 1, 1) := by decide +kernel
theorem dX6_creditByMerging_2 : decode cX6_creditByMerging 2 = .ok (.invokevirtual 158, 3) := by decide +kernel
theorem dX6_creditByMerging_5 : decode cX6_creditByMerging 5 = .ok (.aload_n 0, 1) := by decide +kernel
theorem dX6_creditByMerging_6 : decode cX6_creditByMerging 6 = .ok (.iload_n 1, 1) := by decide +kernel
theorem dX6_creditByMerging_7 : decode cX6_creditByMerging 7 = .ok (.invokevirtual 228, 3) := by decide +kernel
theorem dX6_creditByMerging_10 : decode cX6_creditByMerging 10 = .ok (.ireturn, 1) := by decide +kernel
theorem dX6_addedDays_0 : decode cX6_addedDays 0 = .ok (.aload_n 0, 1) := by decide +kernel
theorem dX6_addedDays_1 : decode cX6_addedDays 1 = .ok (.iload_n 1, 1) := by decide +kernel
theorem dX6_addedDays_2 : decode cX6_addedDays 2 = .ok (.invokevirtual 158, 3) := by decide +kernel
theorem dX6_addedDays_5 : decode cX6_addedDays 5 = .ok (.aload_n 0, 1) := by decide +kernel
theorem dX6_addedDays_6 : decode cX6_addedDays 6 = .ok (.getfield 26, 3) := by decide +kernel
theorem dX6_addedDays_9 : decode cX6_addedDays 9 = .ok (.aload_n 0, 1) := by decide +kernel
theorem dX6_addedDays_10 : decode cX6_addedDays 10 = .ok (.getfield 10, 3) := by decide +kernel
theorem dX6_addedDays_13 : decode cX6_addedDays 13 = .ok (.getfield 208, 3) := by decide +kernel
theorem dX6_addedDays_16 : decode cX6_addedDays 16 = .ok (.iload_n 1, 1) := by decide +kernel
theorem dX6_addedDays_17 : decode cX6_addedDays 17 = .ok (.iaload, 1) := by decide +kernel
theorem dX6_addedDays_18 : decode cX6_addedDays 18 = .ok (.invokevirtual 231, 3) := by decide +kernel
theorem dX6_addedDays_21 : decode cX6_addedDays 21 = .ok (.ireturn, 1) := by decide +kernel
theorem dX6_releaseDay_0 : decode cX6_releaseDay 0 = .ok (.aload_n 0, 1) := by decide +kernel
theorem dX6_releaseDay_1 : decode cX6_releaseDay 1 = .ok (.iload_n 1, 1) := by decide +kernel
theorem dX6_releaseDay_2 : decode cX6_releaseDay 2 = .ok (.invokevirtual 158, 3) := by decide +kernel
theorem dX6_releaseDay_5 : decode cX6_releaseDay 5 = .ok (.aload_n 0, 1) := by decide +kernel
theorem dX6_releaseDay_6 : decode cX6_releaseDay 6 = .ok (.iload_n 1, 1) := by decide +kernel
theorem dX6_releaseDay_7 : decode cX6_releaseDay 7 = .ok (.invokevirtual 136, 3) := by decide +kernel
theorem dX6_releaseDay_10 : decode cX6_releaseDay 10 = .ok (.ireturn, 1) := by decide +kernel
theorem dX6_releaseDayByServing_0 : decode cX6_releaseDayByServing 0 = .ok (.aload_n 0, 1) := by decide +kernel
theorem dX6_releaseDayByServing_1 : decode cX6_releaseDayByServing 1 = .ok (.iload_n 1, 1) := by decide +kernel
theorem dX6_releaseDayByServing_2 : decode cX6_releaseDayByServing 2 = .ok (.invokevirtual 158, 3) := by decide +kernel
theorem dX6_releaseDayByServing_5 : decode cX6_releaseDayByServing 5 = .ok (.aload_n 0, 1) := by decide +kernel
theorem dX6_releaseDayByServing_6 : decode cX6_releaseDayByServing 6 = .ok (.iload_n 1, 1) := by decide +kernel
theorem dX6_releaseDayByServing_7 : decode cX6_releaseDayByServing 7 = .ok (.invokevirtual 234, 3) := by decide +kernel
theorem dX6_releaseDayByServing_10 : decode cX6_releaseDayByServing 10 = .ok (.ireturn, 1) := by decide +kernel
theorem dX6_endDay_0 : decode cX6_endDay 0 = .ok (.aload_n 0, 1) := by decide +kernel
theorem dX6_endDay_1 : decode cX6_endDay 1 = .ok (.iload_n 1, 1) := by decide +kernel
theorem dX6_endDay_2 : decode cX6_endDay 2 = .ok (.invokevirtual 158, 3) := by decide +kernel
theorem dX6_endDay_5 : decode cX6_endDay 5 = .ok (.aload_n 0, 1) := by decide +kernel
theorem dX6_endDay_6 : decode cX6_endDay 6 = .ok (.getfield 10, 3) := by decide +kernel
theorem dX6_endDay_9 : decode cX6_endDay 9 = .ok (.iload_n 1, 1) := by decide +kernel
theorem dX6_endDay_10 : decode cX6_endDay 10 = .ok (.invokevirtual 237, 3) := by decide +kernel
theorem dX6_endDay_13 : decode cX6_endDay 13 = .ok (.ireturn, 1) := by decide +kernel
theorem dX6_status_0 : decode cX6_status 0 = .ok (.aload_n 0, 1) := by decide +kernel
theorem dX6_status_1 : decode cX6_status 1 = .ok (.invokevirtual 186, 3) := by decide +kernel
theorem dX6_status_4 : decode cX6_status 4 = .ok (.ireturn, 1) := by decide +kernel
theorem dX6_lastRelease_0 : decode cX6_lastRelease 0 = .ok (.aload_n 0, 1) := by decide +kernel
theorem dX6_lastRelease_1 : decode cX6_lastRelease 1 = .ok (.invokevirtual 240, 3) := by decide +kernel
theorem dX6_lastRelease_4 : decode cX6_lastRelease 4 = .ok (.aload_n 0, 1) := by decide +kernel
theorem dX6_lastRelease_5 : decode cX6_lastRelease 5 = .ok (.iconst 0, 1) := by decide +kernel
theorem dX6_lastRelease_6 : decode cX6_lastRelease 6 = .ok (.iconst 0, 1) := by decide +kernel
theorem dX6_lastRelease_7 : decode cX6_lastRelease 7 = .ok (.invokevirtual 243, 3) := by decide +kernel
theorem dX6_lastRelease_10 : decode cX6_lastRelease 10 = .ok (.ireturn, 1) := by decide +kernel
theorem dX6_lastEnd_0 : decode cX6_lastEnd 0 = .ok (.aload_n 0, 1) := by decide +kernel
theorem dX6_lastEnd_1 : decode cX6_lastEnd 1 = .ok (.invokevirtual 240, 3) := by decide +kernel
theorem dX6_lastEnd_4 : decode cX6_lastEnd 4 = .ok (.aload_n 0, 1) := by decide +kernel
theorem dX6_lastEnd_5 : decode cX6_lastEnd 5 = .ok (.invokevirtual 106, 3) := by decide +kernel
theorem dX6_lastEnd_8 : decode cX6_lastEnd 8 = .ok (.ireturn, 1) := by decide +kernel
theorem dX6_decidingTerm_0 : decode cX6_decidingTerm 0 = .ok (.aload_n 0, 1) := by decide +kernel
theorem dX6_decidingTerm_1 : decode cX6_decidingTerm 1 = .ok (.invokevirtual 240, 3) := by decide +kernel
theorem dX6_decidingTerm_4 : decode cX6_decidingTerm 4 = .ok (.iconst (-1), 1) := by decide +kernel
theorem dX6_decidingTerm_5 : decode cX6_decidingTerm 5 = .ok (.istore_n 1, 1) := by decide +kernel
theorem dX6_decidingTerm_6 : decode cX6_decidingTerm 6 = .ok (.iconst (-1), 1) := by decide +kernel
theorem dX6_decidingTerm_7 : decode cX6_decidingTerm 7 = .ok (.istore_n 2, 1) := by decide +kernel
theorem dX6_decidingTerm_8 : decode cX6_decidingTerm 8 = .ok (.iconst 0, 1) := by decide +kernel
theorem dX6_decidingTerm_9 : decode cX6_decidingTerm 9 = .ok (.istore_n 3, 1) := by decide +kernel
theorem dX6_decidingTerm_10 : decode cX6_decidingTerm 10 = .ok (.iload_n 3, 1) := by decide +kernel
theorem dX6_decidingTerm_11 : decode cX6_decidingTerm 11 = .ok (.aload_n 0, 1) := by decide +kernel
theorem dX6_decidingTerm_12 : decode cX6_decidingTerm 12 = .ok (.getfield 10, 3) := by decide +kernel
theorem dX6_decidingTerm_15 : decode cX6_decidingTerm 15 = .ok (.getfield 198, 3) := by decide +kernel
theorem dX6_decidingTerm_18 : decode cX6_decidingTerm 18 = .ok (.if_icmp .ge 38, 3) := by decide +kernel
theorem dX6_decidingTerm_21 : decode cX6_decidingTerm 21 = .ok (.aload_n 0, 1) := by decide +kernel
theorem dX6_decidingTerm_22 : decode cX6_decidingTerm 22 = .ok (.getfield 10, 3) := by decide +kernel
theorem dX6_decidingTerm_25 : decode cX6_decidingTerm 25 = .ok (.getfield 132, 3) := by decide +kernel
theorem dX6_decidingTerm_28 : decode cX6_decidingTerm 28 = .ok (.iload_n 3, 1) := by decide +kernel
theorem dX6_decidingTerm_29 : decode cX6_decidingTerm 29 = .ok (.baload, 1) := by decide +kernel
theorem dX6_decidingTerm_30 : decode cX6_decidingTerm 30 = .ok (.ifCond .ne 20, 3) := by decide +kernel
theorem dX6_decidingTerm_33 : decode cX6_decidingTerm 33 = .ok (.aload_n 0, 1) := by decide +kernel
theorem dX6_decidingTerm_34 : decode cX6_decidingTerm 34 = .ok (.iload_n 3, 1) := by decide +kernel
theorem dX6_decidingTerm_35 : decode cX6_decidingTerm 35 = .ok (.invokevirtual 136, 3) := by decide +kernel
theorem dX6_decidingTerm_38 : decode cX6_decidingTerm 38 = .ok (.iload_n 2, 1) := by decide +kernel
theorem dX6_decidingTerm_39 : decode cX6_decidingTerm 39 = .ok (.if_icmp .le 11, 3) := by decide +kernel
theorem dX6_decidingTerm_42 : decode cX6_decidingTerm 42 = .ok (.aload_n 0, 1) := by decide +kernel
theorem dX6_decidingTerm_43 : decode cX6_decidingTerm 43 = .ok (.iload_n 3, 1) := by decide +kernel
theorem dX6_decidingTerm_44 : decode cX6_decidingTerm 44 = .ok (.invokevirtual 136, 3) := by decide +kernel
theorem dX6_decidingTerm_47 : decode cX6_decidingTerm 47 = .ok (.istore_n 2, 1) := by decide +kernel
theorem dX6_decidingTerm_48 : decode cX6_decidingTerm 48 = .ok (.iload_n 3, 1) := by decide +kernel
theorem dX6_decidingTerm_49 : decode cX6_decidingTerm 49 = .ok (.istore_n 1, 1) := by decide +kernel
theorem dX6_decidingTerm_50 : decode cX6_decidingTerm 50 = .ok (.iinc 3 1, 3) := by decide +kernel
theorem dX6_decidingTerm_53 : decode cX6_decidingTerm 53 = .ok (.goto (-43), 3) := by decide +kernel
theorem dX6_decidingTerm_56 : decode cX6_decidingTerm 56 = .ok (.iload_n 1, 1) := by decide +kernel
theorem dX6_decidingTerm_57 : decode cX6_decidingTerm 57 = .ok (.ireturn, 1) := by decide +kernel
theorem dX6_termByRelease_0 : decode cX6_termByRelease 0 = .ok (.iconst 0, 1) := by decide +kernel
theorem dX6_termByRelease_1 : decode cX6_termByRelease 1 = .ok (.istore_n 2, 1) := by decide +kernel
theorem dX6_termByRelease_2 : decode cX6_termByRelease 2 = .ok (.iload_n 2, 1) := by decide +kernel
theorem dX6_termByRelease_3 : decode cX6_termByRelease 3 = .ok (.aload_n 0, 1) := by decide +kernel
theorem dX6_termByRelease_4 : decode cX6_termByRelease 4 = .ok (.getfield 10, 3) := by decide +kernel
theorem dX6_termByRelease_7 : decode cX6_termByRelease 7 = .ok (.getfield 198, 3) := by decide +kernel
theorem dX6_termByRelease_10 : decode cX6_termByRelease 10 = .ok (.if_icmp .ge 32, 3) := by decide +kernel
theorem dX6_termByRelease_13 : decode cX6_termByRelease 13 = .ok (.aload_n 0, 1) := by decide +kernel
theorem dX6_termByRelease_14 : decode cX6_termByRelease 14 = .ok (.getfield 10, 3) := by decide +kernel
theorem dX6_termByRelease_17 : decode cX6_termByRelease 17 = .ok (.getfield 132, 3) := by decide +kernel
theorem dX6_termByRelease_20 : decode cX6_termByRelease 20 = .ok (.iload_n 2, 1) := by decide +kernel
theorem dX6_termByRelease_21 : decode cX6_termByRelease 21 = .ok (.baload, 1) := by decide +kernel
theorem dX6_termByRelease_22 : decode cX6_termByRelease 22 = .ok (.ifCond .ne 14, 3) := by decide +kernel
theorem dX6_termByRelease_25 : decode cX6_termByRelease 25 = .ok (.aload_n 0, 1) := by decide +kernel
theorem dX6_termByRelease_26 : decode cX6_termByRelease 26 = .ok (.iload_n 2, 1) := by decide +kernel
theorem dX6_termByRelease_27 : decode cX6_termByRelease 27 = .ok (.invokevirtual 246, 3) := by decide +kernel
theorem dX6_termByRelease_30 : decode cX6_termByRelease 30 = .ok (.iload_n 1, 1) := by decide +kernel
theorem dX6_termByRelease_31 : decode cX6_termByRelease 31 = .ok (.if_icmp .ne 5, 3) := by decide +kernel
theorem dX6_termByRelease_34 : decode cX6_termByRelease 34 = .ok (.iload_n 2, 1) := by decide +kernel
theorem dX6_termByRelease_35 : decode cX6_termByRelease 35 = .ok (.ireturn, 1) := by decide +kernel
theorem dX6_termByRelease_36 : decode cX6_termByRelease 36 = .ok (.iinc 2 1, 3) := by decide +kernel
theorem dX6_termByRelease_39 : decode cX6_termByRelease 39 = .ok (.goto (-37), 3) := by decide +kernel
theorem dX6_termByRelease_42 : decode cX6_termByRelease 42 = .ok (.new 249, 3) := by decide +kernel
theorem dX6_termByRelease_45 : decode cX6_termByRelease 45 = .ok (.dup, 1) := by decide +kernel
theorem dX6_termByRelease_46 : decode cX6_termByRelease 46 = .ok (.invokespecial 251, 3) := by decide +kernel
theorem dX6_termByRelease_49 : decode cX6_termByRelease 49 = .ok (.athrow, 1) := by decide +kernel
theorem dX6_daysInCustodyLeft_0 : decode cX6_daysInCustodyLeft 0 = .ok (.aload_n 0, 1) := by decide +kernel
theorem dX6_daysInCustodyLeft_1 : decode cX6_daysInCustodyLeft 1 = .ok (.invokevirtual 99, 3) := by decide +kernel
theorem dX6_daysInCustodyLeft_4 : decode cX6_daysInCustodyLeft 4 = .ok (.aload_n 0, 1) := by decide +kernel
theorem dX6_daysInCustodyLeft_5 : decode cX6_daysInCustodyLeft 5 = .ok (.getfield 92, 3) := by decide +kernel
theorem dX6_daysInCustodyLeft_8 : decode cX6_daysInCustodyLeft 8 = .ok (.isub, 1) := by decide +kernel
theorem dX6_daysInCustodyLeft_9 : decode cX6_daysInCustodyLeft 9 = .ok (.iconst 0, 1) := by decide +kernel
theorem dX6_daysInCustodyLeft_10 : decode cX6_daysInCustodyLeft 10 = .ok (.invokestatic 252, 3) := by decide +kernel
theorem dX6_daysInCustodyLeft_13 : decode cX6_daysInCustodyLeft 13 = .ok (.ireturn, 1) := by decide +kernel
theorem dX6_recallCount_0 : decode cX6_recallCount 0 = .ok (.aload_n 0, 1) := by decide +kernel
theorem dX6_recallCount_1 : decode cX6_recallCount 1 = .ok (.invokevirtual 189, 3) := by decide +kernel
theorem dX6_recallCount_4 : decode cX6_recallCount 4 = .ok (.ireturn, 1) := by decide +kernel
theorem dX6_recallEnd_0 : decode cX6_recallEnd 0 = .ok (.aload_n 0, 1) := by decide +kernel
theorem dX6_recallEnd_1 : decode cX6_recallEnd 1 = .ok (.invokevirtual 168, 3) := by decide +kernel
theorem dX6_recallEnd_4 : decode cX6_recallEnd 4 = .ok (.ifCond .ne 11, 3) := by decide +kernel
theorem dX6_recallEnd_7 : decode cX6_recallEnd 7 = .ok (.new 205, 3) := by decide +kernel
theorem dX6_recallEnd_10 : decode cX6_recallEnd 10 = .ok (.dup, 1) := by decide +kernel
theorem dX6_recallEnd_11 : decode cX6_recallEnd 11 = .ok (.invokespecial 207, 3) := by decide +kernel
theorem dX6_recallEnd_14 : decode cX6_recallEnd 14 = .ok (.athrow, 1) := by decide +kernel
theorem dX6_recallEnd_15 : decode cX6_recallEnd 15 = .ok (.aload_n 0, 1) := by decide +kernel
theorem dX6_recallEnd_16 : decode cX6_recallEnd 16 = .ok (.invokevirtual 195, 3) := by decide +kernel
theorem dX6_recallEnd_19 : decode cX6_recallEnd 19 = .ok (.ireturn, 1) := by decide +kernel
theorem dX6_awardDays_0 : decode cX6_awardDays 0 = .ok (.aload_n 0, 1) := by decide +kernel
theorem dX6_awardDays_1 : decode cX6_awardDays 1 = .ok (.iload_n 1, 1) := by decide +kernel
theorem dX6_awardDays_2 : decode cX6_awardDays 2 = .ok (.invokevirtual 180, 3) := by decide +kernel
theorem dX6_awardDays_5 : decode cX6_awardDays 5 = .ok (.aload_n 0, 1) := by decide +kernel
theorem dX6_awardDays_6 : decode cX6_awardDays 6 = .ok (.getfield 26, 3) := by decide +kernel
theorem dX6_awardDays_9 : decode cX6_awardDays 9 = .ok (.getfield 183, 3) := by decide +kernel
theorem dX6_awardDays_12 : decode cX6_awardDays 12 = .ok (.iload_n 1, 1) := by decide +kernel
theorem dX6_awardDays_13 : decode cX6_awardDays 13 = .ok (.iaload, 1) := by decide +kernel
theorem dX6_awardDays_14 : decode cX6_awardDays 14 = .ok (.ireturn, 1) := by decide +kernel
theorem dX6_concerns_0 : decode cX6_concerns 0 = .ok (.aload_n 0, 1) := by decide +kernel
theorem dX6_concerns_1 : decode cX6_concerns 1 = .ok (.iload_n 1, 1) := by decide +kernel
theorem dX6_concerns_2 : decode cX6_concerns 2 = .ok (.invokevirtual 180, 3) := by decide +kernel
theorem dX6_concerns_5 : decode cX6_concerns 5 = .ok (.aload_n 0, 1) := by decide +kernel
theorem dX6_concerns_6 : decode cX6_concerns 6 = .ok (.iload_n 2, 1) := by decide +kernel
theorem dX6_concerns_7 : decode cX6_concerns 7 = .ok (.invokevirtual 129, 3) := by decide +kernel
theorem dX6_concerns_10 : decode cX6_concerns 10 = .ok (.aload_n 0, 1) := by decide +kernel
theorem dX6_concerns_11 : decode cX6_concerns 11 = .ok (.getfield 26, 3) := by decide +kernel
theorem dX6_concerns_14 : decode cX6_concerns 14 = .ok (.getfield 257, 3) := by decide +kernel
theorem dX6_concerns_17 : decode cX6_concerns 17 = .ok (.iload_n 1, 1) := by decide +kernel
theorem dX6_concerns_18 : decode cX6_concerns 18 = .ok (.iaload, 1) := by decide +kernel
theorem dX6_concerns_19 : decode cX6_concerns 19 = .ok (.iconst 1, 1) := by decide +kernel
theorem dX6_concerns_20 : decode cX6_concerns 20 = .ok (.iload_n 2, 1) := by decide +kernel
theorem dX6_concerns_21 : decode cX6_concerns 21 = .ok (.ishl, 1) := by decide +kernel
theorem dX6_concerns_22 : decode cX6_concerns 22 = .ok (.iand, 1) := by decide +kernel
theorem dX6_concerns_23 : decode cX6_concerns 23 = .ok (.ifCond .eq 7, 3) := by decide +kernel
theorem dX6_concerns_26 : decode cX6_concerns 26 = .ok (.iconst 1, 1) := by decide +kernel
theorem dX6_concerns_27 : decode cX6_concerns 27 = .ok (.goto 4, 3) := by decide +kernel
theorem dX6_concerns_30 : decode cX6_concerns 30 = .ok (.iconst 0, 1) := by decide +kernel
theorem dX6_concerns_31 : decode cX6_concerns 31 = .ok (.ireturn, 1) := by decide +kernel
theorem dX6_lastReleaseWithAward_0 : decode cX6_lastReleaseWithAward 0 = .ok (.iload_n 1, 1) := by decide +kernel
theorem dX6_lastReleaseWithAward_1 : decode cX6_lastReleaseWithAward 1 = .ok (.invokestatic 164, 3) := by decide +kernel
theorem dX6_lastReleaseWithAward_4 : decode cX6_lastReleaseWithAward 4 = .ok (.aload_n 0, 1) := by decide +kernel
theorem dX6_lastReleaseWithAward_5 : decode cX6_lastReleaseWithAward 5 = .ok (.invokevirtual 99, 3) := by decide +kernel
theorem dX6_lastReleaseWithAward_8 : decode cX6_lastReleaseWithAward 8 = .ok (.aload_n 0, 1) := by decide +kernel
theorem dX6_lastReleaseWithAward_9 : decode cX6_lastReleaseWithAward 9 = .ok (.getfield 92, 3) := by decide +kernel
theorem dX6_lastReleaseWithAward_12 : decode cX6_lastReleaseWithAward 12 = .ok (.if_icmp .gt 11, 3) := by decide +kernel
theorem dX6_lastReleaseWithAward_15 : decode cX6_lastReleaseWithAward 15 = .ok (.new 96, 3) := by decide +kernel
theorem dX6_lastReleaseWithAward_18 : decode cX6_lastReleaseWithAward 18 = .ok (.dup, 1) := by decide +kernel
theorem dX6_lastReleaseWithAward_19 : decode cX6_lastReleaseWithAward 19 = .ok (.invokespecial 98, 3) := by decide +kernel
theorem dX6_lastReleaseWithAward_22 : decode cX6_lastReleaseWithAward 22 = .ok (.athrow, 1) := by decide +kernel
theorem dX6_lastReleaseWithAward_23 : decode cX6_lastReleaseWithAward 23 = .ok (.aload_n 0, 1) := by decide +kernel
theorem dX6_lastReleaseWithAward_24 : decode cX6_lastReleaseWithAward 24 = .ok (.aload_n 0, 1) := by decide +kernel
theorem dX6_lastReleaseWithAward_25 : decode cX6_lastReleaseWithAward 25 = .ok (.invokevirtual 175, 3) := by decide +kernel
theorem dX6_lastReleaseWithAward_28 : decode cX6_lastReleaseWithAward 28 = .ok (.iload_n 1, 1) := by decide +kernel
theorem dX6_lastReleaseWithAward_29 : decode cX6_lastReleaseWithAward 29 = .ok (.invokevirtual 243, 3) := by decide +kernel
theorem dX6_lastReleaseWithAward_32 : decode cX6_lastReleaseWithAward 32 = .ok (.ireturn, 1) := by decide +kernel
theorem dX6_lastReleaseWithout_0 : decode cX6_lastReleaseWithout 0 = .ok (.aload_n 0, 1) := by decide +kernel
theorem dX6_lastReleaseWithout_1 : decode cX6_lastReleaseWithout 1 = .ok (.iload_n 1, 1) := by decide +kernel
theorem dX6_lastReleaseWithout_2 : decode cX6_lastReleaseWithout 2 = .ok (.invokevirtual 158, 3) := by decide +kernel
theorem dX6_lastReleaseWithout_5 : decode cX6_lastReleaseWithout 5 = .ok (.aload_n 0, 1) := by decide +kernel
theorem dX6_lastReleaseWithout_6 : decode cX6_lastReleaseWithout 6 = .ok (.getfield 10, 3) := by decide +kernel
theorem dX6_lastReleaseWithout_9 : decode cX6_lastReleaseWithout 9 = .ok (.invokevirtual 260, 3) := by decide +kernel
theorem dX6_lastReleaseWithout_12 : decode cX6_lastReleaseWithout 12 = .ok (.iconst 2, 1) := by decide +kernel
theorem dX6_lastReleaseWithout_13 : decode cX6_lastReleaseWithout 13 = .ok (.if_icmp .ge 11, 3) := by decide +kernel
theorem dX6_lastReleaseWithout_16 : decode cX6_lastReleaseWithout 16 = .ok (.new 205, 3) := by decide +kernel
theorem dX6_lastReleaseWithout_19 : decode cX6_lastReleaseWithout 19 = .ok (.dup, 1) := by decide +kernel
theorem dX6_lastReleaseWithout_20 : decode cX6_lastReleaseWithout 20 = .ok (.invokespecial 207, 3) := by decide +kernel
theorem dX6_lastReleaseWithout_23 : decode cX6_lastReleaseWithout 23 = .ok (.athrow, 1) := by decide +kernel
theorem dX6_lastReleaseWithout_24 : decode cX6_lastReleaseWithout 24 = .ok (.aload_n 0, 1) := by decide +kernel
theorem dX6_lastReleaseWithout_25 : decode cX6_lastReleaseWithout 25 = .ok (.getfield 10, 3) := by decide +kernel
theorem dX6_lastReleaseWithout_28 : decode cX6_lastReleaseWithout 28 = .ok (.invokevirtual 263, 3) := by decide +kernel
theorem dX6_lastReleaseWithout_31 : decode cX6_lastReleaseWithout 31 = .ok (.aload_n 0, 1) := by decide +kernel
theorem dX6_lastReleaseWithout_32 : decode cX6_lastReleaseWithout 32 = .ok (.getfield 10, 3) := by decide +kernel
theorem dX6_lastReleaseWithout_35 : decode cX6_lastReleaseWithout 35 = .ok (.iload_n 1, 1) := by decide +kernel
theorem dX6_lastReleaseWithout_36 : decode cX6_lastReleaseWithout 36 = .ok (.invokevirtual 161, 3) := by decide +kernel
theorem dX6_lastReleaseWithout_39 : decode cX6_lastReleaseWithout 39 = .ok (.pop, 1) := by decide +kernel
theorem dX6_lastReleaseWithout_40 : decode cX6_lastReleaseWithout 40 = .ok (.aload_n 0, 1) := by decide +kernel
theorem dX6_lastReleaseWithout_41 : decode cX6_lastReleaseWithout 41 = .ok (.invokevirtual 149, 3) := by decide +kernel
theorem dX6_lastReleaseWithout_44 : decode cX6_lastReleaseWithout 44 = .ok (.aload_n 0, 1) := by decide +kernel
theorem dX6_lastReleaseWithout_45 : decode cX6_lastReleaseWithout 45 = .ok (.iconst 0, 1) := by decide +kernel
theorem dX6_lastReleaseWithout_46 : decode cX6_lastReleaseWithout 46 = .ok (.iconst 0, 1) := by decide +kernel
theorem dX6_lastReleaseWithout_47 : decode cX6_lastReleaseWithout 47 = .ok (.invokevirtual 243, 3) := by decide +kernel
theorem dX6_lastReleaseWithout_50 : decode cX6_lastReleaseWithout 50 = .ok (.istore_n 2, 1) := by decide +kernel
theorem dX6_lastReleaseWithout_51 : decode cX6_lastReleaseWithout 51 = .ok (.aload_n 0, 1) := by decide +kernel
theorem dX6_lastReleaseWithout_52 : decode cX6_lastReleaseWithout 52 = .ok (.getfield 10, 3) := by decide +kernel
theorem dX6_lastReleaseWithout_55 : decode cX6_lastReleaseWithout 55 = .ok (.iload_n 1, 1) := by decide +kernel
theorem dX6_lastReleaseWithout_56 : decode cX6_lastReleaseWithout 56 = .ok (.invokevirtual 266, 3) := by decide +kernel
theorem dX6_lastReleaseWithout_59 : decode cX6_lastReleaseWithout 59 = .ok (.aload_n 0, 1) := by decide +kernel
theorem dX6_lastReleaseWithout_60 : decode cX6_lastReleaseWithout 60 = .ok (.invokevirtual 149, 3) := by decide +kernel
theorem dX6_lastReleaseWithout_63 : decode cX6_lastReleaseWithout 63 = .ok (.iload_n 2, 1) := by decide +kernel
theorem dX6_lastReleaseWithout_64 : decode cX6_lastReleaseWithout 64 = .ok (.ireturn, 1) := by decide +kernel
theorem dX6_servedDays_0 : decode cX6_servedDays 0 = .ok (.aload_n 0, 1) := by decide +kernel
theorem dX6_servedDays_1 : decode cX6_servedDays 1 = .ok (.getfield 113, 3) := by decide +kernel
theorem dX6_servedDays_4 : decode cX6_servedDays 4 = .ok (.ireturn, 1) := by decide +kernel
theorem dX6_licenceDays_0 : decode cX6_licenceDays 0 = .ok (.aload_n 0, 1) := by decide +kernel
theorem dX6_licenceDays_1 : decode cX6_licenceDays 1 = .ok (.getfield 116, 3) := by decide +kernel
theorem dX6_licenceDays_4 : decode cX6_licenceDays 4 = .ok (.ireturn, 1) := by decide +kernel
theorem dX6_statusOn_0 : decode cX6_statusOn 0 = .ok (.iload_n 1, 1) := by decide +kernel
theorem dX6_statusOn_1 : decode cX6_statusOn 1 = .ok (.ifCond .lt 11, 3) := by decide +kernel
theorem dX6_statusOn_4 : decode cX6_statusOn 4 = .ok (.iload_n 1, 1) := by decide +kernel
theorem dX6_statusOn_5 : decode cX6_statusOn 5 = .ok (.aload_n 0, 1) := by decide +kernel
theorem dX6_statusOn_6 : decode cX6_statusOn 6 = .ok (.getfield 92, 3) := by decide +kernel
theorem dX6_statusOn_9 : decode cX6_statusOn 9 = .ok (.if_icmp .lt 11, 3) := by decide +kernel
theorem dX6_statusOn_12 : decode cX6_statusOn 12 = .ok (.new 84, 3) := by decide +kernel
theorem dX6_statusOn_15 : decode cX6_statusOn 15 = .ok (.dup, 1) := by decide +kernel
theorem dX6_statusOn_16 : decode cX6_statusOn 16 = .ok (.invokespecial 86, 3) := by decide +kernel
theorem dX6_statusOn_19 : decode cX6_statusOn 19 = .ok (.athrow, 1) := by decide +kernel
theorem dX6_statusOn_20 : decode cX6_statusOn 20 = .ok (.aload_n 0, 1) := by decide +kernel
theorem dX6_statusOn_21 : decode cX6_statusOn 21 = .ok (.iload_n 1, 1) := by decide +kernel
theorem dX6_statusOn_22 : decode cX6_statusOn 22 = .ok (.invokevirtual 269, 3) := by decide +kernel
theorem dX6_statusOn_25 : decode cX6_statusOn 25 = .ok (.ireturn, 1) := by decide +kernel
theorem dX6_writeHistory_0 : decode cX6_writeHistory 0 = .ok (.aload_n 0, 1) := by decide +kernel
theorem dX6_writeHistory_1 : decode cX6_writeHistory 1 = .ok (.getfield 53, 3) := by decide +kernel
theorem dX6_writeHistory_4 : decode cX6_writeHistory 4 = .ok (.iconst 0, 1) := by decide +kernel
theorem dX6_writeHistory_5 : decode cX6_writeHistory 5 = .ok (.invokevirtual 272, 3) := by decide +kernel
theorem dX6_writeHistory_8 : decode cX6_writeHistory 8 = .ok (.iconst 0, 1) := by decide +kernel
theorem dX6_writeHistory_9 : decode cX6_writeHistory 9 = .ok (.istore_n 1, 1) := by decide +kernel
theorem dX6_writeHistory_10 : decode cX6_writeHistory 10 = .ok (.iconst 0, 1) := by decide +kernel
theorem dX6_writeHistory_11 : decode cX6_writeHistory 11 = .ok (.istore_n 2, 1) := by decide +kernel
theorem dX6_writeHistory_12 : decode cX6_writeHistory 12 = .ok (.iconst 0, 1) := by decide +kernel
theorem dX6_writeHistory_13 : decode cX6_writeHistory 13 = .ok (.istore_n 3, 1) := by decide +kernel
theorem dX6_writeHistory_14 : decode cX6_writeHistory 14 = .ok (.iload_n 3, 1) := by decide +kernel
theorem dX6_writeHistory_15 : decode cX6_writeHistory 15 = .ok (.aload_n 0, 1) := by decide +kernel
theorem dX6_writeHistory_16 : decode cX6_writeHistory 16 = .ok (.getfield 92, 3) := by decide +kernel
theorem dX6_writeHistory_19 : decode cX6_writeHistory 19 = .ok (.if_icmp .ge 40, 3) := by decide +kernel
theorem dX6_writeHistory_22 : decode cX6_writeHistory 22 = .ok (.aload_n 0, 1) := by decide +kernel
theorem dX6_writeHistory_23 : decode cX6_writeHistory 23 = .ok (.iload_n 3, 1) := by decide +kernel
theorem dX6_writeHistory_24 : decode cX6_writeHistory 24 = .ok (.invokevirtual 269, 3) := by decide +kernel
theorem dX6_writeHistory_27 : decode cX6_writeHistory 27 = .ok (.istore 4, 2) := by decide +kernel
theorem dX6_writeHistory_29 : decode cX6_writeHistory 29 = .ok (.iload 4, 2) := by decide +kernel
theorem dX6_writeHistory_31 : decode cX6_writeHistory 31 = .ok (.iload_n 2, 1) := by decide +kernel
theorem dX6_writeHistory_32 : decode cX6_writeHistory 32 = .ok (.if_icmp .eq 18, 3) := by decide +kernel
theorem dX6_writeHistory_35 : decode cX6_writeHistory 35 = .ok (.iload_n 3, 1) := by decide +kernel
theorem dX6_writeHistory_36 : decode cX6_writeHistory 36 = .ok (.iload_n 1, 1) := by decide +kernel
theorem dX6_writeHistory_37 : decode cX6_writeHistory 37 = .ok (.if_icmp .le 13, 3) := by decide +kernel
theorem dX6_writeHistory_40 : decode cX6_writeHistory 40 = .ok (.aload_n 0, 1) := by decide +kernel
theorem dX6_writeHistory_41 : decode cX6_writeHistory 41 = .ok (.iload_n 2, 1) := by decide +kernel
theorem dX6_writeHistory_42 : decode cX6_writeHistory 42 = .ok (.iload_n 3, 1) := by decide +kernel
theorem dX6_writeHistory_43 : decode cX6_writeHistory 43 = .ok (.iload_n 1, 1) := by decide +kernel
theorem dX6_writeHistory_44 : decode cX6_writeHistory 44 = .ok (.isub, 1) := by decide +kernel
theorem dX6_writeHistory_45 : decode cX6_writeHistory 45 = .ok (.invokevirtual 275, 3) := by decide +kernel
theorem dX6_writeHistory_48 : decode cX6_writeHistory 48 = .ok (.iload_n 3, 1) := by decide +kernel
theorem dX6_writeHistory_49 : decode cX6_writeHistory 49 = .ok (.istore_n 1, 1) := by decide +kernel
theorem dX6_writeHistory_50 : decode cX6_writeHistory 50 = .ok (.iload 4, 2) := by decide +kernel
theorem dX6_writeHistory_52 : decode cX6_writeHistory 52 = .ok (.istore_n 2, 1) := by decide +kernel
theorem dX6_writeHistory_53 : decode cX6_writeHistory 53 = .ok (.iinc 3 1, 3) := by decide +kernel
theorem dX6_writeHistory_56 : decode cX6_writeHistory 56 = .ok (.goto (-42), 3) := by decide +kernel
theorem dX6_writeHistory_59 : decode cX6_writeHistory 59 = .ok (.aload_n 0, 1) := by decide +kernel
theorem dX6_writeHistory_60 : decode cX6_writeHistory 60 = .ok (.getfield 92, 3) := by decide +kernel
theorem dX6_writeHistory_63 : decode cX6_writeHistory 63 = .ok (.ifCond .le 14, 3) := by decide +kernel
theorem dX6_writeHistory_66 : decode cX6_writeHistory 66 = .ok (.aload_n 0, 1) := by decide +kernel
theorem dX6_writeHistory_67 : decode cX6_writeHistory 67 = .ok (.iload_n 2, 1) := by decide +kernel
theorem dX6_writeHistory_68 : decode cX6_writeHistory 68 = .ok (.aload_n 0, 1) := by decide +kernel
theorem dX6_writeHistory_69 : decode cX6_writeHistory 69 = .ok (.getfield 92, 3) := by decide +kernel
theorem dX6_writeHistory_72 : decode cX6_writeHistory 72 = .ok (.iload_n 1, 1) := by decide +kernel
theorem dX6_writeHistory_73 : decode cX6_writeHistory 73 = .ok (.isub, 1) := by decide +kernel
theorem dX6_writeHistory_74 : decode cX6_writeHistory 74 = .ok (.invokevirtual 275, 3) := by decide +kernel
theorem dX6_writeHistory_77 : decode cX6_writeHistory 77 = .ok (.aload_n 0, 1) := by decide +kernel
theorem dX6_writeHistory_78 : decode cX6_writeHistory 78 = .ok (.getfield 53, 3) := by decide +kernel
theorem dX6_writeHistory_81 : decode cX6_writeHistory 81 = .ok (.invokevirtual 278, 3) := by decide +kernel
theorem dX6_writeHistory_84 : decode cX6_writeHistory 84 = .ok (.ireturn, 1) := by decide +kernel
theorem dX6_outputAt_0 : decode cX6_outputAt 0 = .ok (.iload_n 1, 1) := by decide +kernel
theorem dX6_outputAt_1 : decode cX6_outputAt 1 = .ok (.ifCond .lt 14, 3) := by decide +kernel
theorem dX6_outputAt_4 : decode cX6_outputAt 4 = .ok (.iload_n 1, 1) := by decide +kernel
theorem dX6_outputAt_5 : decode cX6_outputAt 5 = .ok (.aload_n 0, 1) := by decide +kernel
theorem dX6_outputAt_6 : decode cX6_outputAt 6 = .ok (.getfield 53, 3) := by decide +kernel
theorem dX6_outputAt_9 : decode cX6_outputAt 9 = .ok (.invokevirtual 278, 3) := by decide +kernel
theorem dX6_outputAt_12 : decode cX6_outputAt 12 = .ok (.if_icmp .lt 11, 3) := by decide +kernel
theorem dX6_outputAt_15 : decode cX6_outputAt 15 = .ok (.new 249, 3) := by decide +kernel
theorem dX6_outputAt_18 : decode cX6_outputAt 18 = .ok (.dup, 1) := by decide +kernel
theorem dX6_outputAt_19 : decode cX6_outputAt 19 = .ok (.invokespecial 251, 3) := by decide +kernel
theorem dX6_outputAt_22 : decode cX6_outputAt 22 = .ok (.athrow, 1) := by decide +kernel
theorem dX6_outputAt_23 : decode cX6_outputAt 23 = .ok (.aload_n 0, 1) := by decide +kernel
theorem dX6_outputAt_24 : decode cX6_outputAt 24 = .ok (.getfield 53, 3) := by decide +kernel
theorem dX6_outputAt_27 : decode cX6_outputAt 27 = .ok (.iload_n 1, 1) := by decide +kernel
theorem dX6_outputAt_28 : decode cX6_outputAt 28 = .ok (.invokevirtual 281, 3) := by decide +kernel
theorem dX6_outputAt_31 : decode cX6_outputAt 31 = .ok (.ireturn, 1) := by decide +kernel
theorem dX6_isConsistent_0 : decode cX6_isConsistent 0 = .ok (.iconst 0, 1) := by decide +kernel
theorem dX6_isConsistent_1 : decode cX6_isConsistent 1 = .ok (.istore_n 1, 1) := by decide +kernel
theorem dX6_isConsistent_2 : decode cX6_isConsistent 2 = .ok (.iload_n 1, 1) := by decide +kernel
theorem dX6_isConsistent_3 : decode cX6_isConsistent 3 = .ok (.aload_n 0, 1) := by decide +kernel
theorem dX6_isConsistent_4 : decode cX6_isConsistent 4 = .ok (.getfield 10, 3) := by decide +kernel
theorem dX6_isConsistent_7 : decode cX6_isConsistent 7 = .ok (.getfield 198, 3) := by decide +kernel
theorem dX6_isConsistent_10 : decode cX6_isConsistent 10 = .ok (.if_icmp .ge 31, 3) := by decide +kernel
theorem dX6_isConsistent_13 : decode cX6_isConsistent 13 = .ok (.aload_n 0, 1) := by decide +kernel
theorem dX6_isConsistent_14 : decode cX6_isConsistent 14 = .ok (.getfield 10, 3) := by decide +kernel
theorem dX6_isConsistent_17 : decode cX6_isConsistent 17 = .ok (.getfield 132, 3) := by decide +kernel
theorem dX6_isConsistent_20 : decode cX6_isConsistent 20 = .ok (.iload_n 1, 1) := by decide +kernel
theorem dX6_isConsistent_21 : decode cX6_isConsistent 21 = .ok (.baload, 1) := by decide +kernel
theorem dX6_isConsistent_22 : decode cX6_isConsistent 22 = .ok (.ifCond .ne 13, 3) := by decide +kernel
theorem dX6_isConsistent_25 : decode cX6_isConsistent 25 = .ok (.aload_n 0, 1) := by decide +kernel
theorem dX6_isConsistent_26 : decode cX6_isConsistent 26 = .ok (.iload_n 1, 1) := by decide +kernel
theorem dX6_isConsistent_27 : decode cX6_isConsistent 27 = .ok (.invokevirtual 285, 3) := by decide +kernel
theorem dX6_isConsistent_30 : decode cX6_isConsistent 30 = .ok (.ifCond .ne 5, 3) := by decide +kernel
theorem dX6_isConsistent_33 : decode cX6_isConsistent 33 = .ok (.iconst 0, 1) := by decide +kernel
theorem dX6_isConsistent_34 : decode cX6_isConsistent 34 = .ok (.ireturn, 1) := by decide +kernel
theorem dX6_isConsistent_35 : decode cX6_isConsistent 35 = .ok (.iinc 1 1, 3) := by decide +kernel
theorem dX6_isConsistent_38 : decode cX6_isConsistent 38 = .ok (.goto (-36), 3) := by decide +kernel
theorem dX6_isConsistent_41 : decode cX6_isConsistent 41 = .ok (.iconst 0, 1) := by decide +kernel
theorem dX6_isConsistent_42 : decode cX6_isConsistent 42 = .ok (.istore_n 1, 1) := by decide +kernel
theorem dX6_isConsistent_43 : decode cX6_isConsistent 43 = .ok (.iconst 0, 1) := by decide +kernel
theorem dX6_isConsistent_44 : decode cX6_isConsistent 44 = .ok (.istore_n 2, 1) := by decide +kernel
theorem dX6_isConsistent_45 : decode cX6_isConsistent 45 = .ok (.iload_n 2, 1) := by decide +kernel
theorem dX6_isConsistent_46 : decode cX6_isConsistent 46 = .ok (.aload_n 0, 1) := by decide +kernel
theorem dX6_isConsistent_47 : decode cX6_isConsistent 47 = .ok (.getfield 92, 3) := by decide +kernel
theorem dX6_isConsistent_50 : decode cX6_isConsistent 50 = .ok (.if_icmp .ge 21, 3) := by decide +kernel
theorem dX6_isConsistent_53 : decode cX6_isConsistent 53 = .ok (.aload_n 0, 1) := by decide +kernel
theorem dX6_isConsistent_54 : decode cX6_isConsistent 54 = .ok (.iload_n 2, 1) := by decide +kernel
theorem dX6_isConsistent_55 : decode cX6_isConsistent 55 = .ok (.invokevirtual 269, 3) := by decide +kernel
theorem dX6_isConsistent_58 : decode cX6_isConsistent 58 = .ok (.iconst 2, 1) := by decide +kernel
theorem dX6_isConsistent_59 : decode cX6_isConsistent 59 = .ok (.if_icmp .ne 6, 3) := by decide +kernel
theorem dX6_isConsistent_62 : decode cX6_isConsistent 62 = .ok (.iinc 1 1, 3) := by decide +kernel
theorem dX6_isConsistent_65 : decode cX6_isConsistent 65 = .ok (.iinc 2 1, 3) := by decide +kernel
theorem dX6_isConsistent_68 : decode cX6_isConsistent 68 = .ok (.goto (-23), 3) := by decide +kernel
theorem dX6_isConsistent_71 : decode cX6_isConsistent 71 = .ok (.iload_n 1, 1) := by decide +kernel
theorem dX6_isConsistent_72 : decode cX6_isConsistent 72 = .ok (.aload_n 0, 1) := by decide +kernel
theorem dX6_isConsistent_73 : decode cX6_isConsistent 73 = .ok (.getfield 113, 3) := by decide +kernel
theorem dX6_isConsistent_76 : decode cX6_isConsistent 76 = .ok (.if_icmp .ne 7, 3) := by decide +kernel
theorem dX6_isConsistent_79 : decode cX6_isConsistent 79 = .ok (.iconst 1, 1) := by decide +kernel
theorem dX6_isConsistent_80 : decode cX6_isConsistent 80 = .ok (.goto 4, 3) := by decide +kernel
theorem dX6_isConsistent_83 : decode cX6_isConsistent 83 = .ok (.iconst 0, 1) := by decide +kernel
theorem dX6_isConsistent_84 : decode cX6_isConsistent 84 = .ok (.ireturn, 1) := by decide +kernel
theorem dX6_checkDate_0 : decode cX6_checkDate 0 = .ok (.iload_n 0, 1) := by decide +kernel
theorem dX6_checkDate_1 : decode cX6_checkDate 1 = .ok (.iload_n 1, 1) := by decide +kernel
theorem dX6_checkDate_2 : decode cX6_checkDate 2 = .ok (.iload_n 2, 1) := by decide +kernel
theorem dX6_checkDate_3 : decode cX6_checkDate 3 = .ok (.invokestatic 289, 3) := by decide +kernel
theorem dX6_checkDate_6 : decode cX6_checkDate 6 = .ok (.ifCond .ne 11, 3) := by decide +kernel
theorem dX6_checkDate_9 : decode cX6_checkDate 9 = .ok (.new 84, 3) := by decide +kernel
theorem dX6_checkDate_12 : decode cX6_checkDate 12 = .ok (.dup, 1) := by decide +kernel
theorem dX6_checkDate_13 : decode cX6_checkDate 13 = .ok (.invokespecial 86, 3) := by decide +kernel
theorem dX6_checkDate_16 : decode cX6_checkDate 16 = .ok (.athrow, 1) := by decide +kernel
theorem dX6_checkDate_17 : decode cX6_checkDate 17 = .ok (.return_, 1) := by decide +kernel
theorem dX6_checkDay_0 : decode cX6_checkDay 0 = .ok (.iload_n 0, 1) := by decide +kernel
theorem dX6_checkDay_1 : decode cX6_checkDay 1 = .ok (.ifCond .lt 9, 3) := by decide +kernel
theorem dX6_checkDay_4 : decode cX6_checkDay 4 = .ok (.iload_n 0, 1) := by decide +kernel
theorem dX6_checkDay_5 : decode cX6_checkDay 5 = .ok (.ldc 91, 2) := by decide +kernel
theorem dX6_checkDay_7 : decode cX6_checkDay 7 = .ok (.if_icmp .le 11, 3) := by decide +kernel
theorem dX6_checkDay_10 : decode cX6_checkDay 10 = .ok (.new 84, 3) := by decide +kernel
theorem dX6_checkDay_13 : decode cX6_checkDay 13 = .ok (.dup, 1) := by decide +kernel
theorem dX6_checkDay_14 : decode cX6_checkDay 14 = .ok (.invokespecial 86, 3) := by decide +kernel
theorem dX6_checkDay_17 : decode cX6_checkDay 17 = .ok (.athrow, 1) := by decide +kernel
theorem dX6_checkDay_18 : decode cX6_checkDay 18 = .ok (.return_, 1) := by decide +kernel
theorem dX6_checkSentence_0 : decode cX6_checkSentence 0 = .ok (.iload_n 0, 1) := by decide +kernel
theorem dX6_checkSentence_1 : decode cX6_checkSentence 1 = .ok (.ifCond .lt 32, 3) := by decide +kernel
theorem dX6_checkSentence_4 : decode cX6_checkSentence 4 = .ok (.iload_n 0, 1) := by decide +kernel
theorem dX6_checkSentence_5 : decode cX6_checkSentence 5 = .ok (.iconst 3, 1) := by decide +kernel
theorem dX6_checkSentence_6 : decode cX6_checkSentence 6 = .ok (.if_icmp .gt 27, 3) := by decide +kernel
theorem dX6_checkSentence_9 : decode cX6_checkSentence 9 = .ok (.iload_n 1, 1) := by decide +kernel
theorem dX6_checkSentence_10 : decode cX6_checkSentence 10 = .ok (.ifCond .lt 23, 3) := by decide +kernel
theorem dX6_checkSentence_13 : decode cX6_checkSentence 13 = .ok (.iload_n 1, 1) := by decide +kernel
theorem dX6_checkSentence_14 : decode cX6_checkSentence 14 = .ok (.bipush 60, 2) := by decide +kernel
theorem dX6_checkSentence_16 : decode cX6_checkSentence 16 = .ok (.if_icmp .gt 17, 3) := by decide +kernel
theorem dX6_checkSentence_19 : decode cX6_checkSentence 19 = .ok (.iload_n 2, 1) := by decide +kernel
theorem dX6_checkSentence_20 : decode cX6_checkSentence 20 = .ok (.ifCond .lt 13, 3) := by decide +kernel
theorem dX6_checkSentence_23 : decode cX6_checkSentence 23 = .ok (.iload_n 2, 1) := by decide +kernel
theorem dX6_checkSentence_24 : decode cX6_checkSentence 24 = .ok (.bipush 99, 2) := by decide +kernel
theorem dX6_checkSentence_26 : decode cX6_checkSentence 26 = .ok (.if_icmp .gt 7, 3) := by decide +kernel
theorem dX6_checkSentence_29 : decode cX6_checkSentence 29 = .ok (.iconst 1, 1) := by decide +kernel
theorem dX6_checkSentence_30 : decode cX6_checkSentence 30 = .ok (.goto 4, 3) := by decide +kernel
theorem dX6_checkSentence_33 : decode cX6_checkSentence 33 = .ok (.iconst 0, 1) := by decide +kernel
theorem dX6_checkSentence_34 : decode cX6_checkSentence 34 = .ok (.istore_n 3, 1) := by decide +kernel
theorem dX6_checkSentence_35 : decode cX6_checkSentence 35 = .ok (.iload_n 3, 1) := by decide +kernel
theorem dX6_checkSentence_36 : decode cX6_checkSentence 36 = .ok (.ifCond .eq 11, 3) := by decide +kernel
theorem dX6_checkSentence_39 : decode cX6_checkSentence 39 = .ok (.iload_n 1, 1) := by decide +kernel
theorem dX6_checkSentence_40 : decode cX6_checkSentence 40 = .ok (.ifCond .ne 15, 3) := by decide +kernel
theorem dX6_checkSentence_43 : decode cX6_checkSentence 43 = .ok (.iload_n 2, 1) := by decide +kernel
theorem dX6_checkSentence_44 : decode cX6_checkSentence 44 = .ok (.ifCond .ne 11, 3) := by decide +kernel
theorem dX6_checkSentence_47 : decode cX6_checkSentence 47 = .ok (.new 84, 3) := by decide +kernel
theorem dX6_checkSentence_50 : decode cX6_checkSentence 50 = .ok (.dup, 1) := by decide +kernel
theorem dX6_checkSentence_51 : decode cX6_checkSentence 51 = .ok (.invokespecial 86, 3) := by decide +kernel
theorem dX6_checkSentence_54 : decode cX6_checkSentence 54 = .ok (.athrow, 1) := by decide +kernel
theorem dX6_checkSentence_55 : decode cX6_checkSentence 55 = .ok (.return_, 1) := by decide +kernel
theorem dX6_checkAwardDays_0 : decode cX6_checkAwardDays 0 = .ok (.iload_n 0, 1) := by decide +kernel
theorem dX6_checkAwardDays_1 : decode cX6_checkAwardDays 1 = .ok (.iconst 1, 1) := by decide +kernel
theorem dX6_checkAwardDays_2 : decode cX6_checkAwardDays 2 = .ok (.if_icmp .lt 9, 3) := by decide +kernel
theorem dX6_checkAwardDays_5 : decode cX6_checkAwardDays 5 = .ok (.iload_n 0, 1) := by decide +kernel
theorem dX6_checkAwardDays_6 : decode cX6_checkAwardDays 6 = .ok (.bipush 42, 2) := by decide +kernel
theorem dX6_checkAwardDays_8 : decode cX6_checkAwardDays 8 = .ok (.if_icmp .le 11, 3) := by decide +kernel
theorem dX6_checkAwardDays_11 : decode cX6_checkAwardDays 11 = .ok (.new 84, 3) := by decide +kernel
theorem dX6_checkAwardDays_14 : decode cX6_checkAwardDays 14 = .ok (.dup, 1) := by decide +kernel
theorem dX6_checkAwardDays_15 : decode cX6_checkAwardDays 15 = .ok (.invokespecial 86, 3) := by decide +kernel
theorem dX6_checkAwardDays_18 : decode cX6_checkAwardDays 18 = .ok (.athrow, 1) := by decide +kernel
theorem dX6_checkAwardDays_19 : decode cX6_checkAwardDays 19 = .ok (.return_, 1) := by decide +kernel
theorem dX6_checkRoomForTerm_0 : decode cX6_checkRoomForTerm 0 = .ok (.aload_n 0, 1) := by decide +kernel
theorem dX6_checkRoomForTerm_1 : decode cX6_checkRoomForTerm 1 = .ok (.getfield 10, 3) := by decide +kernel
theorem dX6_checkRoomForTerm_4 : decode cX6_checkRoomForTerm 4 = .ok (.getfield 198, 3) := by decide +kernel
theorem dX6_checkRoomForTerm_7 : decode cX6_checkRoomForTerm 7 = .ok (.bipush 10, 2) := by decide +kernel
theorem dX6_checkRoomForTerm_9 : decode cX6_checkRoomForTerm 9 = .ok (.if_icmp .lt 11, 3) := by decide +kernel
theorem dX6_checkRoomForTerm_12 : decode cX6_checkRoomForTerm 12 = .ok (.new 96, 3) := by decide +kernel
theorem dX6_checkRoomForTerm_15 : decode cX6_checkRoomForTerm 15 = .ok (.dup, 1) := by decide +kernel
theorem dX6_checkRoomForTerm_16 : decode cX6_checkRoomForTerm 16 = .ok (.invokespecial 98, 3) := by decide +kernel
theorem dX6_checkRoomForTerm_19 : decode cX6_checkRoomForTerm 19 = .ok (.athrow, 1) := by decide +kernel
theorem dX6_checkRoomForTerm_20 : decode cX6_checkRoomForTerm 20 = .ok (.return_, 1) := by decide +kernel
theorem dX6_checkTerm_0 : decode cX6_checkTerm 0 = .ok (.iload_n 1, 1) := by decide +kernel
theorem dX6_checkTerm_1 : decode cX6_checkTerm 1 = .ok (.ifCond .lt 14, 3) := by decide +kernel
theorem dX6_checkTerm_4 : decode cX6_checkTerm 4 = .ok (.iload_n 1, 1) := by decide +kernel
theorem dX6_checkTerm_5 : decode cX6_checkTerm 5 = .ok (.aload_n 0, 1) := by decide +kernel
theorem dX6_checkTerm_6 : decode cX6_checkTerm 6 = .ok (.getfield 10, 3) := by decide +kernel
theorem dX6_checkTerm_9 : decode cX6_checkTerm 9 = .ok (.getfield 198, 3) := by decide +kernel
theorem dX6_checkTerm_12 : decode cX6_checkTerm 12 = .ok (.if_icmp .lt 11, 3) := by decide +kernel
theorem dX6_checkTerm_15 : decode cX6_checkTerm 15 = .ok (.new 249, 3) := by decide +kernel
theorem dX6_checkTerm_18 : decode cX6_checkTerm 18 = .ok (.dup, 1) := by decide +kernel
theorem dX6_checkTerm_19 : decode cX6_checkTerm 19 = .ok (.invokespecial 251, 3) := by decide +kernel
theorem dX6_checkTerm_22 : decode cX6_checkTerm 22 = .ok (.athrow, 1) := by decide +kernel
theorem dX6_checkTerm_23 : decode cX6_checkTerm 23 = .ok (.return_, 1) := by decide +kernel
theorem dX6_checkStandingTerm_0 : decode cX6_checkStandingTerm 0 = .ok (.aload_n 0, 1) := by decide +kernel
theorem dX6_checkStandingTerm_1 : decode cX6_checkStandingTerm 1 = .ok (.iload_n 1, 1) := by decide +kernel
theorem dX6_checkStandingTerm_2 : decode cX6_checkStandingTerm 2 = .ok (.invokevirtual 129, 3) := by decide +kernel
theorem dX6_checkStandingTerm_5 : decode cX6_checkStandingTerm 5 = .ok (.aload_n 0, 1) := by decide +kernel
theorem dX6_checkStandingTerm_6 : decode cX6_checkStandingTerm 6 = .ok (.getfield 10, 3) := by decide +kernel
theorem dX6_checkStandingTerm_9 : decode cX6_checkStandingTerm 9 = .ok (.getfield 132, 3) := by decide +kernel
theorem dX6_checkStandingTerm_12 : decode cX6_checkStandingTerm 12 = .ok (.iload_n 1, 1) := by decide +kernel
theorem dX6_checkStandingTerm_13 : decode cX6_checkStandingTerm 13 = .ok (.baload, 1) := by decide +kernel
theorem dX6_checkStandingTerm_14 : decode cX6_checkStandingTerm 14 = .ok (.ifCond .eq 11, 3) := by decide +kernel
theorem dX6_checkStandingTerm_17 : decode cX6_checkStandingTerm 17 = .ok (.new 96, 3) := by decide +kernel
theorem dX6_checkStandingTerm_20 : decode cX6_checkStandingTerm 20 = .ok (.dup, 1) := by decide +kernel
theorem dX6_checkStandingTerm_21 : decode cX6_checkStandingTerm 21 = .ok (.invokespecial 98, 3) := by decide +kernel
theorem dX6_checkStandingTerm_24 : decode cX6_checkStandingTerm 24 = .ok (.athrow, 1) := by decide +kernel
theorem dX6_checkStandingTerm_25 : decode cX6_checkStandingTerm 25 = .ok (.return_, 1) := by decide +kernel
theorem dX6_checkAnyTermStands_0 : decode cX6_checkAnyTermStands 0 = .ok (.aload_n 0, 1) := by decide +kernel
theorem dX6_checkAnyTermStands_1 : decode cX6_checkAnyTermStands 1 = .ok (.getfield 10, 3) := by decide +kernel
theorem dX6_checkAnyTermStands_4 : decode cX6_checkAnyTermStands 4 = .ok (.invokevirtual 260, 3) := by decide +kernel
theorem dX6_checkAnyTermStands_7 : decode cX6_checkAnyTermStands 7 = .ok (.ifCond .ne 11, 3) := by decide +kernel
theorem dX6_checkAnyTermStands_10 : decode cX6_checkAnyTermStands 10 = .ok (.new 205, 3) := by decide +kernel
theorem dX6_checkAnyTermStands_13 : decode cX6_checkAnyTermStands 13 = .ok (.dup, 1) := by decide +kernel
theorem dX6_checkAnyTermStands_14 : decode cX6_checkAnyTermStands 14 = .ok (.invokespecial 207, 3) := by decide +kernel
theorem dX6_checkAnyTermStands_17 : decode cX6_checkAnyTermStands 17 = .ok (.athrow, 1) := by decide +kernel
theorem dX6_checkAnyTermStands_18 : decode cX6_checkAnyTermStands 18 = .ok (.return_, 1) := by decide +kernel
theorem dX6_checkAward_0 : decode cX6_checkAward 0 = .ok (.iload_n 1, 1) := by decide +kernel
theorem dX6_checkAward_1 : decode cX6_checkAward 1 = .ok (.ifCond .lt 14, 3) := by decide +kernel
theorem dX6_checkAward_4 : decode cX6_checkAward 4 = .ok (.iload_n 1, 1) := by decide +kernel
theorem dX6_checkAward_5 : decode cX6_checkAward 5 = .ok (.aload_n 0, 1) := by decide +kernel
theorem dX6_checkAward_6 : decode cX6_checkAward 6 = .ok (.getfield 26, 3) := by decide +kernel
theorem dX6_checkAward_9 : decode cX6_checkAward 9 = .ok (.getfield 167, 3) := by decide +kernel
theorem dX6_checkAward_12 : decode cX6_checkAward 12 = .ok (.if_icmp .lt 11, 3) := by decide +kernel
theorem dX6_checkAward_15 : decode cX6_checkAward 15 = .ok (.new 249, 3) := by decide +kernel
theorem dX6_checkAward_18 : decode cX6_checkAward 18 = .ok (.dup, 1) := by decide +kernel
theorem dX6_checkAward_19 : decode cX6_checkAward 19 = .ok (.invokespecial 251, 3) := by decide +kernel
theorem dX6_checkAward_22 : decode cX6_checkAward 22 = .ok (.athrow, 1) := by decide +kernel
theorem dX6_checkAward_23 : decode cX6_checkAward 23 = .ok (.return_, 1) := by decide +kernel
theorem dX6_within_0 : decode cX6_within 0 = .ok (.iload_n 1, 1) := by decide +kernel
theorem dX6_within_1 : decode cX6_within 1 = .ok (.iload_n 0, 1) := by decide +kernel
theorem dX6_within_2 : decode cX6_within 2 = .ok (.invokestatic 252, 3) := by decide +kernel
theorem dX6_within_5 : decode cX6_within 5 = .ok (.iload_n 2, 1) := by decide +kernel
theorem dX6_within_6 : decode cX6_within 6 = .ok (.invokestatic 293, 3) := by decide +kernel
theorem dX6_within_9 : decode cX6_within 9 = .ok (.ireturn, 1) := by decide +kernel
theorem dX6_addTerm_0 : decode cX6_addTerm 0 = .ok (.aload_n 0, 1) := by decide +kernel
theorem dX6_addTerm_1 : decode cX6_addTerm 1 = .ok (.getfield 10, 3) := by decide +kernel
theorem dX6_addTerm_4 : decode cX6_addTerm 4 = .ok (.iload_n 1, 1) := by decide +kernel
theorem dX6_addTerm_5 : decode cX6_addTerm 5 = .ok (.iload_n 2, 1) := by decide +kernel
theorem dX6_addTerm_6 : decode cX6_addTerm 6 = .ok (.iload_n 3, 1) := by decide +kernel
theorem dX6_addTerm_7 : decode cX6_addTerm 7 = .ok (.iload 4, 2) := by decide +kernel
theorem dX6_addTerm_9 : decode cX6_addTerm 9 = .ok (.aload_n 0, 1) := by decide +kernel
theorem dX6_addTerm_10 : decode cX6_addTerm 10 = .ok (.getfield 92, 3) := by decide +kernel
theorem dX6_addTerm_13 : decode cX6_addTerm 13 = .ok (.invokevirtual 296, 3) := by decide +kernel
theorem dX6_addTerm_16 : decode cX6_addTerm 16 = .ok (.istore 5, 2) := by decide +kernel
theorem dX6_addTerm_18 : decode cX6_addTerm 18 = .ok (.aload_n 0, 1) := by decide +kernel
theorem dX6_addTerm_19 : decode cX6_addTerm 19 = .ok (.invokevirtual 149, 3) := by decide +kernel
theorem dX6_addTerm_22 : decode cX6_addTerm 22 = .ok (.iload 5, 2) := by decide +kernel
theorem dX6_addTerm_24 : decode cX6_addTerm 24 = .ok (.ireturn, 1) := by decide +kernel
theorem dX6_settle_0 : decode cX6_settle 0 = .ok (.iconst 0, 1) := by decide +kernel
theorem dX6_settle_1 : decode cX6_settle 1 = .ok (.istore_n 1, 1) := by decide +kernel
theorem dX6_settle_2 : decode cX6_settle 2 = .ok (.iload_n 1, 1) := by decide +kernel
theorem dX6_settle_3 : decode cX6_settle 3 = .ok (.aload_n 0, 1) := by decide +kernel
theorem dX6_settle_4 : decode cX6_settle 4 = .ok (.getfield 10, 3) := by decide +kernel
theorem dX6_settle_7 : decode cX6_settle 7 = .ok (.getfield 198, 3) := by decide +kernel
theorem dX6_settle_10 : decode cX6_settle 10 = .ok (.if_icmp .ge 43, 3) := by decide +kernel
theorem dX6_settle_13 : decode cX6_settle 13 = .ok (.aload_n 0, 1) := by decide +kernel
theorem dX6_settle_14 : decode cX6_settle 14 = .ok (.getfield 10, 3) := by decide +kernel
theorem dX6_settle_17 : decode cX6_settle 17 = .ok (.getfield 132, 3) := by decide +kernel
theorem dX6_settle_20 : decode cX6_settle 20 = .ok (.iload_n 1, 1) := by decide +kernel
theorem dX6_settle_21 : decode cX6_settle 21 = .ok (.baload, 1) := by decide +kernel
theorem dX6_settle_22 : decode cX6_settle 22 = .ok (.ifCond .ne 25, 3) := by decide +kernel
theorem dX6_settle_25 : decode cX6_settle 25 = .ok (.aload_n 0, 1) := by decide +kernel
theorem dX6_settle_26 : decode cX6_settle 26 = .ok (.getfield 10, 3) := by decide +kernel
theorem dX6_settle_29 : decode cX6_settle 29 = .ok (.iload_n 1, 1) := by decide +kernel
theorem dX6_settle_30 : decode cX6_settle 30 = .ok (.invokevirtual 299, 3) := by decide +kernel
theorem dX6_settle_33 : decode cX6_settle 33 = .ok (.aload_n 0, 1) := by decide +kernel
theorem dX6_settle_34 : decode cX6_settle 34 = .ok (.getfield 10, 3) := by decide +kernel
theorem dX6_settle_37 : decode cX6_settle 37 = .ok (.getfield 155, 3) := by decide +kernel
theorem dX6_settle_40 : decode cX6_settle 40 = .ok (.iload_n 1, 1) := by decide +kernel
theorem dX6_settle_41 : decode cX6_settle 41 = .ok (.aload_n 0, 1) := by decide +kernel
theorem dX6_settle_42 : decode cX6_settle 42 = .ok (.iload_n 1, 1) := by decide +kernel
theorem dX6_settle_43 : decode cX6_settle 43 = .ok (.invokevirtual 302, 3) := by decide +kernel
theorem dX6_settle_46 : decode cX6_settle 46 = .ok (.iastore, 1) := by decide +kernel
theorem dX6_settle_47 : decode cX6_settle 47 = .ok (.iinc 1 1, 3) := by decide +kernel
theorem dX6_settle_50 : decode cX6_settle 50 = .ok (.goto (-48), 3) := by decide +kernel
theorem dX6_settle_53 : decode cX6_settle 53 = .ok (.return_, 1) := by decide +kernel
theorem dX6_markedCredit_0 : decode cX6_markedCredit 0 = .ok (.aload_n 0, 1) := by decide +kernel
theorem dX6_markedCredit_1 : decode cX6_markedCredit 1 = .ok (.getfield 47, 3) := by decide +kernel
theorem dX6_markedCredit_4 : decode cX6_markedCredit 4 = .ok (.invokevirtual 305, 3) := by decide +kernel
theorem dX6_markedCredit_7 : decode cX6_markedCredit 7 = .ok (.iconst 0, 1) := by decide +kernel
theorem dX6_markedCredit_8 : decode cX6_markedCredit 8 = .ok (.istore_n 2, 1) := by decide +kernel
theorem dX6_markedCredit_9 : decode cX6_markedCredit 9 = .ok (.iload_n 2, 1) := by decide +kernel
theorem dX6_markedCredit_10 : decode cX6_markedCredit 10 = .ok (.aload_n 0, 1) := by decide +kernel
theorem dX6_markedCredit_11 : decode cX6_markedCredit 11 = .ok (.getfield 19, 3) := by decide +kernel
theorem dX6_markedCredit_14 : decode cX6_markedCredit 14 = .ok (.getfield 143, 3) := by decide +kernel
theorem dX6_markedCredit_17 : decode cX6_markedCredit 17 = .ok (.if_icmp .ge 54, 3) := by decide +kernel
theorem dX6_markedCredit_20 : decode cX6_markedCredit 20 = .ok (.aload_n 0, 1) := by decide +kernel
theorem dX6_markedCredit_21 : decode cX6_markedCredit 21 = .ok (.getfield 19, 3) := by decide +kernel
theorem dX6_markedCredit_24 : decode cX6_markedCredit 24 = .ok (.aload_n 0, 1) := by decide +kernel
theorem dX6_markedCredit_25 : decode cX6_markedCredit 25 = .ok (.getfield 10, 3) := by decide +kernel
theorem dX6_markedCredit_28 : decode cX6_markedCredit 28 = .ok (.getfield 208, 3) := by decide +kernel
theorem dX6_markedCredit_31 : decode cX6_markedCredit 31 = .ok (.iload_n 1, 1) := by decide +kernel
theorem dX6_markedCredit_32 : decode cX6_markedCredit 32 = .ok (.iaload, 1) := by decide +kernel
theorem dX6_markedCredit_33 : decode cX6_markedCredit 33 = .ok (.iload_n 2, 1) := by decide +kernel
theorem dX6_markedCredit_34 : decode cX6_markedCredit 34 = .ok (.invokevirtual 308, 3) := by decide +kernel
theorem dX6_markedCredit_37 : decode cX6_markedCredit 37 = .ok (.ifCond .eq 28, 3) := by decide +kernel
theorem dX6_markedCredit_40 : decode cX6_markedCredit 40 = .ok (.aload_n 0, 1) := by decide +kernel
theorem dX6_markedCredit_41 : decode cX6_markedCredit 41 = .ok (.getfield 47, 3) := by decide +kernel
theorem dX6_markedCredit_44 : decode cX6_markedCredit 44 = .ok (.aload_n 0, 1) := by decide +kernel
theorem dX6_markedCredit_45 : decode cX6_markedCredit 45 = .ok (.getfield 19, 3) := by decide +kernel
theorem dX6_markedCredit_48 : decode cX6_markedCredit 48 = .ok (.getfield 312, 3) := by decide +kernel
theorem dX6_markedCredit_51 : decode cX6_markedCredit 51 = .ok (.iload_n 2, 1) := by decide +kernel
theorem dX6_markedCredit_52 : decode cX6_markedCredit 52 = .ok (.iaload, 1) := by decide +kernel
theorem dX6_markedCredit_53 : decode cX6_markedCredit 53 = .ok (.aload_n 0, 1) := by decide +kernel
theorem dX6_markedCredit_54 : decode cX6_markedCredit 54 = .ok (.getfield 19, 3) := by decide +kernel
theorem dX6_markedCredit_57 : decode cX6_markedCredit 57 = .ok (.getfield 315, 3) := by decide +kernel
theorem dX6_markedCredit_60 : decode cX6_markedCredit 60 = .ok (.iload_n 2, 1) := by decide +kernel
theorem dX6_markedCredit_61 : decode cX6_markedCredit 61 = .ok (.iaload, 1) := by decide +kernel
theorem dX6_markedCredit_62 : decode cX6_markedCredit 62 = .ok (.invokevirtual 109, 3) := by decide +kernel
theorem dX6_markedCredit_65 : decode cX6_markedCredit 65 = .ok (.iinc 2 1, 3) := by decide +kernel
theorem dX6_markedCredit_68 : decode cX6_markedCredit 68 = .ok (.goto (-59), 3) := by decide +kernel
theorem dX6_markedCredit_71 : decode cX6_markedCredit 71 = .ok (.aload_n 0, 1) := by decide +kernel
theorem dX6_markedCredit_72 : decode cX6_markedCredit 72 = .ok (.getfield 47, 3) := by decide +kernel
theorem dX6_markedCredit_75 : decode cX6_markedCredit 75 = .ok (.aload_n 0, 1) := by decide +kernel
theorem dX6_markedCredit_76 : decode cX6_markedCredit 76 = .ok (.getfield 40, 3) := by decide +kernel
theorem dX6_markedCredit_79 : decode cX6_markedCredit 79 = .ok (.invokevirtual 318, 3) := by decide +kernel
theorem dX6_markedCredit_82 : decode cX6_markedCredit 82 = .ok (.aload_n 0, 1) := by decide +kernel
theorem dX6_markedCredit_83 : decode cX6_markedCredit 83 = .ok (.getfield 10, 3) := by decide +kernel
theorem dX6_markedCredit_86 : decode cX6_markedCredit 86 = .ok (.getfield 222, 3) := by decide +kernel
theorem dX6_markedCredit_89 : decode cX6_markedCredit 89 = .ok (.iload_n 1, 1) := by decide +kernel
theorem dX6_markedCredit_90 : decode cX6_markedCredit 90 = .ok (.iaload, 1) := by decide +kernel
theorem dX6_markedCredit_91 : decode cX6_markedCredit 91 = .ok (.invokestatic 293, 3) := by decide +kernel
theorem dX6_markedCredit_94 : decode cX6_markedCredit 94 = .ok (.ireturn, 1) := by decide +kernel
theorem dX6_mergedCredit_0 : decode cX6_mergedCredit 0 = .ok (.aload_n 0, 1) := by decide +kernel
theorem dX6_mergedCredit_1 : decode cX6_mergedCredit 1 = .ok (.getfield 19, 3) := by decide +kernel
theorem dX6_mergedCredit_4 : decode cX6_mergedCredit 4 = .ok (.aload_n 0, 1) := by decide +kernel
theorem dX6_mergedCredit_5 : decode cX6_mergedCredit 5 = .ok (.getfield 10, 3) := by decide +kernel
theorem dX6_mergedCredit_8 : decode cX6_mergedCredit 8 = .ok (.getfield 208, 3) := by decide +kernel
theorem dX6_mergedCredit_11 : decode cX6_mergedCredit 11 = .ok (.iload_n 1, 1) := by decide +kernel
theorem dX6_mergedCredit_12 : decode cX6_mergedCredit 12 = .ok (.iaload, 1) := by decide +kernel
theorem dX6_mergedCredit_13 : decode cX6_mergedCredit 13 = .ok (.invokevirtual 322, 3) := by decide +kernel
theorem dX6_mergedCredit_16 : decode cX6_mergedCredit 16 = .ok (.istore_n 2, 1) := by decide +kernel
theorem dX6_mergedCredit_17 : decode cX6_mergedCredit 17 = .ok (.iconst 0, 1) := by decide +kernel
theorem dX6_mergedCredit_18 : decode cX6_mergedCredit 18 = .ok (.istore_n 3, 1) := by decide +kernel
theorem dX6_mergedCredit_19 : decode cX6_mergedCredit 19 = .ok (.iconst 0, 1) := by decide +kernel
theorem dX6_mergedCredit_20 : decode cX6_mergedCredit 20 = .ok (.istore 4, 2) := by decide +kernel
theorem dX6_mergedCredit_22 : decode cX6_mergedCredit 22 = .ok (.iconst (-1), 1) := by decide +kernel
theorem dX6_mergedCredit_23 : decode cX6_mergedCredit 23 = .ok (.istore 5, 2) := by decide +kernel
theorem dX6_mergedCredit_25 : decode cX6_mergedCredit 25 = .ok (.iconst 0, 1) := by decide +kernel
theorem dX6_mergedCredit_26 : decode cX6_mergedCredit 26 = .ok (.istore 6, 2) := by decide +kernel
theorem dX6_mergedCredit_28 : decode cX6_mergedCredit 28 = .ok (.iload 6, 2) := by decide +kernel
theorem dX6_mergedCredit_30 : decode cX6_mergedCredit 30 = .ok (.iload_n 2, 1) := by decide +kernel
theorem dX6_mergedCredit_31 : decode cX6_mergedCredit 31 = .ok (.if_icmp .ge 79, 3) := by decide +kernel
theorem dX6_mergedCredit_34 : decode cX6_mergedCredit 34 = .ok (.aload_n 0, 1) := by decide +kernel
theorem dX6_mergedCredit_35 : decode cX6_mergedCredit 35 = .ok (.getfield 19, 3) := by decide +kernel
theorem dX6_mergedCredit_38 : decode cX6_mergedCredit 38 = .ok (.getfield 325, 3) := by decide +kernel
theorem dX6_mergedCredit_41 : decode cX6_mergedCredit 41 = .ok (.iload 6, 2) := by decide +kernel
theorem dX6_mergedCredit_43 : decode cX6_mergedCredit 43 = .ok (.iaload, 1) := by decide +kernel
theorem dX6_mergedCredit_44 : decode cX6_mergedCredit 44 = .ok (.iload 5, 2) := by decide +kernel
theorem dX6_mergedCredit_46 : decode cX6_mergedCredit 46 = .ok (.if_icmp .le 41, 3) := by decide +kernel
theorem dX6_mergedCredit_49 : decode cX6_mergedCredit 49 = .ok (.iload_n 3, 1) := by decide +kernel
theorem dX6_mergedCredit_50 : decode cX6_mergedCredit 50 = .ok (.aload_n 0, 1) := by decide +kernel
theorem dX6_mergedCredit_51 : decode cX6_mergedCredit 51 = .ok (.iload 4, 2) := by decide +kernel
theorem dX6_mergedCredit_53 : decode cX6_mergedCredit 53 = .ok (.iload 5, 2) := by decide +kernel
theorem dX6_mergedCredit_55 : decode cX6_mergedCredit 55 = .ok (.invokevirtual 328, 3) := by decide +kernel
theorem dX6_mergedCredit_58 : decode cX6_mergedCredit 58 = .ok (.iadd, 1) := by decide +kernel
theorem dX6_mergedCredit_59 : decode cX6_mergedCredit 59 = .ok (.istore_n 3, 1) := by decide +kernel
theorem dX6_mergedCredit_60 : decode cX6_mergedCredit 60 = .ok (.aload_n 0, 1) := by decide +kernel
theorem dX6_mergedCredit_61 : decode cX6_mergedCredit 61 = .ok (.getfield 19, 3) := by decide +kernel
theorem dX6_mergedCredit_64 : decode cX6_mergedCredit 64 = .ok (.getfield 325, 3) := by decide +kernel
theorem dX6_mergedCredit_67 : decode cX6_mergedCredit 67 = .ok (.iload 6, 2) := by decide +kernel
