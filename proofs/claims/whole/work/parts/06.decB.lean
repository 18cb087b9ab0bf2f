theorem dX6_mergedCredit_69 : decode cX6_mergedCredit 69 = .ok (.iaload, 1) := by decide +kernel
theorem dX6_mergedCredit_70 : decode cX6_mergedCredit 70 = .ok (.istore 4, 2) := by decide +kernel
theorem dX6_mergedCredit_72 : decode cX6_mergedCredit 72 = .ok (.aload_n 0, 1) := by decide +kernel
theorem dX6_mergedCredit_73 : decode cX6_mergedCredit 73 = .ok (.getfield 19, 3) := by decide +kernel
theorem dX6_mergedCredit_76 : decode cX6_mergedCredit 76 = .ok (.getfield 331, 3) := by decide +kernel
theorem dX6_mergedCredit_79 : decode cX6_mergedCredit 79 = .ok (.iload 6, 2) := by decide +kernel
theorem dX6_mergedCredit_81 : decode cX6_mergedCredit 81 = .ok (.iaload, 1) := by decide +kernel
theorem dX6_mergedCredit_82 : decode cX6_mergedCredit 82 = .ok (.istore 5, 2) := by decide +kernel
theorem dX6_mergedCredit_84 : decode cX6_mergedCredit 84 = .ok (.goto 20, 3) := by decide +kernel
theorem dX6_mergedCredit_87 : decode cX6_mergedCredit 87 = .ok (.iload 5, 2) := by decide +kernel
theorem dX6_mergedCredit_89 : decode cX6_mergedCredit 89 = .ok (.aload_n 0, 1) := by decide +kernel
theorem dX6_mergedCredit_90 : decode cX6_mergedCredit 90 = .ok (.getfield 19, 3) := by decide +kernel
theorem dX6_mergedCredit_93 : decode cX6_mergedCredit 93 = .ok (.getfield 331, 3) := by decide +kernel
theorem dX6_mergedCredit_96 : decode cX6_mergedCredit 96 = .ok (.iload 6, 2) := by decide +kernel
theorem dX6_mergedCredit_98 : decode cX6_mergedCredit 98 = .ok (.iaload, 1) := by decide +kernel
theorem dX6_mergedCredit_99 : decode cX6_mergedCredit 99 = .ok (.invokestatic 252, 3) := by decide +kernel
theorem dX6_mergedCredit_102 : decode cX6_mergedCredit 102 = .ok (.istore 5, 2) := by decide +kernel
theorem dX6_mergedCredit_104 : decode cX6_mergedCredit 104 = .ok (.iinc 6 1, 3) := by decide +kernel
theorem dX6_mergedCredit_107 : decode cX6_mergedCredit 107 = .ok (.goto (-79), 3) := by decide +kernel
theorem dX6_mergedCredit_110 : decode cX6_mergedCredit 110 = .ok (.iload_n 3, 1) := by decide +kernel
theorem dX6_mergedCredit_111 : decode cX6_mergedCredit 111 = .ok (.aload_n 0, 1) := by decide +kernel
theorem dX6_mergedCredit_112 : decode cX6_mergedCredit 112 = .ok (.iload 4, 2) := by decide +kernel
theorem dX6_mergedCredit_114 : decode cX6_mergedCredit 114 = .ok (.iload 5, 2) := by decide +kernel
theorem dX6_mergedCredit_116 : decode cX6_mergedCredit 116 = .ok (.invokevirtual 328, 3) := by decide +kernel
theorem dX6_mergedCredit_119 : decode cX6_mergedCredit 119 = .ok (.iadd, 1) := by decide +kernel
theorem dX6_mergedCredit_120 : decode cX6_mergedCredit 120 = .ok (.istore_n 3, 1) := by decide +kernel
theorem dX6_mergedCredit_121 : decode cX6_mergedCredit 121 = .ok (.iload_n 3, 1) := by decide +kernel
theorem dX6_mergedCredit_122 : decode cX6_mergedCredit 122 = .ok (.aload_n 0, 1) := by decide +kernel
theorem dX6_mergedCredit_123 : decode cX6_mergedCredit 123 = .ok (.getfield 10, 3) := by decide +kernel
theorem dX6_mergedCredit_126 : decode cX6_mergedCredit 126 = .ok (.getfield 222, 3) := by decide +kernel
theorem dX6_mergedCredit_129 : decode cX6_mergedCredit 129 = .ok (.iload_n 1, 1) := by decide +kernel
theorem dX6_mergedCredit_130 : decode cX6_mergedCredit 130 = .ok (.iaload, 1) := by decide +kernel
theorem dX6_mergedCredit_131 : decode cX6_mergedCredit 131 = .ok (.invokestatic 293, 3) := by decide +kernel
theorem dX6_mergedCredit_134 : decode cX6_mergedCredit 134 = .ok (.ireturn, 1) := by decide +kernel
theorem dX6_unservedDays_0 : decode cX6_unservedDays 0 = .ok (.iload_n 2, 1) := by decide +kernel
theorem dX6_unservedDays_1 : decode cX6_unservedDays 1 = .ok (.iload_n 1, 1) := by decide +kernel
theorem dX6_unservedDays_2 : decode cX6_unservedDays 2 = .ok (.isub, 1) := by decide +kernel
theorem dX6_unservedDays_3 : decode cX6_unservedDays 3 = .ok (.iconst 1, 1) := by decide +kernel
theorem dX6_unservedDays_4 : decode cX6_unservedDays 4 = .ok (.iadd, 1) := by decide +kernel
theorem dX6_unservedDays_5 : decode cX6_unservedDays 5 = .ok (.aload_n 0, 1) := by decide +kernel
theorem dX6_unservedDays_6 : decode cX6_unservedDays 6 = .ok (.getfield 40, 3) := by decide +kernel
theorem dX6_unservedDays_9 : decode cX6_unservedDays 9 = .ok (.iload_n 1, 1) := by decide +kernel
theorem dX6_unservedDays_10 : decode cX6_unservedDays 10 = .ok (.iload_n 2, 1) := by decide +kernel
theorem dX6_unservedDays_11 : decode cX6_unservedDays 11 = .ok (.invokevirtual 334, 3) := by decide +kernel
theorem dX6_unservedDays_14 : decode cX6_unservedDays 14 = .ok (.isub, 1) := by decide +kernel
theorem dX6_unservedDays_15 : decode cX6_unservedDays 15 = .ok (.ireturn, 1) := by decide +kernel
theorem dX6_releaseIn_0 : decode cX6_releaseIn 0 = .ok (.aload_n 0, 1) := by decide +kernel
theorem dX6_releaseIn_1 : decode cX6_releaseIn 1 = .ok (.getfield 10, 3) := by decide +kernel
theorem dX6_releaseIn_4 : decode cX6_releaseIn 4 = .ok (.iload_n 1, 1) := by decide +kernel
theorem dX6_releaseIn_5 : decode cX6_releaseIn 5 = .ok (.aload_n 0, 1) := by decide +kernel
theorem dX6_releaseIn_6 : decode cX6_releaseIn 6 = .ok (.getfield 26, 3) := by decide +kernel
theorem dX6_releaseIn_9 : decode cX6_releaseIn 9 = .ok (.aload_n 0, 1) := by decide +kernel
theorem dX6_releaseIn_10 : decode cX6_releaseIn 10 = .ok (.getfield 10, 3) := by decide +kernel
theorem dX6_releaseIn_13 : decode cX6_releaseIn 13 = .ok (.getfield 208, 3) := by decide +kernel
theorem dX6_releaseIn_16 : decode cX6_releaseIn 16 = .ok (.iload_n 1, 1) := by decide +kernel
theorem dX6_releaseIn_17 : decode cX6_releaseIn 17 = .ok (.iaload, 1) := by decide +kernel
theorem dX6_releaseIn_18 : decode cX6_releaseIn 18 = .ok (.invokevirtual 231, 3) := by decide +kernel
theorem dX6_releaseIn_21 : decode cX6_releaseIn 21 = .ok (.invokevirtual 337, 3) := by decide +kernel
theorem dX6_releaseIn_24 : decode cX6_releaseIn 24 = .ok (.ireturn, 1) := by decide +kernel
theorem dX6_servedRelease_0 : decode cX6_servedRelease 0 = .ok (.aload_n 0, 1) := by decide +kernel
theorem dX6_servedRelease_1 : decode cX6_servedRelease 1 = .ok (.getfield 10, 3) := by decide +kernel
theorem dX6_servedRelease_4 : decode cX6_servedRelease 4 = .ok (.getfield 225, 3) := by decide +kernel
theorem dX6_servedRelease_7 : decode cX6_servedRelease 7 = .ok (.iload_n 1, 1) := by decide +kernel
theorem dX6_servedRelease_8 : decode cX6_servedRelease 8 = .ok (.iaload, 1) := by decide +kernel
theorem dX6_servedRelease_9 : decode cX6_servedRelease 9 = .ok (.istore_n 2, 1) := by decide +kernel
theorem dX6_servedRelease_10 : decode cX6_servedRelease 10 = .ok (.aload_n 0, 1) := by decide +kernel
theorem dX6_servedRelease_11 : decode cX6_servedRelease 11 = .ok (.getfield 10, 3) := by decide +kernel
theorem dX6_servedRelease_14 : decode cX6_servedRelease 14 = .ok (.getfield 222, 3) := by decide +kernel
theorem dX6_servedRelease_17 : decode cX6_servedRelease 17 = .ok (.iload_n 1, 1) := by decide +kernel
theorem dX6_servedRelease_18 : decode cX6_servedRelease 18 = .ok (.iaload, 1) := by decide +kernel
theorem dX6_servedRelease_19 : decode cX6_servedRelease 19 = .ok (.iload_n 2, 1) := by decide +kernel
theorem dX6_servedRelease_20 : decode cX6_servedRelease 20 = .ok (.isub, 1) := by decide +kernel
theorem dX6_servedRelease_21 : decode cX6_servedRelease 21 = .ok (.istore_n 3, 1) := by decide +kernel
theorem dX6_servedRelease_22 : decode cX6_servedRelease 22 = .ok (.aload_n 0, 1) := by decide +kernel
theorem dX6_servedRelease_23 : decode cX6_servedRelease 23 = .ok (.getfield 10, 3) := by decide +kernel
theorem dX6_servedRelease_26 : decode cX6_servedRelease 26 = .ok (.getfield 155, 3) := by decide +kernel
theorem dX6_servedRelease_29 : decode cX6_servedRelease 29 = .ok (.iload_n 1, 1) := by decide +kernel
theorem dX6_servedRelease_30 : decode cX6_servedRelease 30 = .ok (.iaload, 1) := by decide +kernel
theorem dX6_servedRelease_31 : decode cX6_servedRelease 31 = .ok (.istore 4, 2) := by decide +kernel
theorem dX6_servedRelease_33 : decode cX6_servedRelease 33 = .ok (.iload 4, 2) := by decide +kernel
theorem dX6_servedRelease_35 : decode cX6_servedRelease 35 = .ok (.ifCond .le 22, 3) := by decide +kernel
theorem dX6_servedRelease_38 : decode cX6_servedRelease 38 = .ok (.iload_n 2, 1) := by decide +kernel
theorem dX6_servedRelease_39 : decode cX6_servedRelease 39 = .ok (.ifCond .le 9, 3) := by decide +kernel
theorem dX6_servedRelease_42 : decode cX6_servedRelease 42 = .ok (.iinc 2 (-1), 3) := by decide +kernel
theorem dX6_servedRelease_45 : decode cX6_servedRelease 45 = .ok (.goto 6, 3) := by decide +kernel
theorem dX6_servedRelease_48 : decode cX6_servedRelease 48 = .ok (.iinc 3 (-1), 3) := by decide +kernel
theorem dX6_servedRelease_51 : decode cX6_servedRelease 51 = .ok (.iinc 4 (-1), 3) := by decide +kernel
theorem dX6_servedRelease_54 : decode cX6_servedRelease 54 = .ok (.goto (-21), 3) := by decide +kernel
theorem dX6_servedRelease_57 : decode cX6_servedRelease 57 = .ok (.aload_n 0, 1) := by decide +kernel
theorem dX6_servedRelease_58 : decode cX6_servedRelease 58 = .ok (.getfield 26, 3) := by decide +kernel
theorem dX6_servedRelease_61 : decode cX6_servedRelease 61 = .ok (.aload_n 0, 1) := by decide +kernel
theorem dX6_servedRelease_62 : decode cX6_servedRelease 62 = .ok (.getfield 10, 3) := by decide +kernel
theorem dX6_servedRelease_65 : decode cX6_servedRelease 65 = .ok (.getfield 208, 3) := by decide +kernel
theorem dX6_servedRelease_68 : decode cX6_servedRelease 68 = .ok (.iload_n 1, 1) := by decide +kernel
theorem dX6_servedRelease_69 : decode cX6_servedRelease 69 = .ok (.iaload, 1) := by decide +kernel
theorem dX6_servedRelease_70 : decode cX6_servedRelease 70 = .ok (.invokevirtual 231, 3) := by decide +kernel
theorem dX6_servedRelease_73 : decode cX6_servedRelease 73 = .ok (.istore 4, 2) := by decide +kernel
theorem dX6_servedRelease_75 : decode cX6_servedRelease 75 = .ok (.iload 4, 2) := by decide +kernel
theorem dX6_servedRelease_77 : decode cX6_servedRelease 77 = .ok (.ifCond .le 19, 3) := by decide +kernel
theorem dX6_servedRelease_80 : decode cX6_servedRelease 80 = .ok (.iload_n 3, 1) := by decide +kernel
theorem dX6_servedRelease_81 : decode cX6_servedRelease 81 = .ok (.ifCond .le 9, 3) := by decide +kernel
theorem dX6_servedRelease_84 : decode cX6_servedRelease 84 = .ok (.iinc 3 (-1), 3) := by decide +kernel
theorem dX6_servedRelease_87 : decode cX6_servedRelease 87 = .ok (.iinc 2 1, 3) := by decide +kernel
theorem dX6_servedRelease_90 : decode cX6_servedRelease 90 = .ok (.iinc 4 (-1), 3) := by decide +kernel
theorem dX6_servedRelease_93 : decode cX6_servedRelease 93 = .ok (.goto (-18), 3) := by decide +kernel
theorem dX6_servedRelease_96 : decode cX6_servedRelease 96 = .ok (.aload_n 0, 1) := by decide +kernel
theorem dX6_servedRelease_97 : decode cX6_servedRelease 97 = .ok (.getfield 10, 3) := by decide +kernel
theorem dX6_servedRelease_100 : decode cX6_servedRelease 100 = .ok (.getfield 340, 3) := by decide +kernel
theorem dX6_servedRelease_103 : decode cX6_servedRelease 103 = .ok (.iload_n 1, 1) := by decide +kernel
theorem dX6_servedRelease_104 : decode cX6_servedRelease 104 = .ok (.iaload, 1) := by decide +kernel
theorem dX6_servedRelease_105 : decode cX6_servedRelease 105 = .ok (.istore 4, 2) := by decide +kernel
theorem dX6_servedRelease_107 : decode cX6_servedRelease 107 = .ok (.iload_n 2, 1) := by decide +kernel
theorem dX6_servedRelease_108 : decode cX6_servedRelease 108 = .ok (.istore 5, 2) := by decide +kernel
theorem dX6_servedRelease_110 : decode cX6_servedRelease 110 = .ok (.iload 5, 2) := by decide +kernel
theorem dX6_servedRelease_112 : decode cX6_servedRelease 112 = .ok (.ifCond .le 12, 3) := by decide +kernel
theorem dX6_servedRelease_115 : decode cX6_servedRelease 115 = .ok (.iinc 4 1, 3) := by decide +kernel
theorem dX6_servedRelease_118 : decode cX6_servedRelease 118 = .ok (.iinc 5 (-1), 3) := by decide +kernel
theorem dX6_servedRelease_121 : decode cX6_servedRelease 121 = .ok (.goto (-11), 3) := by decide +kernel
theorem dX6_servedRelease_124 : decode cX6_servedRelease 124 = .ok (.iload 4, 2) := by decide +kernel
theorem dX6_servedRelease_126 : decode cX6_servedRelease 126 = .ok (.ireturn, 1) := by decide +kernel
theorem dX6_termIsConsistent_0 : decode cX6_termIsConsistent 0 = .ok (.aload_n 0, 1) := by decide +kernel
theorem dX6_termIsConsistent_1 : decode cX6_termIsConsistent 1 = .ok (.iload_n 1, 1) := by decide +kernel
theorem dX6_termIsConsistent_2 : decode cX6_termIsConsistent 2 = .ok (.invokevirtual 136, 3) := by decide +kernel
theorem dX6_termIsConsistent_5 : decode cX6_termIsConsistent 5 = .ok (.istore_n 2, 1) := by decide +kernel
theorem dX6_termIsConsistent_6 : decode cX6_termIsConsistent 6 = .ok (.aload_n 0, 1) := by decide +kernel
theorem dX6_termIsConsistent_7 : decode cX6_termIsConsistent 7 = .ok (.getfield 10, 3) := by decide +kernel
theorem dX6_termIsConsistent_10 : decode cX6_termIsConsistent 10 = .ok (.getfield 155, 3) := by decide +kernel
theorem dX6_termIsConsistent_13 : decode cX6_termIsConsistent 13 = .ok (.iload_n 1, 1) := by decide +kernel
theorem dX6_termIsConsistent_14 : decode cX6_termIsConsistent 14 = .ok (.iaload, 1) := by decide +kernel
theorem dX6_termIsConsistent_15 : decode cX6_termIsConsistent 15 = .ok (.aload_n 0, 1) := by decide +kernel
theorem dX6_termIsConsistent_16 : decode cX6_termIsConsistent 16 = .ok (.iload_n 1, 1) := by decide +kernel
theorem dX6_termIsConsistent_17 : decode cX6_termIsConsistent 17 = .ok (.invokevirtual 228, 3) := by decide +kernel
theorem dX6_termIsConsistent_20 : decode cX6_termIsConsistent 20 = .ok (.if_icmp .ne 28, 3) := by decide +kernel
theorem dX6_termIsConsistent_23 : decode cX6_termIsConsistent 23 = .ok (.iload_n 2, 1) := by decide +kernel
theorem dX6_termIsConsistent_24 : decode cX6_termIsConsistent 24 = .ok (.aload_n 0, 1) := by decide +kernel
theorem dX6_termIsConsistent_25 : decode cX6_termIsConsistent 25 = .ok (.iload_n 1, 1) := by decide +kernel
theorem dX6_termIsConsistent_26 : decode cX6_termIsConsistent 26 = .ok (.invokevirtual 234, 3) := by decide +kernel
theorem dX6_termIsConsistent_29 : decode cX6_termIsConsistent 29 = .ok (.if_icmp .ne 19, 3) := by decide +kernel
theorem dX6_termIsConsistent_32 : decode cX6_termIsConsistent 32 = .ok (.iload_n 2, 1) := by decide +kernel
theorem dX6_termIsConsistent_33 : decode cX6_termIsConsistent 33 = .ok (.aload_n 0, 1) := by decide +kernel
theorem dX6_termIsConsistent_34 : decode cX6_termIsConsistent 34 = .ok (.getfield 10, 3) := by decide +kernel
theorem dX6_termIsConsistent_37 : decode cX6_termIsConsistent 37 = .ok (.iload_n 1, 1) := by decide +kernel
theorem dX6_termIsConsistent_38 : decode cX6_termIsConsistent 38 = .ok (.invokevirtual 237, 3) := by decide +kernel
theorem dX6_termIsConsistent_41 : decode cX6_termIsConsistent 41 = .ok (.if_icmp .gt 7, 3) := by decide +kernel
theorem dX6_termIsConsistent_44 : decode cX6_termIsConsistent 44 = .ok (.iconst 1, 1) := by decide +kernel
theorem dX6_termIsConsistent_45 : decode cX6_termIsConsistent 45 = .ok (.goto 4, 3) := by decide +kernel
theorem dX6_termIsConsistent_48 : decode cX6_termIsConsistent 48 = .ok (.iconst 0, 1) := by decide +kernel
theorem dX6_termIsConsistent_49 : decode cX6_termIsConsistent 49 = .ok (.ireturn, 1) := by decide +kernel
theorem dX6_greatestRelease_0 : decode cX6_greatestRelease 0 = .ok (.iconst 0, 1) := by decide +kernel
theorem dX6_greatestRelease_1 : decode cX6_greatestRelease 1 = .ok (.istore_n 3, 1) := by decide +kernel
theorem dX6_greatestRelease_2 : decode cX6_greatestRelease 2 = .ok (.iconst 0, 1) := by decide +kernel
theorem dX6_greatestRelease_3 : decode cX6_greatestRelease 3 = .ok (.istore 4, 2) := by decide +kernel
theorem dX6_greatestRelease_5 : decode cX6_greatestRelease 5 = .ok (.iload 4, 2) := by decide +kernel
theorem dX6_greatestRelease_7 : decode cX6_greatestRelease 7 = .ok (.aload_n 0, 1) := by decide +kernel
theorem dX6_greatestRelease_8 : decode cX6_greatestRelease 8 = .ok (.getfield 10, 3) := by decide +kernel
theorem dX6_greatestRelease_11 : decode cX6_greatestRelease 11 = .ok (.getfield 198, 3) := by decide +kernel
theorem dX6_greatestRelease_14 : decode cX6_greatestRelease 14 = .ok (.if_icmp .ge 82, 3) := by decide +kernel
theorem dX6_greatestRelease_17 : decode cX6_greatestRelease 17 = .ok (.aload_n 0, 1) := by decide +kernel
theorem dX6_greatestRelease_18 : decode cX6_greatestRelease 18 = .ok (.getfield 10, 3) := by decide +kernel
theorem dX6_greatestRelease_21 : decode cX6_greatestRelease 21 = .ok (.getfield 132, 3) := by decide +kernel
theorem dX6_greatestRelease_24 : decode cX6_greatestRelease 24 = .ok (.iload 4, 2) := by decide +kernel
theorem dX6_greatestRelease_26 : decode cX6_greatestRelease 26 = .ok (.baload, 1) := by decide +kernel
theorem dX6_greatestRelease_27 : decode cX6_greatestRelease 27 = .ok (.ifCond .ne 63, 3) := by decide +kernel
theorem dX6_greatestRelease_30 : decode cX6_greatestRelease 30 = .ok (.aload_n 0, 1) := by decide +kernel
theorem dX6_greatestRelease_31 : decode cX6_greatestRelease 31 = .ok (.getfield 10, 3) := by decide +kernel
theorem dX6_greatestRelease_34 : decode cX6_greatestRelease 34 = .ok (.getfield 208, 3) := by decide +kernel
theorem dX6_greatestRelease_37 : decode cX6_greatestRelease 37 = .ok (.iload 4, 2) := by decide +kernel
theorem dX6_greatestRelease_39 : decode cX6_greatestRelease 39 = .ok (.iaload, 1) := by decide +kernel
theorem dX6_greatestRelease_40 : decode cX6_greatestRelease 40 = .ok (.iload_n 1, 1) := by decide +kernel
theorem dX6_greatestRelease_41 : decode cX6_greatestRelease 41 = .ok (.iand, 1) := by decide +kernel
theorem dX6_greatestRelease_42 : decode cX6_greatestRelease 42 = .ok (.ifCond .eq 7, 3) := by decide +kernel
theorem dX6_greatestRelease_45 : decode cX6_greatestRelease 45 = .ok (.iload_n 2, 1) := by decide +kernel
theorem dX6_greatestRelease_46 : decode cX6_greatestRelease 46 = .ok (.goto 4, 3) := by decide +kernel
theorem dX6_greatestRelease_49 : decode cX6_greatestRelease 49 = .ok (.iconst 0, 1) := by decide +kernel
theorem dX6_greatestRelease_50 : decode cX6_greatestRelease 50 = .ok (.istore 5, 2) := by decide +kernel
theorem dX6_greatestRelease_52 : decode cX6_greatestRelease 52 = .ok (.aload_n 0, 1) := by decide +kernel
theorem dX6_greatestRelease_53 : decode cX6_greatestRelease 53 = .ok (.getfield 26, 3) := by decide +kernel
theorem dX6_greatestRelease_56 : decode cX6_greatestRelease 56 = .ok (.aload_n 0, 1) := by decide +kernel
theorem dX6_greatestRelease_57 : decode cX6_greatestRelease 57 = .ok (.getfield 10, 3) := by decide +kernel
theorem dX6_greatestRelease_60 : decode cX6_greatestRelease 60 = .ok (.getfield 208, 3) := by decide +kernel
theorem dX6_greatestRelease_63 : decode cX6_greatestRelease 63 = .ok (.iload 4, 2) := by decide +kernel
theorem dX6_greatestRelease_65 : decode cX6_greatestRelease 65 = .ok (.iaload, 1) := by decide +kernel
theorem dX6_greatestRelease_66 : decode cX6_greatestRelease 66 = .ok (.invokevirtual 231, 3) := by decide +kernel
theorem dX6_greatestRelease_69 : decode cX6_greatestRelease 69 = .ok (.iload 5, 2) := by decide +kernel
theorem dX6_greatestRelease_71 : decode cX6_greatestRelease 71 = .ok (.iadd, 1) := by decide +kernel
theorem dX6_greatestRelease_72 : decode cX6_greatestRelease 72 = .ok (.istore 6, 2) := by decide +kernel
theorem dX6_greatestRelease_74 : decode cX6_greatestRelease 74 = .ok (.iload_n 3, 1) := by decide +kernel
theorem dX6_greatestRelease_75 : decode cX6_greatestRelease 75 = .ok (.aload_n 0, 1) := by decide +kernel
theorem dX6_greatestRelease_76 : decode cX6_greatestRelease 76 = .ok (.getfield 10, 3) := by decide +kernel
theorem dX6_greatestRelease_79 : decode cX6_greatestRelease 79 = .ok (.iload 4, 2) := by decide +kernel
theorem dX6_greatestRelease_81 : decode cX6_greatestRelease 81 = .ok (.iload 6, 2) := by decide +kernel
theorem dX6_greatestRelease_83 : decode cX6_greatestRelease 83 = .ok (.invokevirtual 337, 3) := by decide +kernel
theorem dX6_greatestRelease_86 : decode cX6_greatestRelease 86 = .ok (.invokestatic 252, 3) := by decide +kernel
theorem dX6_greatestRelease_89 : decode cX6_greatestRelease 89 = .ok (.istore_n 3, 1) := by decide +kernel
theorem dX6_greatestRelease_90 : decode cX6_greatestRelease 90 = .ok (.iinc 4 1, 3) := by decide +kernel
theorem dX6_greatestRelease_93 : decode cX6_greatestRelease 93 = .ok (.goto (-88), 3) := by decide +kernel
theorem dX6_greatestRelease_96 : decode cX6_greatestRelease 96 = .ok (.iload_n 3, 1) := by decide +kernel
theorem dX6_greatestRelease_97 : decode cX6_greatestRelease 97 = .ok (.ireturn, 1) := by decide +kernel
theorem dX6_greatestEnd_0 : decode cX6_greatestEnd 0 = .ok (.iconst 0, 1) := by decide +kernel
theorem dX6_greatestEnd_1 : decode cX6_greatestEnd 1 = .ok (.istore_n 1, 1) := by decide +kernel
theorem dX6_greatestEnd_2 : decode cX6_greatestEnd 2 = .ok (.iconst 0, 1) := by decide +kernel
theorem dX6_greatestEnd_3 : decode cX6_greatestEnd 3 = .ok (.istore_n 2, 1) := by decide +kernel
theorem dX6_greatestEnd_4 : decode cX6_greatestEnd 4 = .ok (.iload_n 2, 1) := by decide +kernel
theorem dX6_greatestEnd_5 : decode cX6_greatestEnd 5 = .ok (.aload_n 0, 1) := by decide +kernel
theorem dX6_greatestEnd_6 : decode cX6_greatestEnd 6 = .ok (.getfield 10, 3) := by decide +kernel
theorem dX6_greatestEnd_9 : decode cX6_greatestEnd 9 = .ok (.getfield 198, 3) := by decide +kernel
theorem dX6_greatestEnd_12 : decode cX6_greatestEnd 12 = .ok (.if_icmp .ge 34, 3) := by decide +kernel
theorem dX6_greatestEnd_15 : decode cX6_greatestEnd 15 = .ok (.aload_n 0, 1) := by decide +kernel
theorem dX6_greatestEnd_16 : decode cX6_greatestEnd 16 = .ok (.getfield 10, 3) := by decide +kernel
theorem dX6_greatestEnd_19 : decode cX6_greatestEnd 19 = .ok (.getfield 132, 3) := by decide +kernel
theorem dX6_greatestEnd_22 : decode cX6_greatestEnd 22 = .ok (.iload_n 2, 1) := by decide +kernel
theorem dX6_greatestEnd_23 : decode cX6_greatestEnd 23 = .ok (.baload, 1) := by decide +kernel
theorem dX6_greatestEnd_24 : decode cX6_greatestEnd 24 = .ok (.ifCond .ne 16, 3) := by decide +kernel
theorem dX6_greatestEnd_27 : decode cX6_greatestEnd 27 = .ok (.iload_n 1, 1) := by decide +kernel
theorem dX6_greatestEnd_28 : decode cX6_greatestEnd 28 = .ok (.aload_n 0, 1) := by decide +kernel
theorem dX6_greatestEnd_29 : decode cX6_greatestEnd 29 = .ok (.getfield 10, 3) := by decide +kernel
theorem dX6_greatestEnd_32 : decode cX6_greatestEnd 32 = .ok (.iload_n 2, 1) := by decide +kernel
theorem dX6_greatestEnd_33 : decode cX6_greatestEnd 33 = .ok (.invokevirtual 237, 3) := by decide +kernel
theorem dX6_greatestEnd_36 : decode cX6_greatestEnd 36 = .ok (.invokestatic 252, 3) := by decide +kernel
theorem dX6_greatestEnd_39 : decode cX6_greatestEnd 39 = .ok (.istore_n 1, 1) := by decide +kernel
theorem dX6_greatestEnd_40 : decode cX6_greatestEnd 40 = .ok (.iinc 2 1, 3) := by decide +kernel
theorem dX6_greatestEnd_43 : decode cX6_greatestEnd 43 = .ok (.goto (-39), 3) := by decide +kernel
theorem dX6_greatestEnd_46 : decode cX6_greatestEnd 46 = .ok (.iload_n 1, 1) := by decide +kernel
theorem dX6_greatestEnd_47 : decode cX6_greatestEnd 47 = .ok (.ireturn, 1) := by decide +kernel
theorem dX6_termsUnreleased_0 : decode cX6_termsUnreleased 0 = .ok (.iconst 0, 1) := by decide +kernel
theorem dX6_termsUnreleased_1 : decode cX6_termsUnreleased 1 = .ok (.istore_n 1, 1) := by decide +kernel
theorem dX6_termsUnreleased_2 : decode cX6_termsUnreleased 2 = .ok (.iconst 0, 1) := by decide +kernel
theorem dX6_termsUnreleased_3 : decode cX6_termsUnreleased 3 = .ok (.istore_n 2, 1) := by decide +kernel
theorem dX6_termsUnreleased_4 : decode cX6_termsUnreleased 4 = .ok (.iload_n 2, 1) := by decide +kernel
theorem dX6_termsUnreleased_5 : decode cX6_termsUnreleased 5 = .ok (.aload_n 0, 1) := by decide +kernel
theorem dX6_termsUnreleased_6 : decode cX6_termsUnreleased 6 = .ok (.getfield 10, 3) := by decide +kernel
theorem dX6_termsUnreleased_9 : decode cX6_termsUnreleased 9 = .ok (.getfield 198, 3) := by decide +kernel
theorem dX6_termsUnreleased_12 : decode cX6_termsUnreleased 12 = .ok (.if_icmp .ge 39, 3) := by decide +kernel
theorem dX6_termsUnreleased_15 : decode cX6_termsUnreleased 15 = .ok (.aload_n 0, 1) := by decide +kernel
theorem dX6_termsUnreleased_16 : decode cX6_termsUnreleased 16 = .ok (.getfield 10, 3) := by decide +kernel
theorem dX6_termsUnreleased_19 : decode cX6_termsUnreleased 19 = .ok (.getfield 132, 3) := by decide +kernel
theorem dX6_termsUnreleased_22 : decode cX6_termsUnreleased 22 = .ok (.iload_n 2, 1) := by decide +kernel
theorem dX6_termsUnreleased_23 : decode cX6_termsUnreleased 23 = .ok (.baload, 1) := by decide +kernel
theorem dX6_termsUnreleased_24 : decode cX6_termsUnreleased 24 = .ok (.ifCond .ne 21, 3) := by decide +kernel
theorem dX6_termsUnreleased_27 : decode cX6_termsUnreleased 27 = .ok (.aload_n 0, 1) := by decide +kernel
theorem dX6_termsUnreleased_28 : decode cX6_termsUnreleased 28 = .ok (.iload_n 2, 1) := by decide +kernel
theorem dX6_termsUnreleased_29 : decode cX6_termsUnreleased 29 = .ok (.invokevirtual 136, 3) := by decide +kernel
theorem dX6_termsUnreleased_32 : decode cX6_termsUnreleased 32 = .ok (.aload_n 0, 1) := by decide +kernel
theorem dX6_termsUnreleased_33 : decode cX6_termsUnreleased 33 = .ok (.getfield 92, 3) := by decide +kernel
theorem dX6_termsUnreleased_36 : decode cX6_termsUnreleased 36 = .ok (.if_icmp .le 9, 3) := by decide +kernel
theorem dX6_termsUnreleased_39 : decode cX6_termsUnreleased 39 = .ok (.iload_n 1, 1) := by decide +kernel
theorem dX6_termsUnreleased_40 : decode cX6_termsUnreleased 40 = .ok (.iconst 1, 1) := by decide +kernel
theorem dX6_termsUnreleased_41 : decode cX6_termsUnreleased 41 = .ok (.iload_n 2, 1) := by decide +kernel
theorem dX6_termsUnreleased_42 : decode cX6_termsUnreleased 42 = .ok (.ishl, 1) := by decide +kernel
theorem dX6_termsUnreleased_43 : decode cX6_termsUnreleased 43 = .ok (.ior, 1) := by decide +kernel
theorem dX6_termsUnreleased_44 : decode cX6_termsUnreleased 44 = .ok (.istore_n 1, 1) := by decide +kernel
theorem dX6_termsUnreleased_45 : decode cX6_termsUnreleased 45 = .ok (.iinc 2 1, 3) := by decide +kernel
theorem dX6_termsUnreleased_48 : decode cX6_termsUnreleased 48 = .ok (.goto (-44), 3) := by decide +kernel
theorem dX6_termsUnreleased_51 : decode cX6_termsUnreleased 51 = .ok (.iload_n 1, 1) := by decide +kernel
theorem dX6_termsUnreleased_52 : decode cX6_termsUnreleased 52 = .ok (.ireturn, 1) := by decide +kernel
theorem dX6_placeByRelease_0 : decode cX6_placeByRelease 0 = .ok (.iconst 0, 1) := by decide +kernel
theorem dX6_placeByRelease_1 : decode cX6_placeByRelease 1 = .ok (.istore_n 2, 1) := by decide +kernel
theorem dX6_placeByRelease_2 : decode cX6_placeByRelease 2 = .ok (.iconst 0, 1) := by decide +kernel
theorem dX6_placeByRelease_3 : decode cX6_placeByRelease 3 = .ok (.istore_n 3, 1) := by decide +kernel
theorem dX6_placeByRelease_4 : decode cX6_placeByRelease 4 = .ok (.iload_n 3, 1) := by decide +kernel
theorem dX6_placeByRelease_5 : decode cX6_placeByRelease 5 = .ok (.aload_n 0, 1) := by decide +kernel
theorem dX6_placeByRelease_6 : decode cX6_placeByRelease 6 = .ok (.getfield 10, 3) := by decide +kernel
theorem dX6_placeByRelease_9 : decode cX6_placeByRelease 9 = .ok (.getfield 198, 3) := by decide +kernel
theorem dX6_placeByRelease_12 : decode cX6_placeByRelease 12 = .ok (.if_icmp .ge 33, 3) := by decide +kernel
theorem dX6_placeByRelease_15 : decode cX6_placeByRelease 15 = .ok (.aload_n 0, 1) := by decide +kernel
theorem dX6_placeByRelease_16 : decode cX6_placeByRelease 16 = .ok (.getfield 10, 3) := by decide +kernel
theorem dX6_placeByRelease_19 : decode cX6_placeByRelease 19 = .ok (.getfield 132, 3) := by decide +kernel
theorem dX6_placeByRelease_22 : decode cX6_placeByRelease 22 = .ok (.iload_n 3, 1) := by decide +kernel
theorem dX6_placeByRelease_23 : decode cX6_placeByRelease 23 = .ok (.baload, 1) := by decide +kernel
theorem dX6_placeByRelease_24 : decode cX6_placeByRelease 24 = .ok (.ifCond .ne 15, 3) := by decide +kernel
theorem dX6_placeByRelease_27 : decode cX6_placeByRelease 27 = .ok (.aload_n 0, 1) := by decide +kernel
theorem dX6_placeByRelease_28 : decode cX6_placeByRelease 28 = .ok (.iload_n 3, 1) := by decide +kernel
theorem dX6_placeByRelease_29 : decode cX6_placeByRelease 29 = .ok (.iload_n 1, 1) := by decide +kernel
theorem dX6_placeByRelease_30 : decode cX6_placeByRelease 30 = .ok (.invokevirtual 343, 3) := by decide +kernel
theorem dX6_placeByRelease_33 : decode cX6_placeByRelease 33 = .ok (.ifCond .eq 6, 3) := by decide +kernel
theorem dX6_placeByRelease_36 : decode cX6_placeByRelease 36 = .ok (.iinc 2 1, 3) := by decide +kernel
theorem dX6_placeByRelease_39 : decode cX6_placeByRelease 39 = .ok (.iinc 3 1, 3) := by decide +kernel
theorem dX6_placeByRelease_42 : decode cX6_placeByRelease 42 = .ok (.goto (-38), 3) := by decide +kernel
theorem dX6_placeByRelease_45 : decode cX6_placeByRelease 45 = .ok (.iload_n 2, 1) := by decide +kernel
theorem dX6_placeByRelease_46 : decode cX6_placeByRelease 46 = .ok (.ireturn, 1) := by decide +kernel
theorem dX6_comesBefore_0 : decode cX6_comesBefore 0 = .ok (.aload_n 0, 1) := by decide +kernel
theorem dX6_comesBefore_1 : decode cX6_comesBefore 1 = .ok (.iload_n 1, 1) := by decide +kernel
theorem dX6_comesBefore_2 : decode cX6_comesBefore 2 = .ok (.invokevirtual 136, 3) := by decide +kernel
theorem dX6_comesBefore_5 : decode cX6_comesBefore 5 = .ok (.aload_n 0, 1) := by decide +kernel
theorem dX6_comesBefore_6 : decode cX6_comesBefore 6 = .ok (.iload_n 2, 1) := by decide +kernel
theorem dX6_comesBefore_7 : decode cX6_comesBefore 7 = .ok (.invokevirtual 136, 3) := by decide +kernel
theorem dX6_comesBefore_10 : decode cX6_comesBefore 10 = .ok (.invokestatic 346, 3) := by decide +kernel
theorem dX6_comesBefore_13 : decode cX6_comesBefore 13 = .ok (.istore_n 3, 1) := by decide +kernel
theorem dX6_comesBefore_14 : decode cX6_comesBefore 14 = .ok (.iload_n 3, 1) := by decide +kernel
theorem dX6_comesBefore_15 : decode cX6_comesBefore 15 = .ok (.ifCond .eq 13, 3) := by decide +kernel
theorem dX6_comesBefore_18 : decode cX6_comesBefore 18 = .ok (.iload_n 3, 1) := by decide +kernel
theorem dX6_comesBefore_19 : decode cX6_comesBefore 19 = .ok (.ifCond .ge 7, 3) := by decide +kernel
theorem dX6_comesBefore_22 : decode cX6_comesBefore 22 = .ok (.iconst 1, 1) := by decide +kernel
theorem dX6_comesBefore_23 : decode cX6_comesBefore 23 = .ok (.goto 4, 3) := by decide +kernel
theorem dX6_comesBefore_26 : decode cX6_comesBefore 26 = .ok (.iconst 0, 1) := by decide +kernel
theorem dX6_comesBefore_27 : decode cX6_comesBefore 27 = .ok (.ireturn, 1) := by decide +kernel
theorem dX6_comesBefore_28 : decode cX6_comesBefore 28 = .ok (.aload_n 0, 1) := by decide +kernel
theorem dX6_comesBefore_29 : decode cX6_comesBefore 29 = .ok (.getfield 10, 3) := by decide +kernel
theorem dX6_comesBefore_32 : decode cX6_comesBefore 32 = .ok (.iload_n 1, 1) := by decide +kernel
theorem dX6_comesBefore_33 : decode cX6_comesBefore 33 = .ok (.invokevirtual 237, 3) := by decide +kernel
theorem dX6_comesBefore_36 : decode cX6_comesBefore 36 = .ok (.aload_n 0, 1) := by decide +kernel
theorem dX6_comesBefore_37 : decode cX6_comesBefore 37 = .ok (.getfield 10, 3) := by decide +kernel
theorem dX6_comesBefore_40 : decode cX6_comesBefore 40 = .ok (.iload_n 2, 1) := by decide +kernel
theorem dX6_comesBefore_41 : decode cX6_comesBefore 41 = .ok (.invokevirtual 237, 3) := by decide +kernel
theorem dX6_comesBefore_44 : decode cX6_comesBefore 44 = .ok (.invokestatic 346, 3) := by decide +kernel
theorem dX6_comesBefore_47 : decode cX6_comesBefore 47 = .ok (.istore 4, 2) := by decide +kernel
theorem dX6_comesBefore_49 : decode cX6_comesBefore 49 = .ok (.iload 4, 2) := by decide +kernel
theorem dX6_comesBefore_51 : decode cX6_comesBefore 51 = .ok (.ifCond .eq 16, 3) := by decide +kernel
theorem dX6_comesBefore_54 : decode cX6_comesBefore 54 = .ok (.iload 4, 2) := by decide +kernel
theorem dX6_comesBefore_56 : decode cX6_comesBefore 56 = .ok (.ifCond .ge 7, 3) := by decide +kernel
theorem dX6_comesBefore_59 : decode cX6_comesBefore 59 = .ok (.iconst 1, 1) := by decide +kernel
theorem dX6_comesBefore_60 : decode cX6_comesBefore 60 = .ok (.goto 17, 3) := by decide +kernel
theorem dX6_comesBefore_63 : decode cX6_comesBefore 63 = .ok (.iconst 0, 1) := by decide +kernel
theorem dX6_comesBefore_64 : decode cX6_comesBefore 64 = .ok (.goto 13, 3) := by decide +kernel
theorem dX6_comesBefore_67 : decode cX6_comesBefore 67 = .ok (.iload_n 1, 1) := by decide +kernel
theorem dX6_comesBefore_68 : decode cX6_comesBefore 68 = .ok (.iload_n 2, 1) := by decide +kernel
theorem dX6_comesBefore_69 : decode cX6_comesBefore 69 = .ok (.if_icmp .ge 7, 3) := by decide +kernel
theorem dX6_comesBefore_72 : decode cX6_comesBefore 72 = .ok (.iconst 1, 1) := by decide +kernel
theorem dX6_comesBefore_73 : decode cX6_comesBefore 73 = .ok (.goto 4, 3) := by decide +kernel
theorem dX6_comesBefore_76 : decode cX6_comesBefore 76 = .ok (.iconst 0, 1) := by decide +kernel
theorem dX6_comesBefore_77 : decode cX6_comesBefore 77 = .ok (.ireturn, 1) := by decide +kernel
theorem dX6_recallsMade_0 : decode cX6_recallsMade 0 = .ok (.aload_n 0, 1) := by decide +kernel
theorem dX6_recallsMade_1 : decode cX6_recallsMade 1 = .ok (.getfield 33, 3) := by decide +kernel
theorem dX6_recallsMade_4 : decode cX6_recallsMade 4 = .ok (.getfield 172, 3) := by decide +kernel
theorem dX6_recallsMade_7 : decode cX6_recallsMade 7 = .ok (.iconst 1, 1) := by decide +kernel
theorem dX6_recallsMade_8 : decode cX6_recallsMade 8 = .ok (.iadd, 1) := by decide +kernel
theorem dX6_recallsMade_9 : decode cX6_recallsMade 9 = .ok (.ireturn, 1) := by decide +kernel
theorem dX6_latestRecallEnd_0 : decode cX6_latestRecallEnd 0 = .ok (.aload_n 0, 1) := by decide +kernel
theorem dX6_latestRecallEnd_1 : decode cX6_latestRecallEnd 1 = .ok (.getfield 33, 3) := by decide +kernel
theorem dX6_latestRecallEnd_4 : decode cX6_latestRecallEnd 4 = .ok (.aload_n 0, 1) := by decide +kernel
theorem dX6_latestRecallEnd_5 : decode cX6_latestRecallEnd 5 = .ok (.getfield 26, 3) := by decide +kernel
theorem dX6_latestRecallEnd_8 : decode cX6_latestRecallEnd 8 = .ok (.aload_n 0, 1) := by decide +kernel
theorem dX6_latestRecallEnd_9 : decode cX6_latestRecallEnd 9 = .ok (.getfield 33, 3) := by decide +kernel
theorem dX6_latestRecallEnd_12 : decode cX6_latestRecallEnd 12 = .ok (.getfield 172, 3) := by decide +kernel
theorem dX6_latestRecallEnd_15 : decode cX6_latestRecallEnd 15 = .ok (.invokevirtual 349, 3) := by decide +kernel
theorem dX6_latestRecallEnd_18 : decode cX6_latestRecallEnd 18 = .ok (.invokevirtual 352, 3) := by decide +kernel
theorem dX6_latestRecallEnd_21 : decode cX6_latestRecallEnd 21 = .ok (.ireturn, 1) := by decide +kernel
theorem dX6_recallIsRunning_0 : decode cX6_recallIsRunning 0 = .ok (.aload_n 0, 1) := by decide +kernel
theorem dX6_recallIsRunning_1 : decode cX6_recallIsRunning 1 = .ok (.invokevirtual 189, 3) := by decide +kernel
theorem dX6_recallIsRunning_4 : decode cX6_recallIsRunning 4 = .ok (.ifCond .le 18, 3) := by decide +kernel
theorem dX6_recallIsRunning_7 : decode cX6_recallIsRunning 7 = .ok (.aload_n 0, 1) := by decide +kernel
theorem dX6_recallIsRunning_8 : decode cX6_recallIsRunning 8 = .ok (.invokevirtual 195, 3) := by decide +kernel
theorem dX6_recallIsRunning_11 : decode cX6_recallIsRunning 11 = .ok (.aload_n 0, 1) := by decide +kernel
theorem dX6_recallIsRunning_12 : decode cX6_recallIsRunning 12 = .ok (.getfield 92, 3) := by decide +kernel
theorem dX6_recallIsRunning_15 : decode cX6_recallIsRunning 15 = .ok (.if_icmp .le 7, 3) := by decide +kernel
theorem dX6_recallIsRunning_18 : decode cX6_recallIsRunning 18 = .ok (.iconst 1, 1) := by decide +kernel
theorem dX6_recallIsRunning_19 : decode cX6_recallIsRunning 19 = .ok (.goto 4, 3) := by decide +kernel
theorem dX6_recallIsRunning_22 : decode cX6_recallIsRunning 22 = .ok (.iconst 0, 1) := by decide +kernel
theorem dX6_recallIsRunning_23 : decode cX6_recallIsRunning 23 = .ok (.ireturn, 1) := by decide +kernel
theorem dX6_custodyEnd_0 : decode cX6_custodyEnd 0 = .ok (.aload_n 0, 1) := by decide +kernel
theorem dX6_custodyEnd_1 : decode cX6_custodyEnd 1 = .ok (.iconst 0, 1) := by decide +kernel
theorem dX6_custodyEnd_2 : decode cX6_custodyEnd 2 = .ok (.iconst 0, 1) := by decide +kernel
theorem dX6_custodyEnd_3 : decode cX6_custodyEnd 3 = .ok (.invokevirtual 243, 3) := by decide +kernel
theorem dX6_custodyEnd_6 : decode cX6_custodyEnd 6 = .ok (.istore_n 1, 1) := by decide +kernel
theorem dX6_custodyEnd_7 : decode cX6_custodyEnd 7 = .ok (.aload_n 0, 1) := by decide +kernel
theorem dX6_custodyEnd_8 : decode cX6_custodyEnd 8 = .ok (.invokevirtual 168, 3) := by decide +kernel
theorem dX6_custodyEnd_11 : decode cX6_custodyEnd 11 = .ok (.ifCond .eq 14, 3) := by decide +kernel
theorem dX6_custodyEnd_14 : decode cX6_custodyEnd 14 = .ok (.iload_n 1, 1) := by decide +kernel
theorem dX6_custodyEnd_15 : decode cX6_custodyEnd 15 = .ok (.aload_n 0, 1) := by decide +kernel
theorem dX6_custodyEnd_16 : decode cX6_custodyEnd 16 = .ok (.invokevirtual 195, 3) := by decide +kernel
theorem dX6_custodyEnd_19 : decode cX6_custodyEnd 19 = .ok (.invokestatic 252, 3) := by decide +kernel
theorem dX6_custodyEnd_22 : decode cX6_custodyEnd 22 = .ok (.goto 4, 3) := by decide +kernel
theorem dX6_custodyEnd_25 : decode cX6_custodyEnd 25 = .ok (.iload_n 1, 1) := by decide +kernel
theorem dX6_custodyEnd_26 : decode cX6_custodyEnd 26 = .ok (.ireturn, 1) := by decide +kernel
theorem dX6_currentStatus_0 : decode cX6_currentStatus 0 = .ok (.aload_n 0, 1) := by decide +kernel
theorem dX6_currentStatus_1 : decode cX6_currentStatus 1 = .ok (.invokevirtual 99, 3) := by decide +kernel
theorem dX6_currentStatus_4 : decode cX6_currentStatus 4 = .ok (.aload_n 0, 1) := by decide +kernel
theorem dX6_currentStatus_5 : decode cX6_currentStatus 5 = .ok (.getfield 92, 3) := by decide +kernel
theorem dX6_currentStatus_8 : decode cX6_currentStatus 8 = .ok (.if_icmp .le 5, 3) := by decide +kernel
theorem dX6_currentStatus_11 : decode cX6_currentStatus 11 = .ok (.iconst 2, 1) := by decide +kernel
theorem dX6_currentStatus_12 : decode cX6_currentStatus 12 = .ok (.ireturn, 1) := by decide +kernel
theorem dX6_currentStatus_13 : decode cX6_currentStatus 13 = .ok (.aload_n 0, 1) := by decide +kernel
theorem dX6_currentStatus_14 : decode cX6_currentStatus 14 = .ok (.invokevirtual 106, 3) := by decide +kernel
theorem dX6_currentStatus_17 : decode cX6_currentStatus 17 = .ok (.aload_n 0, 1) := by decide +kernel
theorem dX6_currentStatus_18 : decode cX6_currentStatus 18 = .ok (.getfield 92, 3) := by decide +kernel
theorem dX6_currentStatus_21 : decode cX6_currentStatus 21 = .ok (.if_icmp .le 7, 3) := by decide +kernel
theorem dX6_currentStatus_24 : decode cX6_currentStatus 24 = .ok (.iconst 1, 1) := by decide +kernel
theorem dX6_currentStatus_25 : decode cX6_currentStatus 25 = .ok (.goto 4, 3) := by decide +kernel
theorem dX6_currentStatus_28 : decode cX6_currentStatus 28 = .ok (.iconst 0, 1) := by decide +kernel
theorem dX6_currentStatus_29 : decode cX6_currentStatus 29 = .ok (.ireturn, 1) := by decide +kernel
theorem dX6_pastStatus_0 : decode cX6_pastStatus 0 = .ok (.aload_n 0, 1) := by decide +kernel
theorem dX6_pastStatus_1 : decode cX6_pastStatus 1 = .ok (.getfield 40, 3) := by decide +kernel
theorem dX6_pastStatus_4 : decode cX6_pastStatus 4 = .ok (.iload_n 1, 1) := by decide +kernel
theorem dX6_pastStatus_5 : decode cX6_pastStatus 5 = .ok (.invokevirtual 355, 3) := by decide +kernel
theorem dX6_pastStatus_8 : decode cX6_pastStatus 8 = .ok (.ifCond .eq 5, 3) := by decide +kernel
theorem dX6_pastStatus_11 : decode cX6_pastStatus 11 = .ok (.iconst 2, 1) := by decide +kernel
theorem dX6_pastStatus_12 : decode cX6_pastStatus 12 = .ok (.ireturn, 1) := by decide +kernel
theorem dX6_pastStatus_13 : decode cX6_pastStatus 13 = .ok (.aload_n 0, 1) := by decide +kernel
theorem dX6_pastStatus_14 : decode cX6_pastStatus 14 = .ok (.getfield 44, 3) := by decide +kernel
theorem dX6_pastStatus_17 : decode cX6_pastStatus 17 = .ok (.iload_n 1, 1) := by decide +kernel
theorem dX6_pastStatus_18 : decode cX6_pastStatus 18 = .ok (.invokevirtual 355, 3) := by decide +kernel
theorem dX6_pastStatus_21 : decode cX6_pastStatus 21 = .ok (.ifCond .eq 7, 3) := by decide +kernel
theorem dX6_pastStatus_24 : decode cX6_pastStatus 24 = .ok (.iconst 1, 1) := by decide +kernel
theorem dX6_pastStatus_25 : decode cX6_pastStatus 25 = .ok (.goto 4, 3) := by decide +kernel
theorem dX6_pastStatus_28 : decode cX6_pastStatus 28 = .ok (.iconst 0, 1) := by decide +kernel
theorem dX6_pastStatus_29 : decode cX6_pastStatus 29 = .ok (.ireturn, 1) := by decide +kernel
theorem dX6_writeRun_0 : decode cX6_writeRun 0 = .ok (.aload_n 0, 1) := by decide +kernel
theorem dX6_writeRun_1 : decode cX6_writeRun 1 = .ok (.getfield 53, 3) := by decide +kernel
theorem dX6_writeRun_4 : decode cX6_writeRun 4 = .ok (.invokevirtual 278, 3) := by decide +kernel
theorem dX6_writeRun_7 : decode cX6_writeRun 7 = .ok (.ifCond .le 13, 3) := by decide +kernel
theorem dX6_writeRun_10 : decode cX6_writeRun 10 = .ok (.aload_n 0, 1) := by decide +kernel
theorem dX6_writeRun_11 : decode cX6_writeRun 11 = .ok (.getfield 53, 3) := by decide +kernel
theorem dX6_writeRun_14 : decode cX6_writeRun 14 = .ok (.bipush 32, 2) := by decide +kernel
theorem dX6_writeRun_16 : decode cX6_writeRun 16 = .ok (.invokevirtual 358, 3) := by decide +kernel
theorem dX6_writeRun_19 : decode cX6_writeRun 19 = .ok (.pop, 1) := by decide +kernel
theorem dX6_writeRun_20 : decode cX6_writeRun 20 = .ok (.iload_n 1, 1) := by decide +kernel
theorem dX6_writeRun_21 : decode cX6_writeRun 21 = .ok (.iconst 2, 1) := by decide +kernel
theorem dX6_writeRun_22 : decode cX6_writeRun 22 = .ok (.if_icmp .ne 8, 3) := by decide +kernel
theorem dX6_writeRun_25 : decode cX6_writeRun 25 = .ok (.bipush 99, 2) := by decide +kernel
theorem dX6_writeRun_27 : decode cX6_writeRun 27 = .ok (.goto 15, 3) := by decide +kernel
theorem dX6_writeRun_30 : decode cX6_writeRun 30 = .ok (.iload_n 1, 1) := by decide +kernel
theorem dX6_writeRun_31 : decode cX6_writeRun 31 = .ok (.iconst 1, 1) := by decide +kernel
theorem dX6_writeRun_32 : decode cX6_writeRun 32 = .ok (.if_icmp .ne 8, 3) := by decide +kernel
theorem dX6_writeRun_35 : decode cX6_writeRun 35 = .ok (.bipush 108, 2) := by decide +kernel
theorem dX6_writeRun_37 : decode cX6_writeRun 37 = .ok (.goto 5, 3) := by decide +kernel
theorem dX6_writeRun_40 : decode cX6_writeRun 40 = .ok (.bipush 102, 2) := by decide +kernel
theorem dX6_writeRun_42 : decode cX6_writeRun 42 = .ok (.istore_n 3, 1) := by decide +kernel
theorem dX6_writeRun_43 : decode cX6_writeRun 43 = .ok (.aload_n 0, 1) := by decide +kernel
theorem dX6_writeRun_44 : decode cX6_writeRun 44 = .ok (.getfield 53, 3) := by decide +kernel
theorem dX6_writeRun_47 : decode cX6_writeRun 47 = .ok (.iload_n 3, 1) := by decide +kernel
theorem dX6_writeRun_48 : decode cX6_writeRun 48 = .ok (.invokevirtual 358, 3) := by decide +kernel
theorem dX6_writeRun_51 : decode cX6_writeRun 51 = .ok (.pop, 1) := by decide +kernel
theorem dX6_writeRun_52 : decode cX6_writeRun 52 = .ok (.aload_n 0, 1) := by decide +kernel
theorem dX6_writeRun_53 : decode cX6_writeRun 53 = .ok (.getfield 53, 3) := by decide +kernel
theorem dX6_writeRun_56 : decode cX6_writeRun 56 = .ok (.iload_n 2, 1) := by decide +kernel
theorem dX6_writeRun_57 : decode cX6_writeRun 57 = .ok (.invokevirtual 362, 3) := by decide +kernel
theorem dX6_writeRun_60 : decode cX6_writeRun 60 = .ok (.pop, 1) := by decide +kernel
theorem dX6_writeRun_61 : decode cX6_writeRun 61 = .ok (.return_, 1) := by decide +kernel
theorem dX7_init_0 : decode cX7_init 0 = .ok (.aload_n 0, 1) := by decide +kernel
theorem dX7_init_1 : decode cX7_init 1 = .ok (.invokespecial 1, 3) := by decide +kernel
theorem dX7_init_4 : decode cX7_init 4 = .ok (.aload_n 0, 1) := by decide +kernel
theorem dX7_init_5 : decode cX7_init 5 = .ok (.sipush 14610, 3) := by decide +kernel
theorem dX7_init_8 : decode cX7_init 8 = .ok (.newarray .byte, 2) := by decide +kernel
theorem dX7_init_10 : decode cX7_init 10 = .ok (.putfield 9, 3) := by decide +kernel
theorem dX7_init_13 : decode cX7_init 13 = .ok (.aload_n 0, 1) := by decide +kernel
theorem dX7_init_14 : decode cX7_init 14 = .ok (.sipush 14611, 3) := by decide +kernel
theorem dX7_init_17 : decode cX7_init 17 = .ok (.newarray .int, 2) := by decide +kernel
theorem dX7_init_19 : decode cX7_init 19 = .ok (.putfield 13, 3) := by decide +kernel
theorem dX7_init_22 : decode cX7_init 22 = .ok (.aload_n 0, 1) := by decide +kernel
theorem dX7_init_23 : decode cX7_init 23 = .ok (.bipush 10, 2) := by decide +kernel
theorem dX7_init_25 : decode cX7_init 25 = .ok (.newarray .int, 2) := by decide +kernel
theorem dX7_init_27 : decode cX7_init 27 = .ok (.putfield 17, 3) := by decide +kernel
theorem dX7_init_30 : decode cX7_init 30 = .ok (.aload_n 0, 1) := by decide +kernel
theorem dX7_init_31 : decode cX7_init 31 = .ok (.bipush 10, 2) := by decide +kernel
theorem dX7_init_33 : decode cX7_init 33 = .ok (.newarray .int, 2) := by decide +kernel
theorem dX7_init_35 : decode cX7_init 35 = .ok (.putfield 20, 3) := by decide +kernel
theorem dX7_init_38 : decode cX7_init 38 = .ok (.aload_n 0, 1) := by decide +kernel
theorem dX7_init_39 : decode cX7_init 39 = .ok (.bipush 10, 2) := by decide +kernel
theorem dX7_init_41 : decode cX7_init 41 = .ok (.newarray .int, 2) := by decide +kernel
theorem dX7_init_43 : decode cX7_init 43 = .ok (.putfield 23, 3) := by decide +kernel
theorem dX7_init_46 : decode cX7_init 46 = .ok (.aload_n 0, 1) := by decide +kernel
theorem dX7_init_47 : decode cX7_init 47 = .ok (.bipush 10, 2) := by decide +kernel
theorem dX7_init_49 : decode cX7_init 49 = .ok (.newarray .int, 2) := by decide +kernel
theorem dX7_init_51 : decode cX7_init 51 = .ok (.putfield 26, 3) := by decide +kernel
theorem dX7_init_54 : decode cX7_init 54 = .ok (.aload_n 0, 1) := by decide +kernel
theorem dX7_init_55 : decode cX7_init 55 = .ok (.bipush 10, 2) := by decide +kernel
theorem dX7_init_57 : decode cX7_init 57 = .ok (.newarray .int, 2) := by decide +kernel
theorem dX7_init_59 : decode cX7_init 59 = .ok (.putfield 29, 3) := by decide +kernel
theorem dX7_init_62 : decode cX7_init 62 = .ok (.aload_n 0, 1) := by decide +kernel
theorem dX7_init_63 : decode cX7_init 63 = .ok (.bipush 10, 2) := by decide +kernel
theorem dX7_init_65 : decode cX7_init 65 = .ok (.newarray .int, 2) := by decide +kernel
theorem dX7_init_67 : decode cX7_init 67 = .ok (.putfield 32, 3) := by decide +kernel
theorem dX7_init_70 : decode cX7_init 70 = .ok (.aload_n 0, 1) := by decide +kernel
theorem dX7_init_71 : decode cX7_init 71 = .ok (.bipush 10, 2) := by decide +kernel
theorem dX7_init_73 : decode cX7_init 73 = .ok (.newarray .boolean, 2) := by decide +kernel
theorem dX7_init_75 : decode cX7_init 75 = .ok (.putfield 35, 3) := by decide +kernel
theorem dX7_init_78 : decode cX7_init 78 = .ok (.aload_n 0, 1) := by decide +kernel
theorem dX7_init_79 : decode cX7_init 79 = .ok (.bipush 8, 2) := by decide +kernel
theorem dX7_init_81 : decode cX7_init 81 = .ok (.newarray .int, 2) := by decide +kernel
theorem dX7_init_83 : decode cX7_init 83 = .ok (.putfield 39, 3) := by decide +kernel
theorem dX7_init_86 : decode cX7_init 86 = .ok (.aload_n 0, 1) := by decide +kernel
theorem dX7_init_87 : decode cX7_init 87 = .ok (.bipush 8, 2) := by decide +kernel
theorem dX7_init_89 : decode cX7_init 89 = .ok (.newarray .int, 2) := by decide +kernel
theorem dX7_init_91 : decode cX7_init 91 = .ok (.putfield 42, 3) := by decide +kernel
theorem dX7_init_94 : decode cX7_init 94 = .ok (.aload_n 0, 1) := by decide +kernel
theorem dX7_init_95 : decode cX7_init 95 = .ok (.bipush 8, 2) := by decide +kernel
theorem dX7_init_97 : decode cX7_init 97 = .ok (.newarray .int, 2) := by decide +kernel
theorem dX7_init_99 : decode cX7_init 99 = .ok (.putfield 45, 3) := by decide +kernel
theorem dX7_init_102 : decode cX7_init 102 = .ok (.aload_n 0, 1) := by decide +kernel
theorem dX7_init_103 : decode cX7_init 103 = .ok (.bipush 8, 2) := by decide +kernel
theorem dX7_init_105 : decode cX7_init 105 = .ok (.newarray .int, 2) := by decide +kernel
theorem dX7_init_107 : decode cX7_init 107 = .ok (.putfield 48, 3) := by decide +kernel
theorem dX7_init_110 : decode cX7_init 110 = .ok (.aload_n 0, 1) := by decide +kernel
theorem dX7_init_111 : decode cX7_init 111 = .ok (.bipush 8, 2) := by decide +kernel
theorem dX7_init_113 : decode cX7_init 113 = .ok (.newarray .int, 2) := by decide +kernel
theorem dX7_init_115 : decode cX7_init 115 = .ok (.putfield 51, 3) := by decide +kernel
theorem dX7_init_118 : decode cX7_init 118 = .ok (.aload_n 0, 1) := by decide +kernel
theorem dX7_init_119 : decode cX7_init 119 = .ok (.bipush 8, 2) := by decide +kernel
theorem dX7_init_121 : decode cX7_init 121 = .ok (.newarray .int, 2) := by decide +kernel
theorem dX7_init_123 : decode cX7_init 123 = .ok (.putfield 54, 3) := by decide +kernel
theorem dX7_init_126 : decode cX7_init 126 = .ok (.aload_n 0, 1) := by decide +kernel
theorem dX7_init_127 : decode cX7_init 127 = .ok (.bipush 10, 2) := by decide +kernel
theorem dX7_init_129 : decode cX7_init 129 = .ok (.newarray .int, 2) := by decide +kernel
theorem dX7_init_131 : decode cX7_init 131 = .ok (.putfield 57, 3) := by decide +kernel
theorem dX7_init_134 : decode cX7_init 134 = .ok (.aload_n 0, 1) := by decide +kernel
theorem dX7_init_135 : decode cX7_init 135 = .ok (.bipush 10, 2) := by decide +kernel
theorem dX7_init_137 : decode cX7_init 137 = .ok (.newarray .int, 2) := by decide +kernel
theorem dX7_init_139 : decode cX7_init 139 = .ok (.putfield 60, 3) := by decide +kernel
theorem dX7_init_142 : decode cX7_init 142 = .ok (.aload_n 0, 1) := by decide +kernel
theorem dX7_init_143 : decode cX7_init 143 = .ok (.bipush 10, 2) := by decide +kernel
theorem dX7_init_145 : decode cX7_init 145 = .ok (.newarray .int, 2) := by decide +kernel
theorem dX7_init_147 : decode cX7_init 147 = .ok (.putfield 63, 3) := by decide +kernel
theorem dX7_init_150 : decode cX7_init 150 = .ok (.aload_n 0, 1) := by decide +kernel
theorem dX7_init_151 : decode cX7_init 151 = .ok (.bipush 10, 2) := by decide +kernel
theorem dX7_init_153 : decode cX7_init 153 = .ok (.newarray .int, 2) := by decide +kernel
theorem dX7_init_155 : decode cX7_init 155 = .ok (.putfield 66, 3) := by decide +kernel
theorem dX7_init_158 : decode cX7_init 158 = .ok (.aload_n 0, 1) := by decide +kernel
theorem dX7_init_159 : decode cX7_init 159 = .ok (.bipush 10, 2) := by decide +kernel
theorem dX7_init_161 : decode cX7_init 161 = .ok (.newarray .int, 2) := by decide +kernel
theorem dX7_init_163 : decode cX7_init 163 = .ok (.putfield 69, 3) := by decide +kernel
theorem dX7_init_166 : decode cX7_init 166 = .ok (.aload_n 0, 1) := by decide +kernel
theorem dX7_init_167 : decode cX7_init 167 = .ok (.bipush 10, 2) := by decide +kernel
theorem dX7_init_169 : decode cX7_init 169 = .ok (.newarray .int, 2) := by decide +kernel
theorem dX7_init_171 : decode cX7_init 171 = .ok (.putfield 72, 3) := by decide +kernel
theorem dX7_init_174 : decode cX7_init 174 = .ok (.aload_n 0, 1) := by decide +kernel
theorem dX7_init_175 : decode cX7_init 175 = .ok (.bipush 10, 2) := by decide +kernel
theorem dX7_init_177 : decode cX7_init 177 = .ok (.newarray .int, 2) := by decide +kernel
theorem dX7_init_179 : decode cX7_init 179 = .ok (.putfield 75, 3) := by decide +kernel
theorem dX7_init_182 : decode cX7_init 182 = .ok (.aload_n 0, 1) := by decide +kernel
theorem dX7_init_183 : decode cX7_init 183 = .ok (.bipush 10, 2) := by decide +kernel
theorem dX7_init_185 : decode cX7_init 185 = .ok (.newarray .int, 2) := by decide +kernel
theorem dX7_init_187 : decode cX7_init 187 = .ok (.putfield 78, 3) := by decide +kernel
theorem dX7_init_190 : decode cX7_init 190 = .ok (.aload_n 0, 1) := by decide +kernel
theorem dX7_init_191 : decode cX7_init 191 = .ok (.bipush 10, 2) := by decide +kernel
theorem dX7_init_193 : decode cX7_init 193 = .ok (.newarray .int, 2) := by decide +kernel
theorem dX7_init_195 : decode cX7_init 195 = .ok (.putfield 81, 3) := by decide +kernel
theorem dX7_init_198 : decode cX7_init 198 = .ok (.aload_n 0, 1) := by decide +kernel
theorem dX7_init_199 : decode cX7_init 199 = .ok (.bipush 10, 2) := by decide +kernel
theorem dX7_init_201 : decode cX7_init 201 = .ok (.newarray .int, 2) := by decide +kernel
theorem dX7_init_203 : decode cX7_init 203 = .ok (.putfield 84, 3) := by decide +kernel
theorem dX7_init_206 : decode cX7_init 206 = .ok (.aload_n 0, 1) := by decide +kernel
theorem dX7_init_207 : decode cX7_init 207 = .ok (.bipush 10, 2) := by decide +kernel
theorem dX7_init_209 : decode cX7_init 209 = .ok (.newarray .int, 2) := by decide +kernel
theorem dX7_init_211 : decode cX7_init 211 = .ok (.putfield 87, 3) := by decide +kernel
theorem dX7_init_214 : decode cX7_init 214 = .ok (.aload_n 0, 1) := by decide +kernel
theorem dX7_init_215 : decode cX7_init 215 = .ok (.bipush 10, 2) := by decide +kernel
theorem dX7_init_217 : decode cX7_init 217 = .ok (.newarray .int, 2) := by decide +kernel
theorem dX7_init_219 : decode cX7_init 219 = .ok (.putfield 90, 3) := by decide +kernel
theorem dX7_init_222 : decode cX7_init 222 = .ok (.return_, 1) := by decide +kernel
theorem dX7_thrown_0 : decode cX7_thrown 0 = .ok (.aload_n 0, 1) := by decide +kernel
theorem dX7_thrown_1 : decode cX7_thrown 1 = .ok (.getfield 93, 3) := by decide +kernel
theorem dX7_thrown_4 : decode cX7_thrown 4 = .ok (.ireturn, 1) := by decide +kernel
theorem dX7_in_0 : decode cX7_in 0 = .ok (.iload_n 0, 1) := by decide +kernel
theorem dX7_in_1 : decode cX7_in 1 = .ok (.iload_n 1, 1) := by decide +kernel
theorem dX7_in_2 : decode cX7_in 2 = .ok (.if_icmp .lt 12, 3) := by decide +kernel
theorem dX7_in_5 : decode cX7_in 5 = .ok (.iload_n 0, 1) := by decide +kernel
theorem dX7_in_6 : decode cX7_in 6 = .ok (.iload_n 2, 1) := by decide +kernel
theorem dX7_in_7 : decode cX7_in 7 = .ok (.if_icmp .gt 7, 3) := by decide +kernel
theorem dX7_in_10 : decode cX7_in 10 = .ok (.iconst 1, 1) := by decide +kernel
theorem dX7_in_11 : decode cX7_in 11 = .ok (.goto 4, 3) := by decide +kernel
theorem dX7_in_14 : decode cX7_in 14 = .ok (.iconst 0, 1) := by decide +kernel
theorem dX7_in_15 : decode cX7_in 15 = .ok (.ireturn, 1) := by decide +kernel
theorem dX7_fails_0 : decode cX7_fails 0 = .ok (.aload_n 0, 1) := by decide +kernel
theorem dX7_fails_1 : decode cX7_fails 1 = .ok (.iload_n 1, 1) := by decide +kernel
theorem dX7_fails_2 : decode cX7_fails 2 = .ok (.putfield 93, 3) := by decide +kernel
theorem dX7_fails_5 : decode cX7_fails 5 = .ok (.iload_n 1, 1) := by decide +kernel
theorem dX7_fails_6 : decode cX7_fails 6 = .ok (.ifCond .le 7, 3) := by decide +kernel
theorem dX7_fails_9 : decode cX7_fails 9 = .ok (.iconst 1, 1) := by decide +kernel
theorem dX7_fails_10 : decode cX7_fails 10 = .ok (.goto 4, 3) := by decide +kernel
theorem dX7_fails_13 : decode cX7_fails 13 = .ok (.iconst 0, 1) := by decide +kernel
theorem dX7_fails_14 : decode cX7_fails 14 = .ok (.ireturn, 1) := by decide +kernel
theorem dX7_daysOfYear_0 : decode cX7_daysOfYear 0 = .ok (.iload_n 0, 1) := by decide +kernel
theorem dX7_daysOfYear_1 : decode cX7_daysOfYear 1 = .ok (.iconst 4, 1) := by decide +kernel
theorem dX7_daysOfYear_2 : decode cX7_daysOfYear 2 = .ok (.irem, 1) := by decide +kernel
theorem dX7_daysOfYear_3 : decode cX7_daysOfYear 3 = .ok (.ifCond .ne 9, 3) := by decide +kernel
theorem dX7_daysOfYear_6 : decode cX7_daysOfYear 6 = .ok (.sipush 366, 3) := by decide +kernel
theorem dX7_daysOfYear_9 : decode cX7_daysOfYear 9 = .ok (.goto 6, 3) := by decide +kernel
theorem dX7_daysOfYear_12 : decode cX7_daysOfYear 12 = .ok (.sipush 365, 3) := by decide +kernel
theorem dX7_daysOfYear_15 : decode cX7_daysOfYear 15 = .ok (.ireturn, 1) := by decide +kernel
theorem dX7_daysOfMonth_0 : decode cX7_daysOfMonth 0 = .ok (.iload_n 1, 1) := by decide +kernel
theorem dX7_daysOfMonth_1 : decode cX7_daysOfMonth 1 = .ok (.iconst 2, 1) := by decide +kernel
theorem dX7_daysOfMonth_2 : decode cX7_daysOfMonth 2 = .ok (.if_icmp .ne 14, 3) := by decide +kernel
theorem dX7_daysOfMonth_5 : decode cX7_daysOfMonth 5 = .ok (.iload_n 0, 1) := by decide +kernel
theorem dX7_daysOfMonth_6 : decode cX7_daysOfMonth 6 = .ok (.invokestatic 97, 3) := by decide +kernel
theorem dX7_daysOfMonth_9 : decode cX7_daysOfMonth 9 = .ok (.sipush 337, 3) := by decide +kernel
theorem dX7_daysOfMonth_12 : decode cX7_daysOfMonth 12 = .ok (.isub, 1) := by decide +kernel
theorem dX7_daysOfMonth_13 : decode cX7_daysOfMonth 13 = .ok (.goto 33, 3) := by decide +kernel
theorem dX7_daysOfMonth_16 : decode cX7_daysOfMonth 16 = .ok (.iload_n 1, 1) := by decide +kernel
theorem dX7_daysOfMonth_17 : decode cX7_daysOfMonth 17 = .ok (.iconst 4, 1) := by decide +kernel
theorem dX7_daysOfMonth_18 : decode cX7_daysOfMonth 18 = .ok (.if_icmp .eq 21, 3) := by decide +kernel
theorem dX7_daysOfMonth_21 : decode cX7_daysOfMonth 21 = .ok (.iload_n 1, 1) := by decide +kernel
theorem dX7_daysOfMonth_22 : decode cX7_daysOfMonth 22 = .ok (.bipush 6, 2) := by decide +kernel
theorem dX7_daysOfMonth_24 : decode cX7_daysOfMonth 24 = .ok (.if_icmp .eq 15, 3) := by decide +kernel
theorem dX7_daysOfMonth_27 : decode cX7_daysOfMonth 27 = .ok (.iload_n 1, 1) := by decide +kernel
theorem dX7_daysOfMonth_28 : decode cX7_daysOfMonth 28 = .ok (.bipush 9, 2) := by decide +kernel
theorem dX7_daysOfMonth_30 : decode cX7_daysOfMonth 30 = .ok (.if_icmp .eq 9, 3) := by decide +kernel
theorem dX7_daysOfMonth_33 : decode cX7_daysOfMonth 33 = .ok (.iload_n 1, 1) := by decide +kernel
theorem dX7_daysOfMonth_34 : decode cX7_daysOfMonth 34 = .ok (.bipush 11, 2) := by decide +kernel
theorem dX7_daysOfMonth_36 : decode cX7_daysOfMonth 36 = .ok (.if_icmp .ne 8, 3) := by decide +kernel
theorem dX7_daysOfMonth_39 : decode cX7_daysOfMonth 39 = .ok (.bipush 30, 2) := by decide +kernel
theorem dX7_daysOfMonth_41 : decode cX7_daysOfMonth 41 = .ok (.goto 5, 3) := by decide +kernel
theorem dX7_daysOfMonth_44 : decode cX7_daysOfMonth 44 = .ok (.bipush 31, 2) := by decide +kernel
theorem dX7_daysOfMonth_46 : decode cX7_daysOfMonth 46 = .ok (.ireturn, 1) := by decide +kernel
theorem dX7_number_0 : decode cX7_number 0 = .ok (.iconst 0, 1) := by decide +kernel
theorem dX7_number_1 : decode cX7_number 1 = .ok (.istore_n 3, 1) := by decide +kernel
theorem dX7_number_2 : decode cX7_number 2 = .ok (.sipush 2000, 3) := by decide +kernel
theorem dX7_number_5 : decode cX7_number 5 = .ok (.istore 4, 2) := by decide +kernel
theorem dX7_number_7 : decode cX7_number 7 = .ok (.iload 4, 2) := by decide +kernel
theorem dX7_number_9 : decode cX7_number 9 = .ok (.iload_n 0, 1) := by decide +kernel
theorem dX7_number_10 : decode cX7_number 10 = .ok (.if_icmp .ge 17, 3) := by decide +kernel
theorem dX7_number_13 : decode cX7_number 13 = .ok (.iload_n 3, 1) := by decide +kernel
theorem dX7_number_14 : decode cX7_number 14 = .ok (.iload 4, 2) := by decide +kernel
theorem dX7_number_16 : decode cX7_number 16 = .ok (.invokestatic 97, 3) := by decide +kernel
theorem dX7_number_19 : decode cX7_number 19 = .ok (.iadd, 1) := by decide +kernel
theorem dX7_number_20 : decode cX7_number 20 = .ok (.istore_n 3, 1) := by decide +kernel
theorem dX7_number_21 : decode cX7_number 21 = .ok (.iinc 4 1, 3) := by decide +kernel
theorem dX7_number_24 : decode cX7_number 24 = .ok (.goto (-17), 3) := by decide +kernel
theorem dX7_number_27 : decode cX7_number 27 = .ok (.iconst 1, 1) := by decide +kernel
theorem dX7_number_28 : decode cX7_number 28 = .ok (.istore 4, 2) := by decide +kernel
theorem dX7_number_30 : decode cX7_number 30 = .ok (.iload 4, 2) := by decide +kernel
theorem dX7_number_32 : decode cX7_number 32 = .ok (.iload_n 1, 1) := by decide +kernel
theorem dX7_number_33 : decode cX7_number 33 = .ok (.if_icmp .ge 18, 3) := by decide +kernel
theorem dX7_number_36 : decode cX7_number 36 = .ok (.iload_n 3, 1) := by decide +kernel
theorem dX7_number_37 : decode cX7_number 37 = .ok (.iload_n 0, 1) := by decide +kernel
theorem dX7_number_38 : decode cX7_number 38 = .ok (.iload 4, 2) := by decide +kernel
theorem dX7_number_40 : decode cX7_number 40 = .ok (.invokestatic 101, 3) := by decide +kernel
theorem dX7_number_43 : decode cX7_number 43 = .ok (.iadd, 1) := by decide +kernel
theorem dX7_number_44 : decode cX7_number 44 = .ok (.istore_n 3, 1) := by decide +kernel
theorem dX7_number_45 : decode cX7_number 45 = .ok (.iinc 4 1, 3) := by decide +kernel
theorem dX7_number_48 : decode cX7_number 48 = .ok (.goto (-18), 3) := by decide +kernel
theorem dX7_number_51 : decode cX7_number 51 = .ok (.iload_n 3, 1) := by decide +kernel
theorem dX7_number_52 : decode cX7_number 52 = .ok (.iload_n 2, 1) := by decide +kernel
theorem dX7_number_53 : decode cX7_number 53 = .ok (.iadd, 1) := by decide +kernel
theorem dX7_number_54 : decode cX7_number 54 = .ok (.iconst 1, 1) := by decide +kernel
theorem dX7_number_55 : decode cX7_number 55 = .ok (.isub, 1) := by decide +kernel
theorem dX7_number_56 : decode cX7_number 56 = .ok (.ireturn, 1) := by decide +kernel
theorem dX7_splits_0 : decode cX7_splits 0 = .ok (.iload_n 1, 1) := by decide +kernel
theorem dX7_splits_1 : decode cX7_splits 1 = .ok (.istore_n 2, 1) := by decide +kernel
theorem dX7_splits_2 : decode cX7_splits 2 = .ok (.aload_n 0, 1) := by decide +kernel
theorem dX7_splits_3 : decode cX7_splits 3 = .ok (.sipush 2000, 3) := by decide +kernel
theorem dX7_splits_6 : decode cX7_splits 6 = .ok (.putfield 105, 3) := by decide +kernel
theorem dX7_splits_9 : decode cX7_splits 9 = .ok (.iload_n 2, 1) := by decide +kernel
theorem dX7_splits_10 : decode cX7_splits 10 = .ok (.aload_n 0, 1) := by decide +kernel
theorem dX7_splits_11 : decode cX7_splits 11 = .ok (.getfield 105, 3) := by decide +kernel
theorem dX7_splits_14 : decode cX7_splits 14 = .ok (.invokestatic 97, 3) := by decide +kernel
theorem dX7_splits_17 : decode cX7_splits 17 = .ok (.if_icmp .lt 26, 3) := by decide +kernel
theorem dX7_splits_20 : decode cX7_splits 20 = .ok (.iload_n 2, 1) := by decide +kernel
theorem dX7_splits_21 : decode cX7_splits 21 = .ok (.aload_n 0, 1) := by decide +kernel
theorem dX7_splits_22 : decode cX7_splits 22 = .ok (.getfield 105, 3) := by decide +kernel
theorem dX7_splits_25 : decode cX7_splits 25 = .ok (.invokestatic 97, 3) := by decide +kernel
theorem dX7_splits_28 : decode cX7_splits 28 = .ok (.isub, 1) := by decide +kernel
theorem dX7_splits_29 : decode cX7_splits 29 = .ok (.istore_n 2, 1) := by decide +kernel
theorem dX7_splits_30 : decode cX7_splits 30 = .ok (.aload_n 0, 1) := by decide +kernel
theorem dX7_splits_31 : decode cX7_splits 31 = .ok (.dup, 1) := by decide +kernel
theorem dX7_splits_32 : decode cX7_splits 32 = .ok (.getfield 105, 3) := by decide +kernel
theorem dX7_splits_35 : decode cX7_splits 35 = .ok (.iconst 1, 1) := by decide +kernel
theorem dX7_splits_36 : decode cX7_splits 36 = .ok (.iadd, 1) := by decide +kernel
theorem dX7_splits_37 : decode cX7_splits 37 = .ok (.putfield 105, 3) := by decide +kernel
theorem dX7_splits_40 : decode cX7_splits 40 = .ok (.goto (-31), 3) := by decide +kernel
theorem dX7_splits_43 : decode cX7_splits 43 = .ok (.aload_n 0, 1) := by decide +kernel
theorem dX7_splits_44 : decode cX7_splits 44 = .ok (.iconst 1, 1) := by decide +kernel
theorem dX7_splits_45 : decode cX7_splits 45 = .ok (.putfield 108, 3) := by decide +kernel
theorem dX7_splits_48 : decode cX7_splits 48 = .ok (.iload_n 2, 1) := by decide +kernel
theorem dX7_splits_49 : decode cX7_splits 49 = .ok (.aload_n 0, 1) := by decide +kernel
theorem dX7_splits_50 : decode cX7_splits 50 = .ok (.getfield 105, 3) := by decide +kernel
theorem dX7_splits_53 : decode cX7_splits 53 = .ok (.aload_n 0, 1) := by decide +kernel
theorem dX7_splits_54 : decode cX7_splits 54 = .ok (.getfield 108, 3) := by decide +kernel
theorem dX7_splits_57 : decode cX7_splits 57 = .ok (.invokestatic 101, 3) := by decide +kernel
theorem dX7_splits_60 : decode cX7_splits 60 = .ok (.if_icmp .lt 30, 3) := by decide +kernel
theorem dX7_splits_63 : decode cX7_splits 63 = .ok (.iload_n 2, 1) := by decide +kernel
theorem dX7_splits_64 : decode cX7_splits 64 = .ok (.aload_n 0, 1) := by decide +kernel
theorem dX7_splits_65 : decode cX7_splits 65 = .ok (.getfield 105, 3) := by decide +kernel
theorem dX7_splits_68 : decode cX7_splits 68 = .ok (.aload_n 0, 1) := by decide +kernel
theorem dX7_splits_69 : decode cX7_splits 69 = .ok (.getfield 108, 3) := by decide +kernel
theorem dX7_splits_72 : decode cX7_splits 72 = .ok (.invokestatic 101, 3) := by decide +kernel
theorem dX7_splits_75 : decode cX7_splits 75 = .ok (.isub, 1) := by decide +kernel
theorem dX7_splits_76 : decode cX7_splits 76 = .ok (.istore_n 2, 1) := by decide +kernel
theorem dX7_splits_77 : decode cX7_splits 77 = .ok (.aload_n 0, 1) := by decide +kernel
theorem dX7_splits_78 : decode cX7_splits 78 = .ok (.dup, 1) := by decide +kernel
theorem dX7_splits_79 : decode cX7_splits 79 = .ok (.getfield 108, 3) := by decide +kernel
theorem dX7_splits_82 : decode cX7_splits 82 = .ok (.iconst 1, 1) := by decide +kernel
theorem dX7_splits_83 : decode cX7_splits 83 = .ok (.iadd, 1) := by decide +kernel
theorem dX7_splits_84 : decode cX7_splits 84 = .ok (.putfield 108, 3) := by decide +kernel
theorem dX7_splits_87 : decode cX7_splits 87 = .ok (.goto (-39), 3) := by decide +kernel
theorem dX7_splits_90 : decode cX7_splits 90 = .ok (.aload_n 0, 1) := by decide +kernel
theorem dX7_splits_91 : decode cX7_splits 91 = .ok (.iload_n 2, 1) := by decide +kernel
theorem dX7_splits_92 : decode cX7_splits 92 = .ok (.iconst 1, 1) := by decide +kernel
theorem dX7_splits_93 : decode cX7_splits 93 = .ok (.iadd, 1) := by decide +kernel
theorem dX7_splits_94 : decode cX7_splits 94 = .ok (.putfield 111, 3) := by decide +kernel
theorem dX7_splits_97 : decode cX7_splits 97 = .ok (.return_, 1) := by decide +kernel
theorem dX7_later_0 : decode cX7_later 0 = .ok (.aload_n 0, 1) := by decide +kernel
theorem dX7_later_1 : decode cX7_later 1 = .ok (.iload_n 1, 1) := by decide +kernel
theorem dX7_later_2 : decode cX7_later 2 = .ok (.invokevirtual 114, 3) := by decide +kernel
theorem dX7_later_5 : decode cX7_later 5 = .ok (.bipush 12, 2) := by decide +kernel
theorem dX7_later_7 : decode cX7_later 7 = .ok (.aload_n 0, 1) := by decide +kernel
theorem dX7_later_8 : decode cX7_later 8 = .ok (.getfield 105, 3) := by decide +kernel
theorem dX7_later_11 : decode cX7_later 11 = .ok (.imul, 1) := by decide +kernel
theorem dX7_later_12 : decode cX7_later 12 = .ok (.aload_n 0, 1) := by decide +kernel
theorem dX7_later_13 : decode cX7_later 13 = .ok (.getfield 108, 3) := by decide +kernel
theorem dX7_later_16 : decode cX7_later 16 = .ok (.iadd, 1) := by decide +kernel
theorem dX7_later_17 : decode cX7_later 17 = .ok (.iconst 1, 1) := by decide +kernel
theorem dX7_later_18 : decode cX7_later 18 = .ok (.isub, 1) := by decide +kernel
theorem dX7_later_19 : decode cX7_later 19 = .ok (.iload_n 2, 1) := by decide +kernel
theorem dX7_later_20 : decode cX7_later 20 = .ok (.iadd, 1) := by decide +kernel
theorem dX7_later_21 : decode cX7_later 21 = .ok (.istore_n 3, 1) := by decide +kernel
theorem dX7_later_22 : decode cX7_later 22 = .ok (.iload_n 3, 1) := by decide +kernel
theorem dX7_later_23 : decode cX7_later 23 = .ok (.bipush 12, 2) := by decide +kernel
theorem dX7_later_25 : decode cX7_later 25 = .ok (.idiv, 1) := by decide +kernel
theorem dX7_later_26 : decode cX7_later 26 = .ok (.iload_n 3, 1) := by decide +kernel
theorem dX7_later_27 : decode cX7_later 27 = .ok (.bipush 12, 2) := by decide +kernel
theorem dX7_later_29 : decode cX7_later 29 = .ok (.irem, 1) := by decide +kernel
theorem dX7_later_30 : decode cX7_later 30 = .ok (.iconst 1, 1) := by decide +kernel
theorem dX7_later_31 : decode cX7_later 31 = .ok (.iadd, 1) := by decide +kernel
theorem dX7_later_32 : decode cX7_later 32 = .ok (.invokestatic 101, 3) := by decide +kernel
theorem dX7_later_35 : decode cX7_later 35 = .ok (.istore 4, 2) := by decide +kernel
theorem dX7_later_37 : decode cX7_later 37 = .ok (.iload_n 3, 1) := by decide +kernel
theorem dX7_later_38 : decode cX7_later 38 = .ok (.bipush 12, 2) := by decide +kernel
theorem dX7_later_40 : decode cX7_later 40 = .ok (.idiv, 1) := by decide +kernel
theorem dX7_later_41 : decode cX7_later 41 = .ok (.iload_n 3, 1) := by decide +kernel
theorem dX7_later_42 : decode cX7_later 42 = .ok (.bipush 12, 2) := by decide +kernel
theorem dX7_later_44 : decode cX7_later 44 = .ok (.irem, 1) := by decide +kernel
theorem dX7_later_45 : decode cX7_later 45 = .ok (.iconst 1, 1) := by decide +kernel
theorem dX7_later_46 : decode cX7_later 46 = .ok (.iadd, 1) := by decide +kernel
theorem dX7_later_47 : decode cX7_later 47 = .ok (.aload_n 0, 1) := by decide +kernel
theorem dX7_later_48 : decode cX7_later 48 = .ok (.getfield 111, 3) := by decide +kernel
theorem dX7_later_51 : decode cX7_later 51 = .ok (.iload 4, 2) := by decide +kernel
theorem dX7_later_53 : decode cX7_later 53 = .ok (.if_icmp .ge 10, 3) := by decide +kernel
theorem dX7_later_56 : decode cX7_later 56 = .ok (.aload_n 0, 1) := by decide +kernel
theorem dX7_later_57 : decode cX7_later 57 = .ok (.getfield 111, 3) := by decide +kernel
theorem dX7_later_60 : decode cX7_later 60 = .ok (.goto 5, 3) := by decide +kernel
theorem dX7_later_63 : decode cX7_later 63 = .ok (.iload 4, 2) := by decide +kernel
theorem dX7_later_65 : decode cX7_later 65 = .ok (.invokestatic 118, 3) := by decide +kernel
theorem dX7_later_68 : decode cX7_later 68 = .ok (.ireturn, 1) := by decide +kernel
theorem dX7_dayNumber_0 : decode cX7_dayNumber 0 = .ok (.iload_n 1, 1) := by decide +kernel
theorem dX7_dayNumber_1 : decode cX7_dayNumber 1 = .ok (.sipush 2000, 3) := by decide +kernel
theorem dX7_dayNumber_4 : decode cX7_dayNumber 4 = .ok (.sipush 2099, 3) := by decide +kernel
theorem dX7_dayNumber_7 : decode cX7_dayNumber 7 = .ok (.invokestatic 122, 3) := by decide +kernel
theorem dX7_dayNumber_10 : decode cX7_dayNumber 10 = .ok (.ifCond .eq 30, 3) := by decide +kernel
theorem dX7_dayNumber_13 : decode cX7_dayNumber 13 = .ok (.iload_n 2, 1) := by decide +kernel
theorem dX7_dayNumber_14 : decode cX7_dayNumber 14 = .ok (.iconst 1, 1) := by decide +kernel
theorem dX7_dayNumber_15 : decode cX7_dayNumber 15 = .ok (.bipush 12, 2) := by decide +kernel
theorem dX7_dayNumber_17 : decode cX7_dayNumber 17 = .ok (.invokestatic 122, 3) := by decide +kernel
theorem dX7_dayNumber_20 : decode cX7_dayNumber 20 = .ok (.ifCond .eq 20, 3) := by decide +kernel
theorem dX7_dayNumber_23 : decode cX7_dayNumber 23 = .ok (.iload_n 3, 1) := by decide +kernel
theorem dX7_dayNumber_24 : decode cX7_dayNumber 24 = .ok (.iconst 1, 1) := by decide +kernel
theorem dX7_dayNumber_25 : decode cX7_dayNumber 25 = .ok (.iload_n 1, 1) := by decide +kernel
theorem dX7_dayNumber_26 : decode cX7_dayNumber 26 = .ok (.iload_n 2, 1) := by decide +kernel
theorem dX7_dayNumber_27 : decode cX7_dayNumber 27 = .ok (.invokestatic 101, 3) := by decide +kernel
theorem dX7_dayNumber_30 : decode cX7_dayNumber 30 = .ok (.invokestatic 122, 3) := by decide +kernel
theorem dX7_dayNumber_33 : decode cX7_dayNumber 33 = .ok (.ifCond .eq 7, 3) := by decide +kernel
theorem dX7_dayNumber_36 : decode cX7_dayNumber 36 = .ok (.iconst 1, 1) := by decide +kernel
theorem dX7_dayNumber_37 : decode cX7_dayNumber 37 = .ok (.goto 4, 3) := by decide +kernel
theorem dX7_dayNumber_40 : decode cX7_dayNumber 40 = .ok (.iconst 0, 1) := by decide +kernel
theorem dX7_dayNumber_41 : decode cX7_dayNumber 41 = .ok (.istore 4, 2) := by decide +kernel
theorem dX7_dayNumber_43 : decode cX7_dayNumber 43 = .ok (.aload_n 0, 1) := by decide +kernel
theorem dX7_dayNumber_44 : decode cX7_dayNumber 44 = .ok (.iload 4, 2) := by decide +kernel
theorem dX7_dayNumber_46 : decode cX7_dayNumber 46 = .ok (.ifCond .eq 7, 3) := by decide +kernel
theorem dX7_dayNumber_49 : decode cX7_dayNumber 49 = .ok (.iconst 0, 1) := by decide +kernel
theorem dX7_dayNumber_50 : decode cX7_dayNumber 50 = .ok (.goto 4, 3) := by decide +kernel
theorem dX7_dayNumber_53 : decode cX7_dayNumber 53 = .ok (.iconst 1, 1) := by decide +kernel
theorem dX7_dayNumber_54 : decode cX7_dayNumber 54 = .ok (.invokevirtual 126, 3) := by decide +kernel
theorem dX7_dayNumber_57 : decode cX7_dayNumber 57 = .ok (.ifCond .eq 7, 3) := by decide +kernel
theorem dX7_dayNumber_60 : decode cX7_dayNumber 60 = .ok (.iconst 0, 1) := by decide +kernel
theorem dX7_dayNumber_61 : decode cX7_dayNumber 61 = .ok (.goto 9, 3) := by decide +kernel
theorem dX7_dayNumber_64 : decode cX7_dayNumber 64 = .ok (.iload_n 1, 1) := by decide +kernel
theorem dX7_dayNumber_65 : decode cX7_dayNumber 65 = .ok (.iload_n 2, 1) := by decide +kernel
theorem dX7_dayNumber_66 : decode cX7_dayNumber 66 = .ok (.iload_n 3, 1) := by decide +kernel
theorem dX7_dayNumber_67 : decode cX7_dayNumber 67 = .ok (.invokestatic 118, 3) := by decide +kernel
theorem dX7_dayNumber_70 : decode cX7_dayNumber 70 = .ok (.ireturn, 1) := by decide +kernel
theorem dX7_dayNumberByMonths_0 : decode cX7_dayNumberByMonths 0 = .ok (.aload_n 0, 1) := by decide +kernel
theorem dX7_dayNumberByMonths_1 : decode cX7_dayNumberByMonths 1 = .ok (.iload_n 1, 1) := by decide +kernel
theorem dX7_dayNumberByMonths_2 : decode cX7_dayNumberByMonths 2 = .ok (.iload_n 2, 1) := by decide +kernel
theorem dX7_dayNumberByMonths_3 : decode cX7_dayNumberByMonths 3 = .ok (.iload_n 3, 1) := by decide +kernel
theorem dX7_dayNumberByMonths_4 : decode cX7_dayNumberByMonths 4 = .ok (.invokevirtual 130, 3) := by decide +kernel
theorem dX7_dayNumberByMonths_7 : decode cX7_dayNumberByMonths 7 = .ok (.ireturn, 1) := by decide +kernel
theorem dX7_isDay_0 : decode cX7_isDay 0 = .ok (.iload_n 1, 1) := by decide +kernel
theorem dX7_isDay_1 : decode cX7_isDay 1 = .ok (.iconst 0, 1) := by decide +kernel
theorem dX7_isDay_2 : decode cX7_isDay 2 = .ok (.ldc 133, 2) := by decide +kernel
theorem dX7_isDay_4 : decode cX7_isDay 4 = .ok (.invokestatic 122, 3) := by decide +kernel
theorem dX7_isDay_7 : decode cX7_isDay 7 = .ok (.ireturn, 1) := by decide +kernel
theorem dX7_yearOf_0 : decode cX7_yearOf 0 = .ok (.aload_n 0, 1) := by decide +kernel
theorem dX7_yearOf_1 : decode cX7_yearOf 1 = .ok (.aload_n 0, 1) := by decide +kernel
theorem dX7_yearOf_2 : decode cX7_yearOf 2 = .ok (.iload_n 1, 1) := by decide +kernel
theorem dX7_yearOf_3 : decode cX7_yearOf 3 = .ok (.invokevirtual 134, 3) := by decide +kernel
theorem dX7_yearOf_6 : decode cX7_yearOf 6 = .ok (.ifCond .eq 7, 3) := by decide +kernel
theorem dX7_yearOf_9 : decode cX7_yearOf 9 = .ok (.iconst 0, 1) := by decide +kernel
theorem dX7_yearOf_10 : decode cX7_yearOf 10 = .ok (.goto 4, 3) := by decide +kernel
theorem dX7_yearOf_13 : decode cX7_yearOf 13 = .ok (.iconst 1, 1) := by decide +kernel
theorem dX7_yearOf_14 : decode cX7_yearOf 14 = .ok (.invokevirtual 126, 3) := by decide +kernel
theorem dX7_yearOf_17 : decode cX7_yearOf 17 = .ok (.ifCond .eq 5, 3) := by decide +kernel
theorem dX7_yearOf_20 : decode cX7_yearOf 20 = .ok (.iconst 0, 1) := by decide +kernel
theorem dX7_yearOf_21 : decode cX7_yearOf 21 = .ok (.ireturn, 1) := by decide +kernel
theorem dX7_yearOf_22 : decode cX7_yearOf 22 = .ok (.aload_n 0, 1) := by decide +kernel
theorem dX7_yearOf_23 : decode cX7_yearOf 23 = .ok (.iload_n 1, 1) := by decide +kernel
theorem dX7_yearOf_24 : decode cX7_yearOf 24 = .ok (.invokevirtual 114, 3) := by decide +kernel
theorem dX7_yearOf_27 : decode cX7_yearOf 27 = .ok (.aload_n 0, 1) := by decide +kernel
theorem dX7_yearOf_28 : decode cX7_yearOf 28 = .ok (.getfield 105, 3) := by decide +kernel
theorem dX7_yearOf_31 : decode cX7_yearOf 31 = .ok (.ireturn, 1) := by decide +kernel
theorem dX7_monthOf_0 : decode cX7_monthOf 0 = .ok (.aload_n 0, 1) := by decide +kernel
theorem dX7_monthOf_1 : decode cX7_monthOf 1 = .ok (.aload_n 0, 1) := by decide +kernel
theorem dX7_monthOf_2 : decode cX7_monthOf 2 = .ok (.iload_n 1, 1) := by decide +kernel
theorem dX7_monthOf_3 : decode cX7_monthOf 3 = .ok (.invokevirtual 134, 3) := by decide +kernel
theorem dX7_monthOf_6 : decode cX7_monthOf 6 = .ok (.ifCond .eq 7, 3) := by decide +kernel
theorem dX7_monthOf_9 : decode cX7_monthOf 9 = .ok (.iconst 0, 1) := by decide +kernel
theorem dX7_monthOf_10 : decode cX7_monthOf 10 = .ok (.goto 4, 3) := by decide +kernel
theorem dX7_monthOf_13 : decode cX7_monthOf 13 = .ok (.iconst 1, 1) := by decide +kernel
theorem dX7_monthOf_14 : decode cX7_monthOf 14 = .ok (.invokevirtual 126, 3) := by decide +kernel
theorem dX7_monthOf_17 : decode cX7_monthOf 17 = .ok (.ifCond .eq 5, 3) := by decide +kernel
theorem dX7_monthOf_20 : decode cX7_monthOf 20 = .ok (.iconst 0, 1) := by decide +kernel
theorem dX7_monthOf_21 : decode cX7_monthOf 21 = .ok (.ireturn, 1) := by decide +kernel
theorem dX7_monthOf_22 : decode cX7_monthOf 22 = .ok (.aload_n 0, 1) := by decide +kernel
theorem dX7_monthOf_23 : decode cX7_monthOf 23 = .ok (.iload_n 1, 1) := by decide +kernel
theorem dX7_monthOf_24 : decode cX7_monthOf 24 = .ok (.invokevirtual 114, 3) := by decide +kernel
theorem dX7_monthOf_27 : decode cX7_monthOf 27 = .ok (.aload_n 0, 1) := by decide +kernel
theorem dX7_monthOf_28 : decode cX7_monthOf 28 = .ok (.getfield 108, 3) := by decide +kernel
theorem dX7_monthOf_31 : decode cX7_monthOf 31 = .ok (.ireturn, 1) := by decide +kernel
theorem dX7_dayOfMonth_0 : decode cX7_dayOfMonth 0 = .ok (.aload_n 0, 1) := by decide +kernel
theorem dX7_dayOfMonth_1 : decode cX7_dayOfMonth 1 = .ok (.aload_n 0, 1) := by decide +kernel
theorem dX7_dayOfMonth_2 : decode cX7_dayOfMonth 2 = .ok (.iload_n 1, 1) := by decide +kernel
theorem dX7_dayOfMonth_3 : decode cX7_dayOfMonth 3 = .ok (.invokevirtual 134, 3) := by decide +kernel
theorem dX7_dayOfMonth_6 : decode cX7_dayOfMonth 6 = .ok (.ifCond .eq 7, 3) := by decide +kernel
theorem dX7_dayOfMonth_9 : decode cX7_dayOfMonth 9 = .ok (.iconst 0, 1) := by decide +kernel
theorem dX7_dayOfMonth_10 : decode cX7_dayOfMonth 10 = .ok (.goto 4, 3) := by decide +kernel
theorem dX7_dayOfMonth_13 : decode cX7_dayOfMonth 13 = .ok (.iconst 1, 1) := by decide +kernel
theorem dX7_dayOfMonth_14 : decode cX7_dayOfMonth 14 = .ok (.invokevirtual 126, 3) := by decide +kernel
theorem dX7_dayOfMonth_17 : decode cX7_dayOfMonth 17 = .ok (.ifCond .eq 5, 3) := by decide +kernel
theorem dX7_dayOfMonth_20 : decode cX7_dayOfMonth 20 = .ok (.iconst 0, 1) := by decide +kernel
theorem dX7_dayOfMonth_21 : decode cX7_dayOfMonth 21 = .ok (.ireturn, 1) := by decide +kernel
theorem dX7_dayOfMonth_22 : decode cX7_dayOfMonth 22 = .ok (.aload_n 0, 1) := by decide +kernel
theorem dX7_dayOfMonth_23 : decode cX7_dayOfMonth 23 = .ok (.iload_n 1, 1) := by decide +kernel
theorem dX7_dayOfMonth_24 : decode cX7_dayOfMonth 24 = .ok (.invokevirtual 114, 3) := by decide +kernel
theorem dX7_dayOfMonth_27 : decode cX7_dayOfMonth 27 = .ok (.aload_n 0, 1) := by decide +kernel
theorem dX7_dayOfMonth_28 : decode cX7_dayOfMonth 28 = .ok (.getfield 111, 3) := by decide +kernel
theorem dX7_dayOfMonth_31 : decode cX7_dayOfMonth 31 = .ok (.ireturn, 1) := by decide +kernel
theorem dX7_monthsAfter_0 : decode cX7_monthsAfter 0 = .ok (.aload_n 0, 1) := by decide +kernel
theorem dX7_monthsAfter_1 : decode cX7_monthsAfter 1 = .ok (.iload_n 1, 1) := by decide +kernel
theorem dX7_monthsAfter_2 : decode cX7_monthsAfter 2 = .ok (.invokevirtual 134, 3) := by decide +kernel
theorem dX7_monthsAfter_5 : decode cX7_monthsAfter 5 = .ok (.ifCond .eq 28, 3) := by decide +kernel
theorem dX7_monthsAfter_8 : decode cX7_monthsAfter 8 = .ok (.iload_n 2, 1) := by decide +kernel
theorem dX7_monthsAfter_9 : decode cX7_monthsAfter 9 = .ok (.iconst 0, 1) := by decide +kernel
theorem dX7_monthsAfter_10 : decode cX7_monthsAfter 10 = .ok (.bipush 60, 2) := by decide +kernel
theorem dX7_monthsAfter_12 : decode cX7_monthsAfter 12 = .ok (.invokestatic 122, 3) := by decide +kernel
theorem dX7_monthsAfter_15 : decode cX7_monthsAfter 15 = .ok (.ifCond .eq 18, 3) := by decide +kernel
theorem dX7_monthsAfter_18 : decode cX7_monthsAfter 18 = .ok (.aload_n 0, 1) := by decide +kernel
theorem dX7_monthsAfter_19 : decode cX7_monthsAfter 19 = .ok (.iload_n 1, 1) := by decide +kernel
theorem dX7_monthsAfter_20 : decode cX7_monthsAfter 20 = .ok (.iload_n 2, 1) := by decide +kernel
theorem dX7_monthsAfter_21 : decode cX7_monthsAfter 21 = .ok (.invokevirtual 137, 3) := by decide +kernel
theorem dX7_monthsAfter_24 : decode cX7_monthsAfter 24 = .ok (.ldc 133, 2) := by decide +kernel
theorem dX7_monthsAfter_26 : decode cX7_monthsAfter 26 = .ok (.if_icmp .gt 7, 3) := by decide +kernel
theorem dX7_monthsAfter_29 : decode cX7_monthsAfter 29 = .ok (.iconst 1, 1) := by decide +kernel
theorem dX7_monthsAfter_30 : decode cX7_monthsAfter 30 = .ok (.goto 4, 3) := by decide +kernel
theorem dX7_monthsAfter_33 : decode cX7_monthsAfter 33 = .ok (.iconst 0, 1) := by decide +kernel
theorem dX7_monthsAfter_34 : decode cX7_monthsAfter 34 = .ok (.istore_n 3, 1) := by decide +kernel
theorem dX7_monthsAfter_35 : decode cX7_monthsAfter 35 = .ok (.aload_n 0, 1) := by decide +kernel
theorem dX7_monthsAfter_36 : decode cX7_monthsAfter 36 = .ok (.iload_n 3, 1) := by decide +kernel
theorem dX7_monthsAfter_37 : decode cX7_monthsAfter 37 = .ok (.ifCond .eq 7, 3) := by decide +kernel
theorem dX7_monthsAfter_40 : decode cX7_monthsAfter 40 = .ok (.iconst 0, 1) := by decide +kernel
theorem dX7_monthsAfter_41 : decode cX7_monthsAfter 41 = .ok (.goto 4, 3) := by decide +kernel
theorem dX7_monthsAfter_44 : decode cX7_monthsAfter 44 = .ok (.iconst 1, 1) := by decide +kernel
theorem dX7_monthsAfter_45 : decode cX7_monthsAfter 45 = .ok (.invokevirtual 126, 3) := by decide +kernel
theorem dX7_monthsAfter_48 : decode cX7_monthsAfter 48 = .ok (.ifCond .eq 7, 3) := by decide +kernel
theorem dX7_monthsAfter_51 : decode cX7_monthsAfter 51 = .ok (.iconst 0, 1) := by decide +kernel
theorem dX7_monthsAfter_52 : decode cX7_monthsAfter 52 = .ok (.goto 9, 3) := by decide +kernel
theorem dX7_monthsAfter_55 : decode cX7_monthsAfter 55 = .ok (.aload_n 0, 1) := by decide +kernel
theorem dX7_monthsAfter_56 : decode cX7_monthsAfter 56 = .ok (.iload_n 1, 1) := by decide +kernel
theorem dX7_monthsAfter_57 : decode cX7_monthsAfter 57 = .ok (.iload_n 2, 1) := by decide +kernel
theorem dX7_monthsAfter_58 : decode cX7_monthsAfter 58 = .ok (.invokevirtual 137, 3) := by decide +kernel
theorem dX7_monthsAfter_61 : decode cX7_monthsAfter 61 = .ok (.ireturn, 1) := by decide +kernel
theorem dX7_isTerm_0 : decode cX7_isTerm 0 = .ok (.iload_n 1, 1) := by decide +kernel
theorem dX7_isTerm_1 : decode cX7_isTerm 1 = .ok (.iconst 0, 1) := by decide +kernel
theorem dX7_isTerm_2 : decode cX7_isTerm 2 = .ok (.aload_n 0, 1) := by decide +kernel
theorem dX7_isTerm_3 : decode cX7_isTerm 3 = .ok (.getfield 140, 3) := by decide +kernel
theorem dX7_isTerm_6 : decode cX7_isTerm 6 = .ok (.iconst 1, 1) := by decide +kernel
theorem dX7_isTerm_7 : decode cX7_isTerm 7 = .ok (.isub, 1) := by decide +kernel
theorem dX7_isTerm_8 : decode cX7_isTerm 8 = .ok (.invokestatic 122, 3) := by decide +kernel
theorem dX7_isTerm_11 : decode cX7_isTerm 11 = .ok (.ireturn, 1) := by decide +kernel
theorem dX7_isIn_0 : decode cX7_isIn 0 = .ok (.aload_n 0, 1) := by decide +kernel
theorem dX7_isIn_1 : decode cX7_isIn 1 = .ok (.getfield 35, 3) := by decide +kernel
theorem dX7_isIn_4 : decode cX7_isIn 4 = .ok (.iload_n 1, 1) := by decide +kernel
theorem dX7_isIn_5 : decode cX7_isIn 5 = .ok (.baload, 1) := by decide +kernel
theorem dX7_isIn_6 : decode cX7_isIn 6 = .ok (.ifCond .ne 7, 3) := by decide +kernel
theorem dX7_isIn_9 : decode cX7_isIn 9 = .ok (.iconst 1, 1) := by decide +kernel
theorem dX7_isIn_10 : decode cX7_isIn 10 = .ok (.goto 4, 3) := by decide +kernel
theorem dX7_isIn_13 : decode cX7_isIn 13 = .ok (.iconst 0, 1) := by decide +kernel
theorem dX7_isIn_14 : decode cX7_isIn 14 = .ok (.ireturn, 1) := by decide +kernel
theorem dX7_partOf_0 : decode cX7_partOf 0 = .ok (.iload_n 1, 1) := by decide +kernel
theorem dX7_partOf_1 : decode cX7_partOf 1 = .ok (.iconst 1, 1) := by decide +kernel
theorem dX7_partOf_2 : decode cX7_partOf 2 = .ok (.iadd, 1) := by decide +kernel
theorem dX7_partOf_3 : decode cX7_partOf 3 = .ok (.iconst 2, 1) := by decide +kernel
theorem dX7_partOf_4 : decode cX7_partOf 4 = .ok (.idiv, 1) := by decide +kernel
theorem dX7_partOf_5 : decode cX7_partOf 5 = .ok (.istore_n 2, 1) := by decide +kernel
theorem dX7_partOf_6 : decode cX7_partOf 6 = .ok (.iload_n 0, 1) := by decide +kernel
theorem dX7_partOf_7 : decode cX7_partOf 7 = .ok (.tableswitch 37 0 2 #[25, 27, 35], 25) := by decide +kernel
theorem dX7_partOf_32 : decode cX7_partOf 32 = .ok (.iload_n 2, 1) := by decide +kernel
theorem dX7_partOf_33 : decode cX7_partOf 33 = .ok (.ireturn, 1) := by decide +kernel
theorem dX7_partOf_34 : decode cX7_partOf 34 = .ok (.iconst 2, 1) := by decide +kernel
theorem dX7_partOf_35 : decode cX7_partOf 35 = .ok (.iload_n 1, 1) := by decide +kernel
theorem dX7_partOf_36 : decode cX7_partOf 36 = .ok (.imul, 1) := by decide +kernel
theorem dX7_partOf_37 : decode cX7_partOf 37 = .ok (.iconst 2, 1) := by decide +kernel
theorem dX7_partOf_38 : decode cX7_partOf 38 = .ok (.iadd, 1) := by decide +kernel
theorem dX7_partOf_39 : decode cX7_partOf 39 = .ok (.iconst 3, 1) := by decide +kernel
theorem dX7_partOf_40 : decode cX7_partOf 40 = .ok (.idiv, 1) := by decide +kernel
theorem dX7_partOf_41 : decode cX7_partOf 41 = .ok (.ireturn, 1) := by decide +kernel
theorem dX7_partOf_42 : decode cX7_partOf 42 = .ok (.iload_n 1, 1) := by decide +kernel
theorem dX7_partOf_43 : decode cX7_partOf 43 = .ok (.ireturn, 1) := by decide +kernel
theorem dX7_partOf_44 : decode cX7_partOf 44 = .ok (.iload_n 2, 1) := by decide +kernel
theorem dX7_partOf_45 : decode cX7_partOf 45 = .ok (.bipush 30, 2) := by decide +kernel
theorem dX7_partOf_47 : decode cX7_partOf 47 = .ok (.if_icmp .lt 7, 3) := by decide +kernel
theorem dX7_partOf_50 : decode cX7_partOf 50 = .ok (.iload_n 2, 1) := by decide +kernel
theorem dX7_partOf_51 : decode cX7_partOf 51 = .ok (.goto 15, 3) := by decide +kernel
theorem dX7_partOf_54 : decode cX7_partOf 54 = .ok (.iload_n 1, 1) := by decide +kernel
theorem dX7_partOf_55 : decode cX7_partOf 55 = .ok (.bipush 30, 2) := by decide +kernel
theorem dX7_partOf_57 : decode cX7_partOf 57 = .ok (.if_icmp .ge 7, 3) := by decide +kernel
theorem dX7_partOf_60 : decode cX7_partOf 60 = .ok (.iload_n 1, 1) := by decide +kernel
theorem dX7_partOf_61 : decode cX7_partOf 61 = .ok (.goto 5, 3) := by decide +kernel
theorem dX7_partOf_64 : decode cX7_partOf 64 = .ok (.bipush 30, 2) := by decide +kernel
theorem dX7_partOf_66 : decode cX7_partOf 66 = .ok (.ireturn, 1) := by decide +kernel
theorem dX7_isInChain_0 : decode cX7_isInChain 0 = .ok (.iconst 0, 1) := by decide +kernel
theorem dX7_isInChain_1 : decode cX7_isInChain 1 = .ok (.istore_n 3, 1) := by decide +kernel
theorem dX7_isInChain_2 : decode cX7_isInChain 2 = .ok (.iload_n 2, 1) := by decide +kernel
theorem dX7_isInChain_3 : decode cX7_isInChain 3 = .ok (.istore 4, 2) := by decide +kernel
theorem dX7_isInChain_5 : decode cX7_isInChain 5 = .ok (.iload 4, 2) := by decide +kernel
theorem dX7_isInChain_7 : decode cX7_isInChain 7 = .ok (.iconst (-1), 1) := by decide +kernel
theorem dX7_isInChain_8 : decode cX7_isInChain 8 = .ok (.if_icmp .eq 31, 3) := by decide +kernel
theorem dX7_isInChain_11 : decode cX7_isInChain 11 = .ok (.iload_n 3, 1) := by decide +kernel
theorem dX7_isInChain_12 : decode cX7_isInChain 12 = .ok (.ifCond .ne 9, 3) := by decide +kernel
theorem dX7_isInChain_15 : decode cX7_isInChain 15 = .ok (.iload 4, 2) := by decide +kernel
theorem dX7_isInChain_17 : decode cX7_isInChain 17 = .ok (.iload_n 1, 1) := by decide +kernel
theorem dX7_isInChain_18 : decode cX7_isInChain 18 = .ok (.if_icmp .ne 7, 3) := by decide +kernel
theorem dX7_isInChain_21 : decode cX7_isInChain 21 = .ok (.iconst 1, 1) := by decide +kernel
theorem dX7_isInChain_22 : decode cX7_isInChain 22 = .ok (.goto 4, 3) := by decide +kernel
theorem dX7_isInChain_25 : decode cX7_isInChain 25 = .ok (.iconst 0, 1) := by decide +kernel
theorem dX7_isInChain_26 : decode cX7_isInChain 26 = .ok (.istore_n 3, 1) := by decide +kernel
theorem dX7_isInChain_27 : decode cX7_isInChain 27 = .ok (.aload_n 0, 1) := by decide +kernel
theorem dX7_isInChain_28 : decode cX7_isInChain 28 = .ok (.getfield 32, 3) := by decide +kernel
theorem dX7_isInChain_31 : decode cX7_isInChain 31 = .ok (.iload 4, 2) := by decide +kernel
theorem dX7_isInChain_33 : decode cX7_isInChain 33 = .ok (.iaload, 1) := by decide +kernel
theorem dX7_isInChain_34 : decode cX7_isInChain 34 = .ok (.istore 4, 2) := by decide +kernel
theorem dX7_isInChain_36 : decode cX7_isInChain 36 = .ok (.goto (-31), 3) := by decide +kernel
theorem dX7_isInChain_39 : decode cX7_isInChain 39 = .ok (.iload_n 3, 1) := by decide +kernel
theorem dX7_isInChain_40 : decode cX7_isInChain 40 = .ok (.ireturn, 1) := by decide +kernel
theorem dX7_chainSize_0 : decode cX7_chainSize 0 = .ok (.iconst 0, 1) := by decide +kernel
theorem dX7_chainSize_1 : decode cX7_chainSize 1 = .ok (.istore_n 2, 1) := by decide +kernel
theorem dX7_chainSize_2 : decode cX7_chainSize 2 = .ok (.iload_n 1, 1) := by decide +kernel
theorem dX7_chainSize_3 : decode cX7_chainSize 3 = .ok (.istore_n 3, 1) := by decide +kernel
theorem dX7_chainSize_4 : decode cX7_chainSize 4 = .ok (.iload_n 3, 1) := by decide +kernel
theorem dX7_chainSize_5 : decode cX7_chainSize 5 = .ok (.iconst (-1), 1) := by decide +kernel
theorem dX7_chainSize_6 : decode cX7_chainSize 6 = .ok (.if_icmp .eq 16, 3) := by decide +kernel
theorem dX7_chainSize_9 : decode cX7_chainSize 9 = .ok (.iinc 2 1, 3) := by decide +kernel
theorem dX7_chainSize_12 : decode cX7_chainSize 12 = .ok (.aload_n 0, 1) := by decide +kernel
theorem dX7_chainSize_13 : decode cX7_chainSize 13 = .ok (.getfield 32, 3) := by decide +kernel
theorem dX7_chainSize_16 : decode cX7_chainSize 16 = .ok (.iload_n 3, 1) := by decide +kernel
theorem dX7_chainSize_17 : decode cX7_chainSize 17 = .ok (.iaload, 1) := by decide +kernel
theorem dX7_chainSize_18 : decode cX7_chainSize 18 = .ok (.istore_n 3, 1) := by decide +kernel
theorem dX7_chainSize_19 : decode cX7_chainSize 19 = .ok (.goto (-15), 3) := by decide +kernel
theorem dX7_chainSize_22 : decode cX7_chainSize 22 = .ok (.iload_n 2, 1) := by decide +kernel
theorem dX7_chainSize_23 : decode cX7_chainSize 23 = .ok (.ireturn, 1) := by decide +kernel
theorem dX7_nextPeriod_0 : decode cX7_nextPeriod 0 = .ok (.iconst (-1), 1) := by decide +kernel
theorem dX7_nextPeriod_1 : decode cX7_nextPeriod 1 = .ok (.istore_n 3, 1) := by decide +kernel
theorem dX7_nextPeriod_2 : decode cX7_nextPeriod 2 = .ok (.iconst 0, 1) := by decide +kernel
theorem dX7_nextPeriod_3 : decode cX7_nextPeriod 3 = .ok (.istore 4, 2) := by decide +kernel
theorem dX7_nextPeriod_5 : decode cX7_nextPeriod 5 = .ok (.iload 4, 2) := by decide +kernel
theorem dX7_nextPeriod_7 : decode cX7_nextPeriod 7 = .ok (.aload_n 0, 1) := by decide +kernel
theorem dX7_nextPeriod_8 : decode cX7_nextPeriod 8 = .ok (.getfield 143, 3) := by decide +kernel
theorem dX7_nextPeriod_11 : decode cX7_nextPeriod 11 = .ok (.if_icmp .ge 73, 3) := by decide +kernel
theorem dX7_nextPeriod_14 : decode cX7_nextPeriod 14 = .ok (.iload_n 2, 1) := by decide +kernel
theorem dX7_nextPeriod_15 : decode cX7_nextPeriod 15 = .ok (.iload 4, 2) := by decide +kernel
theorem dX7_nextPeriod_17 : decode cX7_nextPeriod 17 = .ok (.ishr, 1) := by decide +kernel
theorem dX7_nextPeriod_18 : decode cX7_nextPeriod 18 = .ok (.iconst 1, 1) := by decide +kernel
theorem dX7_nextPeriod_19 : decode cX7_nextPeriod 19 = .ok (.iand, 1) := by decide +kernel
theorem dX7_nextPeriod_20 : decode cX7_nextPeriod 20 = .ok (.ifCond .ne 22, 3) := by decide +kernel
theorem dX7_nextPeriod_23 : decode cX7_nextPeriod 23 = .ok (.aload_n 0, 1) := by decide +kernel
theorem dX7_nextPeriod_24 : decode cX7_nextPeriod 24 = .ok (.aload_n 0, 1) := by decide +kernel
theorem dX7_nextPeriod_25 : decode cX7_nextPeriod 25 = .ok (.getfield 39, 3) := by decide +kernel
theorem dX7_nextPeriod_28 : decode cX7_nextPeriod 28 = .ok (.iload 4, 2) := by decide +kernel
theorem dX7_nextPeriod_30 : decode cX7_nextPeriod 30 = .ok (.iaload, 1) := by decide +kernel
theorem dX7_nextPeriod_31 : decode cX7_nextPeriod 31 = .ok (.iload_n 1, 1) := by decide +kernel
theorem dX7_nextPeriod_32 : decode cX7_nextPeriod 32 = .ok (.invokevirtual 146, 3) := by decide +kernel
theorem dX7_nextPeriod_35 : decode cX7_nextPeriod 35 = .ok (.ifCond .eq 7, 3) := by decide +kernel
theorem dX7_nextPeriod_38 : decode cX7_nextPeriod 38 = .ok (.iconst 1, 1) := by decide +kernel
theorem dX7_nextPeriod_39 : decode cX7_nextPeriod 39 = .ok (.goto 4, 3) := by decide +kernel
theorem dX7_nextPeriod_42 : decode cX7_nextPeriod 42 = .ok (.iconst 0, 1) := by decide +kernel
theorem dX7_nextPeriod_43 : decode cX7_nextPeriod 43 = .ok (.istore 5, 2) := by decide +kernel
theorem dX7_nextPeriod_45 : decode cX7_nextPeriod 45 = .ok (.iload 5, 2) := by decide +kernel
theorem dX7_nextPeriod_47 : decode cX7_nextPeriod 47 = .ok (.ifCond .eq 29, 3) := by decide +kernel
theorem dX7_nextPeriod_50 : decode cX7_nextPeriod 50 = .ok (.iload_n 3, 1) := by decide +kernel
theorem dX7_nextPeriod_51 : decode cX7_nextPeriod 51 = .ok (.iconst (-1), 1) := by decide +kernel
theorem dX7_nextPeriod_52 : decode cX7_nextPeriod 52 = .ok (.if_icmp .eq 19, 3) := by decide +kernel
theorem dX7_nextPeriod_55 : decode cX7_nextPeriod 55 = .ok (.aload_n 0, 1) := by decide +kernel
theorem dX7_nextPeriod_56 : decode cX7_nextPeriod 56 = .ok (.getfield 42, 3) := by decide +kernel
theorem dX7_nextPeriod_59 : decode cX7_nextPeriod 59 = .ok (.iload 4, 2) := by decide +kernel
theorem dX7_nextPeriod_61 : decode cX7_nextPeriod 61 = .ok (.iaload, 1) := by decide +kernel
theorem dX7_nextPeriod_62 : decode cX7_nextPeriod 62 = .ok (.aload_n 0, 1) := by decide +kernel
theorem dX7_nextPeriod_63 : decode cX7_nextPeriod 63 = .ok (.getfield 42, 3) := by decide +kernel
theorem dX7_nextPeriod_66 : decode cX7_nextPeriod 66 = .ok (.iload_n 3, 1) := by decide +kernel
theorem dX7_nextPeriod_67 : decode cX7_nextPeriod 67 = .ok (.iaload, 1) := by decide +kernel
theorem dX7_nextPeriod_68 : decode cX7_nextPeriod 68 = .ok (.if_icmp .ge 8, 3) := by decide +kernel
theorem dX7_nextPeriod_71 : decode cX7_nextPeriod 71 = .ok (.iload 4, 2) := by decide +kernel
theorem dX7_nextPeriod_73 : decode cX7_nextPeriod 73 = .ok (.goto 4, 3) := by decide +kernel
theorem dX7_nextPeriod_76 : decode cX7_nextPeriod 76 = .ok (.iload_n 3, 1) := by decide +kernel
theorem dX7_nextPeriod_77 : decode cX7_nextPeriod 77 = .ok (.istore_n 3, 1) := by decide +kernel
theorem dX7_nextPeriod_78 : decode cX7_nextPeriod 78 = .ok (.iinc 4 1, 3) := by decide +kernel
theorem dX7_nextPeriod_81 : decode cX7_nextPeriod 81 = .ok (.goto (-76), 3) := by decide +kernel
theorem dX7_nextPeriod_84 : decode cX7_nextPeriod 84 = .ok (.iload_n 3, 1) := by decide +kernel
theorem dX7_nextPeriod_85 : decode cX7_nextPeriod 85 = .ok (.ireturn, 1) := by decide +kernel
theorem dX7_remandOf_0 : decode cX7_remandOf 0 = .ok (.iconst 0, 1) := by decide +kernel
theorem dX7_remandOf_1 : decode cX7_remandOf 1 = .ok (.istore_n 2, 1) := by decide +kernel
theorem dX7_remandOf_2 : decode cX7_remandOf 2 = .ok (.iconst 0, 1) := by decide +kernel
theorem dX7_remandOf_3 : decode cX7_remandOf 3 = .ok (.istore_n 3, 1) := by decide +kernel
theorem dX7_remandOf_4 : decode cX7_remandOf 4 = .ok (.iconst 0, 1) := by decide +kernel
theorem dX7_remandOf_5 : decode cX7_remandOf 5 = .ok (.istore 4, 2) := by decide +kernel
theorem dX7_remandOf_7 : decode cX7_remandOf 7 = .ok (.aload_n 0, 1) := by decide +kernel
theorem dX7_remandOf_8 : decode cX7_remandOf 8 = .ok (.iload_n 1, 1) := by decide +kernel
theorem dX7_remandOf_9 : decode cX7_remandOf 9 = .ok (.iload_n 3, 1) := by decide +kernel
theorem dX7_remandOf_10 : decode cX7_remandOf 10 = .ok (.invokevirtual 150, 3) := by decide +kernel
theorem dX7_remandOf_13 : decode cX7_remandOf 13 = .ok (.istore 5, 2) := by decide +kernel
theorem dX7_remandOf_15 : decode cX7_remandOf 15 = .ok (.iload 5, 2) := by decide +kernel
theorem dX7_remandOf_17 : decode cX7_remandOf 17 = .ok (.iconst (-1), 1) := by decide +kernel
theorem dX7_remandOf_18 : decode cX7_remandOf 18 = .ok (.if_icmp .eq 103, 3) := by decide +kernel
theorem dX7_remandOf_21 : decode cX7_remandOf 21 = .ok (.aload_n 0, 1) := by decide +kernel
theorem dX7_remandOf_22 : decode cX7_remandOf 22 = .ok (.getfield 42, 3) := by decide +kernel
theorem dX7_remandOf_25 : decode cX7_remandOf 25 = .ok (.iload 5, 2) := by decide +kernel
theorem dX7_remandOf_27 : decode cX7_remandOf 27 = .ok (.iaload, 1) := by decide +kernel
theorem dX7_remandOf_28 : decode cX7_remandOf 28 = .ok (.iload 4, 2) := by decide +kernel
theorem dX7_remandOf_30 : decode cX7_remandOf 30 = .ok (.if_icmp .le 13, 3) := by decide +kernel
theorem dX7_remandOf_33 : decode cX7_remandOf 33 = .ok (.aload_n 0, 1) := by decide +kernel
theorem dX7_remandOf_34 : decode cX7_remandOf 34 = .ok (.getfield 42, 3) := by decide +kernel
theorem dX7_remandOf_37 : decode cX7_remandOf 37 = .ok (.iload 5, 2) := by decide +kernel
theorem dX7_remandOf_39 : decode cX7_remandOf 39 = .ok (.iaload, 1) := by decide +kernel
theorem dX7_remandOf_40 : decode cX7_remandOf 40 = .ok (.goto 5, 3) := by decide +kernel
theorem dX7_remandOf_43 : decode cX7_remandOf 43 = .ok (.iload 4, 2) := by decide +kernel
theorem dX7_remandOf_45 : decode cX7_remandOf 45 = .ok (.istore 6, 2) := by decide +kernel
theorem dX7_remandOf_47 : decode cX7_remandOf 47 = .ok (.aload_n 0, 1) := by decide +kernel
theorem dX7_remandOf_48 : decode cX7_remandOf 48 = .ok (.getfield 45, 3) := by decide +kernel
theorem dX7_remandOf_51 : decode cX7_remandOf 51 = .ok (.iload 5, 2) := by decide +kernel
theorem dX7_remandOf_53 : decode cX7_remandOf 53 = .ok (.iaload, 1) := by decide +kernel
theorem dX7_remandOf_54 : decode cX7_remandOf 54 = .ok (.iconst 1, 1) := by decide +kernel
theorem dX7_remandOf_55 : decode cX7_remandOf 55 = .ok (.iadd, 1) := by decide +kernel
theorem dX7_remandOf_56 : decode cX7_remandOf 56 = .ok (.istore 7, 2) := by decide +kernel
theorem dX7_remandOf_58 : decode cX7_remandOf 58 = .ok (.iload_n 2, 1) := by decide +kernel
theorem dX7_remandOf_59 : decode cX7_remandOf 59 = .ok (.iload 7, 2) := by decide +kernel
theorem dX7_remandOf_61 : decode cX7_remandOf 61 = .ok (.iload 6, 2) := by decide +kernel
theorem dX7_remandOf_63 : decode cX7_remandOf 63 = .ok (.if_icmp .le 21, 3) := by decide +kernel
theorem dX7_remandOf_66 : decode cX7_remandOf 66 = .ok (.aload_n 0, 1) := by decide +kernel
theorem dX7_remandOf_67 : decode cX7_remandOf 67 = .ok (.getfield 13, 3) := by decide +kernel
theorem dX7_remandOf_70 : decode cX7_remandOf 70 = .ok (.iload 7, 2) := by decide +kernel
theorem dX7_remandOf_72 : decode cX7_remandOf 72 = .ok (.iaload, 1) := by decide +kernel
theorem dX7_remandOf_73 : decode cX7_remandOf 73 = .ok (.aload_n 0, 1) := by decide +kernel
theorem dX7_remandOf_74 : decode cX7_remandOf 74 = .ok (.getfield 13, 3) := by decide +kernel
theorem dX7_remandOf_77 : decode cX7_remandOf 77 = .ok (.iload 6, 2) := by decide +kernel
theorem dX7_remandOf_79 : decode cX7_remandOf 79 = .ok (.iaload, 1) := by decide +kernel
theorem dX7_remandOf_80 : decode cX7_remandOf 80 = .ok (.isub, 1) := by decide +kernel
theorem dX7_remandOf_81 : decode cX7_remandOf 81 = .ok (.goto 4, 3) := by decide +kernel
theorem dX7_remandOf_84 : decode cX7_remandOf 84 = .ok (.iconst 0, 1) := by decide +kernel
theorem dX7_remandOf_85 : decode cX7_remandOf 85 = .ok (.iadd, 1) := by decide +kernel
theorem dX7_remandOf_86 : decode cX7_remandOf 86 = .ok (.istore_n 2, 1) := by decide +kernel
theorem dX7_remandOf_87 : decode cX7_remandOf 87 = .ok (.iload 7, 2) := by decide +kernel
theorem dX7_remandOf_89 : decode cX7_remandOf 89 = .ok (.iload 4, 2) := by decide +kernel
theorem dX7_remandOf_91 : decode cX7_remandOf 91 = .ok (.if_icmp .le 8, 3) := by decide +kernel
theorem dX7_remandOf_94 : decode cX7_remandOf 94 = .ok (.iload 7, 2) := by decide +kernel
theorem dX7_remandOf_96 : decode cX7_remandOf 96 = .ok (.goto 5, 3) := by decide +kernel
theorem dX7_remandOf_99 : decode cX7_remandOf 99 = .ok (.iload 4, 2) := by decide +kernel
theorem dX7_remandOf_101 : decode cX7_remandOf 101 = .ok (.istore 4, 2) := by decide +kernel
theorem dX7_remandOf_103 : decode cX7_remandOf 103 = .ok (.iload_n 3, 1) := by decide +kernel
theorem dX7_remandOf_104 : decode cX7_remandOf 104 = .ok (.iconst 1, 1) := by decide +kernel
theorem dX7_remandOf_105 : decode cX7_remandOf 105 = .ok (.iload 5, 2) := by decide +kernel
theorem dX7_remandOf_107 : decode cX7_remandOf 107 = .ok (.ishl, 1) := by decide +kernel
theorem dX7_remandOf_108 : decode cX7_remandOf 108 = .ok (.ior, 1) := by decide +kernel
theorem dX7_remandOf_109 : decode cX7_remandOf 109 = .ok (.istore_n 3, 1) := by decide +kernel
theorem dX7_remandOf_110 : decode cX7_remandOf 110 = .ok (.aload_n 0, 1) := by decide +kernel
theorem dX7_remandOf_111 : decode cX7_remandOf 111 = .ok (.iload_n 1, 1) := by decide +kernel
theorem dX7_remandOf_112 : decode cX7_remandOf 112 = .ok (.iload_n 3, 1) := by decide +kernel
theorem dX7_remandOf_113 : decode cX7_remandOf 113 = .ok (.invokevirtual 150, 3) := by decide +kernel
theorem dX7_remandOf_116 : decode cX7_remandOf 116 = .ok (.istore 5, 2) := by decide +kernel
theorem dX7_remandOf_118 : decode cX7_remandOf 118 = .ok (.goto (-103), 3) := by decide +kernel
theorem dX7_remandOf_121 : decode cX7_remandOf 121 = .ok (.iload_n 2, 1) := by decide +kernel
theorem dX7_remandOf_122 : decode cX7_remandOf 122 = .ok (.ireturn, 1) := by decide +kernel
theorem dX7_addedTo_0 : decode cX7_addedTo 0 = .ok (.iconst 0, 1) := by decide +kernel
theorem dX7_addedTo_1 : decode cX7_addedTo 1 = .ok (.istore_n 2, 1) := by decide +kernel
theorem dX7_addedTo_2 : decode cX7_addedTo 2 = .ok (.iconst 0, 1) := by decide +kernel
theorem dX7_addedTo_3 : decode cX7_addedTo 3 = .ok (.istore_n 3, 1) := by decide +kernel
theorem dX7_addedTo_4 : decode cX7_addedTo 4 = .ok (.iload_n 3, 1) := by decide +kernel
theorem dX7_addedTo_5 : decode cX7_addedTo 5 = .ok (.aload_n 0, 1) := by decide +kernel
theorem dX7_addedTo_6 : decode cX7_addedTo 6 = .ok (.getfield 153, 3) := by decide +kernel
theorem dX7_addedTo_9 : decode cX7_addedTo 9 = .ok (.if_icmp .ge 78, 3) := by decide +kernel
theorem dX7_addedTo_12 : decode cX7_addedTo 12 = .ok (.iconst 0, 1) := by decide +kernel
theorem dX7_addedTo_13 : decode cX7_addedTo 13 = .ok (.istore 4, 2) := by decide +kernel
theorem dX7_addedTo_15 : decode cX7_addedTo 15 = .ok (.iload_n 1, 1) := by decide +kernel
theorem dX7_addedTo_16 : decode cX7_addedTo 16 = .ok (.istore 5, 2) := by decide +kernel
theorem dX7_addedTo_18 : decode cX7_addedTo 18 = .ok (.iload 5, 2) := by decide +kernel
theorem dX7_addedTo_20 : decode cX7_addedTo 20 = .ok (.iconst (-1), 1) := by decide +kernel
theorem dX7_addedTo_21 : decode cX7_addedTo 21 = .ok (.if_icmp .eq 42, 3) := by decide +kernel
theorem dX7_addedTo_24 : decode cX7_addedTo 24 = .ok (.iload 4, 2) := by decide +kernel
theorem dX7_addedTo_26 : decode cX7_addedTo 26 = .ok (.ifCond .ne 18, 3) := by decide +kernel
theorem dX7_addedTo_29 : decode cX7_addedTo 29 = .ok (.aload_n 0, 1) := by decide +kernel
theorem dX7_addedTo_30 : decode cX7_addedTo 30 = .ok (.getfield 51, 3) := by decide +kernel
theorem dX7_addedTo_33 : decode cX7_addedTo 33 = .ok (.iload_n 3, 1) := by decide +kernel
theorem dX7_addedTo_34 : decode cX7_addedTo 34 = .ok (.iaload, 1) := by decide +kernel
theorem dX7_addedTo_35 : decode cX7_addedTo 35 = .ok (.iload 5, 2) := by decide +kernel
theorem dX7_addedTo_37 : decode cX7_addedTo 37 = .ok (.ishr, 1) := by decide +kernel
theorem dX7_addedTo_38 : decode cX7_addedTo 38 = .ok (.iconst 1, 1) := by decide +kernel
theorem dX7_addedTo_39 : decode cX7_addedTo 39 = .ok (.iand, 1) := by decide +kernel
theorem dX7_addedTo_40 : decode cX7_addedTo 40 = .ok (.iconst 1, 1) := by decide +kernel
theorem dX7_addedTo_41 : decode cX7_addedTo 41 = .ok (.if_icmp .ne 7, 3) := by decide +kernel
theorem dX7_addedTo_44 : decode cX7_addedTo 44 = .ok (.iconst 1, 1) := by decide +kernel
theorem dX7_addedTo_45 : decode cX7_addedTo 45 = .ok (.goto 4, 3) := by decide +kernel
theorem dX7_addedTo_48 : decode cX7_addedTo 48 = .ok (.iconst 0, 1) := by decide +kernel
theorem dX7_addedTo_49 : decode cX7_addedTo 49 = .ok (.istore 4, 2) := by decide +kernel
theorem dX7_addedTo_51 : decode cX7_addedTo 51 = .ok (.aload_n 0, 1) := by decide +kernel
theorem dX7_addedTo_52 : decode cX7_addedTo 52 = .ok (.getfield 32, 3) := by decide +kernel
theorem dX7_addedTo_55 : decode cX7_addedTo 55 = .ok (.iload 5, 2) := by decide +kernel
theorem dX7_addedTo_57 : decode cX7_addedTo 57 = .ok (.iaload, 1) := by decide +kernel
theorem dX7_addedTo_58 : decode cX7_addedTo 58 = .ok (.istore 5, 2) := by decide +kernel
theorem dX7_addedTo_60 : decode cX7_addedTo 60 = .ok (.goto (-42), 3) := by decide +kernel
theorem dX7_addedTo_63 : decode cX7_addedTo 63 = .ok (.iload_n 2, 1) := by decide +kernel
theorem dX7_addedTo_64 : decode cX7_addedTo 64 = .ok (.iload 4, 2) := by decide +kernel
theorem dX7_addedTo_66 : decode cX7_addedTo 66 = .ok (.ifCond .eq 12, 3) := by decide +kernel
theorem dX7_addedTo_69 : decode cX7_addedTo 69 = .ok (.aload_n 0, 1) := by decide +kernel
theorem dX7_addedTo_70 : decode cX7_addedTo 70 = .ok (.getfield 48, 3) := by decide +kernel
theorem dX7_addedTo_73 : decode cX7_addedTo 73 = .ok (.iload_n 3, 1) := by decide +kernel
theorem dX7_addedTo_74 : decode cX7_addedTo 74 = .ok (.iaload, 1) := by decide +kernel
theorem dX7_addedTo_75 : decode cX7_addedTo 75 = .ok (.goto 4, 3) := by decide +kernel
theorem dX7_addedTo_78 : decode cX7_addedTo 78 = .ok (.iconst 0, 1) := by decide +kernel
theorem dX7_addedTo_79 : decode cX7_addedTo 79 = .ok (.iadd, 1) := by decide +kernel
theorem dX7_addedTo_80 : decode cX7_addedTo 80 = .ok (.istore_n 2, 1) := by decide +kernel
theorem dX7_addedTo_81 : decode cX7_addedTo 81 = .ok (.iinc 3 1, 3) := by decide +kernel
theorem dX7_addedTo_84 : decode cX7_addedTo 84 = .ok (.goto (-80), 3) := by decide +kernel
theorem dX7_addedTo_87 : decode cX7_addedTo 87 = .ok (.iload_n 2, 1) := by decide +kernel
theorem dX7_addedTo_88 : decode cX7_addedTo 88 = .ok (.ireturn, 1) := by decide +kernel
theorem dX7_worksTerm_0 : decode cX7_worksTerm 0 = .ok (.aload_n 0, 1) := by decide +kernel
theorem dX7_worksTerm_1 : decode cX7_worksTerm 1 = .ok (.getfield 32, 3) := by decide +kernel
theorem dX7_worksTerm_4 : decode cX7_worksTerm 4 = .ok (.iload_n 1, 1) := by decide +kernel
theorem dX7_worksTerm_5 : decode cX7_worksTerm 5 = .ok (.iaload, 1) := by decide +kernel
theorem dX7_worksTerm_6 : decode cX7_worksTerm 6 = .ok (.istore_n 2, 1) := by decide +kernel
theorem dX7_worksTerm_7 : decode cX7_worksTerm 7 = .ok (.iload_n 2, 1) := by decide +kernel
theorem dX7_worksTerm_8 : decode cX7_worksTerm 8 = .ok (.iconst (-1), 1) := by decide +kernel
theorem dX7_worksTerm_9 : decode cX7_worksTerm 9 = .ok (.if_icmp .ne 7, 3) := by decide +kernel
theorem dX7_worksTerm_12 : decode cX7_worksTerm 12 = .ok (.iconst 1, 1) := by decide +kernel
theorem dX7_worksTerm_13 : decode cX7_worksTerm 13 = .ok (.goto 4, 3) := by decide +kernel
theorem dX7_worksTerm_16 : decode cX7_worksTerm 16 = .ok (.iconst 0, 1) := by decide +kernel
theorem dX7_worksTerm_17 : decode cX7_worksTerm 17 = .ok (.istore_n 3, 1) := by decide +kernel
theorem dX7_worksTerm_18 : decode cX7_worksTerm 18 = .ok (.aload_n 0, 1) := by decide +kernel
theorem dX7_worksTerm_19 : decode cX7_worksTerm 19 = .ok (.getfield 57, 3) := by decide +kernel
theorem dX7_worksTerm_22 : decode cX7_worksTerm 22 = .ok (.iload_n 1, 1) := by decide +kernel
theorem dX7_worksTerm_23 : decode cX7_worksTerm 23 = .ok (.iload_n 3, 1) := by decide +kernel
theorem dX7_worksTerm_24 : decode cX7_worksTerm 24 = .ok (.ifCond .eq 12, 3) := by decide +kernel
theorem dX7_worksTerm_27 : decode cX7_worksTerm 27 = .ok (.aload_n 0, 1) := by decide +kernel
theorem dX7_worksTerm_28 : decode cX7_worksTerm 28 = .ok (.getfield 29, 3) := by decide +kernel
theorem dX7_worksTerm_31 : decode cX7_worksTerm 31 = .ok (.iload_n 1, 1) := by decide +kernel
theorem dX7_worksTerm_32 : decode cX7_worksTerm 32 = .ok (.iaload, 1) := by decide +kernel
theorem dX7_worksTerm_33 : decode cX7_worksTerm 33 = .ok (.goto 16, 3) := by decide +kernel
theorem dX7_worksTerm_36 : decode cX7_worksTerm 36 = .ok (.aload_n 0, 1) := by decide +kernel
theorem dX7_worksTerm_37 : decode cX7_worksTerm 37 = .ok (.getfield 57, 3) := by decide +kernel
theorem dX7_worksTerm_40 : decode cX7_worksTerm 40 = .ok (.iload_n 2, 1) := by decide +kernel
theorem dX7_worksTerm_41 : decode cX7_worksTerm 41 = .ok (.iaload, 1) := by decide +kernel
theorem dX7_worksTerm_42 : decode cX7_worksTerm 42 = .ok (.aload_n 0, 1) := by decide +kernel
theorem dX7_worksTerm_43 : decode cX7_worksTerm 43 = .ok (.getfield 60, 3) := by decide +kernel
theorem dX7_worksTerm_46 : decode cX7_worksTerm 46 = .ok (.iload_n 2, 1) := by decide +kernel
theorem dX7_worksTerm_47 : decode cX7_worksTerm 47 = .ok (.iaload, 1) := by decide +kernel
theorem dX7_worksTerm_48 : decode cX7_worksTerm 48 = .ok (.iadd, 1) := by decide +kernel
theorem dX7_worksTerm_49 : decode cX7_worksTerm 49 = .ok (.iastore, 1) := by decide +kernel
theorem dX7_worksTerm_50 : decode cX7_worksTerm 50 = .ok (.aload_n 0, 1) := by decide +kernel
theorem dX7_worksTerm_51 : decode cX7_worksTerm 51 = .ok (.getfield 60, 3) := by decide +kernel
theorem dX7_worksTerm_54 : decode cX7_worksTerm 54 = .ok (.iload_n 1, 1) := by decide +kernel
theorem dX7_worksTerm_55 : decode cX7_worksTerm 55 = .ok (.aload_n 0, 1) := by decide +kernel
theorem dX7_worksTerm_56 : decode cX7_worksTerm 56 = .ok (.aload_n 0, 1) := by decide +kernel
theorem dX7_worksTerm_57 : decode cX7_worksTerm 57 = .ok (.getfield 57, 3) := by decide +kernel
theorem dX7_worksTerm_60 : decode cX7_worksTerm 60 = .ok (.iload_n 1, 1) := by decide +kernel
theorem dX7_worksTerm_61 : decode cX7_worksTerm 61 = .ok (.iaload, 1) := by decide +kernel
theorem dX7_worksTerm_62 : decode cX7_worksTerm 62 = .ok (.aload_n 0, 1) := by decide +kernel
theorem dX7_worksTerm_63 : decode cX7_worksTerm 63 = .ok (.getfield 20, 3) := by decide +kernel
theorem dX7_worksTerm_66 : decode cX7_worksTerm 66 = .ok (.iload_n 1, 1) := by decide +kernel
theorem dX7_worksTerm_67 : decode cX7_worksTerm 67 = .ok (.iaload, 1) := by decide +kernel
theorem dX7_worksTerm_68 : decode cX7_worksTerm 68 = .ok (.invokevirtual 137, 3) := by decide +kernel
theorem dX7_worksTerm_71 : decode cX7_worksTerm 71 = .ok (.aload_n 0, 1) := by decide +kernel
theorem dX7_worksTerm_72 : decode cX7_worksTerm 72 = .ok (.getfield 57, 3) := by decide +kernel
theorem dX7_worksTerm_75 : decode cX7_worksTerm 75 = .ok (.iload_n 1, 1) := by decide +kernel
theorem dX7_worksTerm_76 : decode cX7_worksTerm 76 = .ok (.iaload, 1) := by decide +kernel
theorem dX7_worksTerm_77 : decode cX7_worksTerm 77 = .ok (.isub, 1) := by decide +kernel
theorem dX7_worksTerm_78 : decode cX7_worksTerm 78 = .ok (.aload_n 0, 1) := by decide +kernel
theorem dX7_worksTerm_79 : decode cX7_worksTerm 79 = .ok (.getfield 23, 3) := by decide +kernel
theorem dX7_worksTerm_82 : decode cX7_worksTerm 82 = .ok (.iload_n 1, 1) := by decide +kernel
theorem dX7_worksTerm_83 : decode cX7_worksTerm 83 = .ok (.iaload, 1) := by decide +kernel
theorem dX7_worksTerm_84 : decode cX7_worksTerm 84 = .ok (.iadd, 1) := by decide +kernel
theorem dX7_worksTerm_85 : decode cX7_worksTerm 85 = .ok (.iastore, 1) := by decide +kernel
theorem dX7_worksTerm_86 : decode cX7_worksTerm 86 = .ok (.aload_n 0, 1) := by decide +kernel
theorem dX7_worksTerm_87 : decode cX7_worksTerm 87 = .ok (.getfield 63, 3) := by decide +kernel
theorem dX7_worksTerm_90 : decode cX7_worksTerm 90 = .ok (.iload_n 1, 1) := by decide +kernel
theorem dX7_worksTerm_91 : decode cX7_worksTerm 91 = .ok (.aload_n 0, 1) := by decide +kernel
theorem dX7_worksTerm_92 : decode cX7_worksTerm 92 = .ok (.getfield 17, 3) := by decide +kernel
theorem dX7_worksTerm_95 : decode cX7_worksTerm 95 = .ok (.iload_n 1, 1) := by decide +kernel
theorem dX7_worksTerm_96 : decode cX7_worksTerm 96 = .ok (.iaload, 1) := by decide +kernel
theorem dX7_worksTerm_97 : decode cX7_worksTerm 97 = .ok (.aload_n 0, 1) := by decide +kernel
theorem dX7_worksTerm_98 : decode cX7_worksTerm 98 = .ok (.getfield 60, 3) := by decide +kernel
theorem dX7_worksTerm_101 : decode cX7_worksTerm 101 = .ok (.iload_n 1, 1) := by decide +kernel
theorem dX7_worksTerm_102 : decode cX7_worksTerm 102 = .ok (.iaload, 1) := by decide +kernel
theorem dX7_worksTerm_103 : decode cX7_worksTerm 103 = .ok (.invokestatic 156, 3) := by decide +kernel
theorem dX7_worksTerm_106 : decode cX7_worksTerm 106 = .ok (.iastore, 1) := by decide +kernel
theorem dX7_worksTerm_107 : decode cX7_worksTerm 107 = .ok (.aload_n 0, 1) := by decide +kernel
theorem dX7_worksTerm_108 : decode cX7_worksTerm 108 = .ok (.getfield 66, 3) := by decide +kernel
theorem dX7_worksTerm_111 : decode cX7_worksTerm 111 = .ok (.iload_n 1, 1) := by decide +kernel
theorem dX7_worksTerm_112 : decode cX7_worksTerm 112 = .ok (.iload_n 3, 1) := by decide +kernel
theorem dX7_worksTerm_113 : decode cX7_worksTerm 113 = .ok (.ifCond .eq 12, 3) := by decide +kernel
theorem dX7_worksTerm_116 : decode cX7_worksTerm 116 = .ok (.aload_n 0, 1) := by decide +kernel
theorem dX7_worksTerm_117 : decode cX7_worksTerm 117 = .ok (.getfield 57, 3) := by decide +kernel
theorem dX7_worksTerm_120 : decode cX7_worksTerm 120 = .ok (.iload_n 1, 1) := by decide +kernel
theorem dX7_worksTerm_121 : decode cX7_worksTerm 121 = .ok (.iaload, 1) := by decide +kernel
theorem dX7_worksTerm_122 : decode cX7_worksTerm 122 = .ok (.goto 9, 3) := by decide +kernel
theorem dX7_worksTerm_125 : decode cX7_worksTerm 125 = .ok (.aload_n 0, 1) := by decide +kernel
theorem dX7_worksTerm_126 : decode cX7_worksTerm 126 = .ok (.getfield 66, 3) := by decide +kernel
theorem dX7_worksTerm_129 : decode cX7_worksTerm 129 = .ok (.iload_n 2, 1) := by decide +kernel
theorem dX7_worksTerm_130 : decode cX7_worksTerm 130 = .ok (.iaload, 1) := by decide +kernel
theorem dX7_worksTerm_131 : decode cX7_worksTerm 131 = .ok (.iastore, 1) := by decide +kernel
theorem dX7_worksTerm_132 : decode cX7_worksTerm 132 = .ok (.aload_n 0, 1) := by decide +kernel
theorem dX7_worksTerm_133 : decode cX7_worksTerm 133 = .ok (.getfield 69, 3) := by decide +kernel
theorem dX7_worksTerm_136 : decode cX7_worksTerm 136 = .ok (.iload_n 1, 1) := by decide +kernel
theorem dX7_worksTerm_137 : decode cX7_worksTerm 137 = .ok (.aload_n 0, 1) := by decide +kernel
theorem dX7_worksTerm_138 : decode cX7_worksTerm 138 = .ok (.getfield 60, 3) := by decide +kernel
theorem dX7_worksTerm_141 : decode cX7_worksTerm 141 = .ok (.iload_n 1, 1) := by decide +kernel
theorem dX7_worksTerm_142 : decode cX7_worksTerm 142 = .ok (.iaload, 1) := by decide +kernel
theorem dX7_worksTerm_143 : decode cX7_worksTerm 143 = .ok (.iload_n 3, 1) := by decide +kernel
theorem dX7_worksTerm_144 : decode cX7_worksTerm 144 = .ok (.ifCond .eq 7, 3) := by decide +kernel
theorem dX7_worksTerm_147 : decode cX7_worksTerm 147 = .ok (.iconst 0, 1) := by decide +kernel
theorem dX7_worksTerm_148 : decode cX7_worksTerm 148 = .ok (.goto 9, 3) := by decide +kernel
theorem dX7_worksTerm_151 : decode cX7_worksTerm 151 = .ok (.aload_n 0, 1) := by decide +kernel
theorem dX7_worksTerm_152 : decode cX7_worksTerm 152 = .ok (.getfield 69, 3) := by decide +kernel
theorem dX7_worksTerm_155 : decode cX7_worksTerm 155 = .ok (.iload_n 2, 1) := by decide +kernel
theorem dX7_worksTerm_156 : decode cX7_worksTerm 156 = .ok (.iaload, 1) := by decide +kernel
theorem dX7_worksTerm_157 : decode cX7_worksTerm 157 = .ok (.iadd, 1) := by decide +kernel
theorem dX7_worksTerm_158 : decode cX7_worksTerm 158 = .ok (.iastore, 1) := by decide +kernel
theorem dX7_worksTerm_159 : decode cX7_worksTerm 159 = .ok (.aload_n 0, 1) := by decide +kernel
theorem dX7_worksTerm_160 : decode cX7_worksTerm 160 = .ok (.getfield 72, 3) := by decide +kernel
theorem dX7_worksTerm_163 : decode cX7_worksTerm 163 = .ok (.iload_n 1, 1) := by decide +kernel
theorem dX7_worksTerm_164 : decode cX7_worksTerm 164 = .ok (.aload_n 0, 1) := by decide +kernel
theorem dX7_worksTerm_165 : decode cX7_worksTerm 165 = .ok (.getfield 63, 3) := by decide +kernel
theorem dX7_worksTerm_168 : decode cX7_worksTerm 168 = .ok (.iload_n 1, 1) := by decide +kernel
theorem dX7_worksTerm_169 : decode cX7_worksTerm 169 = .ok (.iaload, 1) := by decide +kernel
theorem dX7_worksTerm_170 : decode cX7_worksTerm 170 = .ok (.iload_n 3, 1) := by decide +kernel
theorem dX7_worksTerm_171 : decode cX7_worksTerm 171 = .ok (.ifCond .eq 7, 3) := by decide +kernel
theorem dX7_worksTerm_174 : decode cX7_worksTerm 174 = .ok (.iconst 0, 1) := by decide +kernel
theorem dX7_worksTerm_175 : decode cX7_worksTerm 175 = .ok (.goto 9, 3) := by decide +kernel
theorem dX7_worksTerm_178 : decode cX7_worksTerm 178 = .ok (.aload_n 0, 1) := by decide +kernel
theorem dX7_worksTerm_179 : decode cX7_worksTerm 179 = .ok (.getfield 72, 3) := by decide +kernel
theorem dX7_worksTerm_182 : decode cX7_worksTerm 182 = .ok (.iload_n 2, 1) := by decide +kernel
theorem dX7_worksTerm_183 : decode cX7_worksTerm 183 = .ok (.iaload, 1) := by decide +kernel
theorem dX7_worksTerm_184 : decode cX7_worksTerm 184 = .ok (.iadd, 1) := by decide +kernel
theorem dX7_worksTerm_185 : decode cX7_worksTerm 185 = .ok (.iastore, 1) := by decide +kernel
theorem dX7_worksTerm_186 : decode cX7_worksTerm 186 = .ok (.aload_n 0, 1) := by decide +kernel
theorem dX7_worksTerm_187 : decode cX7_worksTerm 187 = .ok (.iload_n 1, 1) := by decide +kernel
theorem dX7_worksTerm_188 : decode cX7_worksTerm 188 = .ok (.invokevirtual 159, 3) := by decide +kernel
theorem dX7_worksTerm_191 : decode cX7_worksTerm 191 = .ok (.istore 4, 2) := by decide +kernel
theorem dX7_worksTerm_193 : decode cX7_worksTerm 193 = .ok (.aload_n 0, 1) := by decide +kernel
theorem dX7_worksTerm_194 : decode cX7_worksTerm 194 = .ok (.getfield 75, 3) := by decide +kernel
theorem dX7_worksTerm_197 : decode cX7_worksTerm 197 = .ok (.iload_n 1, 1) := by decide +kernel
theorem dX7_worksTerm_198 : decode cX7_worksTerm 198 = .ok (.iload 4, 2) := by decide +kernel
theorem dX7_worksTerm_200 : decode cX7_worksTerm 200 = .ok (.aload_n 0, 1) := by decide +kernel
theorem dX7_worksTerm_201 : decode cX7_worksTerm 201 = .ok (.getfield 69, 3) := by decide +kernel
theorem dX7_worksTerm_204 : decode cX7_worksTerm 204 = .ok (.iload_n 1, 1) := by decide +kernel
theorem dX7_worksTerm_205 : decode cX7_worksTerm 205 = .ok (.iaload, 1) := by decide +kernel
theorem dX7_worksTerm_206 : decode cX7_worksTerm 206 = .ok (.if_icmp .ge 8, 3) := by decide +kernel
theorem dX7_worksTerm_209 : decode cX7_worksTerm 209 = .ok (.iload 4, 2) := by decide +kernel
theorem dX7_worksTerm_211 : decode cX7_worksTerm 211 = .ok (.goto 9, 3) := by decide +kernel
theorem dX7_worksTerm_214 : decode cX7_worksTerm 214 = .ok (.aload_n 0, 1) := by decide +kernel
theorem dX7_worksTerm_215 : decode cX7_worksTerm 215 = .ok (.getfield 69, 3) := by decide +kernel
theorem dX7_worksTerm_218 : decode cX7_worksTerm 218 = .ok (.iload_n 1, 1) := by decide +kernel
theorem dX7_worksTerm_219 : decode cX7_worksTerm 219 = .ok (.iaload, 1) := by decide +kernel
theorem dX7_worksTerm_220 : decode cX7_worksTerm 220 = .ok (.iastore, 1) := by decide +kernel
theorem dX7_worksTerm_221 : decode cX7_worksTerm 221 = .ok (.aload_n 0, 1) := by decide +kernel
theorem dX7_worksTerm_222 : decode cX7_worksTerm 222 = .ok (.getfield 78, 3) := by decide +kernel
theorem dX7_worksTerm_225 : decode cX7_worksTerm 225 = .ok (.iload_n 1, 1) := by decide +kernel
theorem dX7_worksTerm_226 : decode cX7_worksTerm 226 = .ok (.aload_n 0, 1) := by decide +kernel
theorem dX7_worksTerm_227 : decode cX7_worksTerm 227 = .ok (.iload_n 1, 1) := by decide +kernel
theorem dX7_worksTerm_228 : decode cX7_worksTerm 228 = .ok (.invokevirtual 162, 3) := by decide +kernel
theorem dX7_worksTerm_231 : decode cX7_worksTerm 231 = .ok (.iastore, 1) := by decide +kernel
theorem dX7_worksTerm_232 : decode cX7_worksTerm 232 = .ok (.aload_n 0, 1) := by decide +kernel
theorem dX7_worksTerm_233 : decode cX7_worksTerm 233 = .ok (.getfield 69, 3) := by decide +kernel
theorem dX7_worksTerm_236 : decode cX7_worksTerm 236 = .ok (.iload_n 1, 1) := by decide +kernel
theorem dX7_worksTerm_237 : decode cX7_worksTerm 237 = .ok (.iaload, 1) := by decide +kernel
theorem dX7_worksTerm_238 : decode cX7_worksTerm 238 = .ok (.aload_n 0, 1) := by decide +kernel
theorem dX7_worksTerm_239 : decode cX7_worksTerm 239 = .ok (.getfield 75, 3) := by decide +kernel
theorem dX7_worksTerm_242 : decode cX7_worksTerm 242 = .ok (.iload_n 1, 1) := by decide +kernel
theorem dX7_worksTerm_243 : decode cX7_worksTerm 243 = .ok (.iaload, 1) := by decide +kernel
theorem dX7_worksTerm_244 : decode cX7_worksTerm 244 = .ok (.isub, 1) := by decide +kernel
theorem dX7_worksTerm_245 : decode cX7_worksTerm 245 = .ok (.istore 5, 2) := by decide +kernel
theorem dX7_worksTerm_247 : decode cX7_worksTerm 247 = .ok (.aload_n 0, 1) := by decide +kernel
theorem dX7_worksTerm_248 : decode cX7_worksTerm 248 = .ok (.getfield 72, 3) := by decide +kernel
theorem dX7_worksTerm_251 : decode cX7_worksTerm 251 = .ok (.iload_n 1, 1) := by decide +kernel
theorem dX7_worksTerm_252 : decode cX7_worksTerm 252 = .ok (.iaload, 1) := by decide +kernel
theorem dX7_worksTerm_253 : decode cX7_worksTerm 253 = .ok (.aload_n 0, 1) := by decide +kernel
theorem dX7_worksTerm_254 : decode cX7_worksTerm 254 = .ok (.getfield 75, 3) := by decide +kernel
theorem dX7_worksTerm_257 : decode cX7_worksTerm 257 = .ok (.iload_n 1, 1) := by decide +kernel
theorem dX7_worksTerm_258 : decode cX7_worksTerm 258 = .ok (.iaload, 1) := by decide +kernel
theorem dX7_worksTerm_259 : decode cX7_worksTerm 259 = .ok (.if_icmp .le 19, 3) := by decide +kernel
theorem dX7_worksTerm_262 : decode cX7_worksTerm 262 = .ok (.aload_n 0, 1) := by decide +kernel
theorem dX7_worksTerm_263 : decode cX7_worksTerm 263 = .ok (.getfield 72, 3) := by decide +kernel
theorem dX7_worksTerm_266 : decode cX7_worksTerm 266 = .ok (.iload_n 1, 1) := by decide +kernel
theorem dX7_worksTerm_267 : decode cX7_worksTerm 267 = .ok (.iaload, 1) := by decide +kernel
theorem dX7_worksTerm_268 : decode cX7_worksTerm 268 = .ok (.aload_n 0, 1) := by decide +kernel
theorem dX7_worksTerm_269 : decode cX7_worksTerm 269 = .ok (.getfield 75, 3) := by decide +kernel
theorem dX7_worksTerm_272 : decode cX7_worksTerm 272 = .ok (.iload_n 1, 1) := by decide +kernel
theorem dX7_worksTerm_273 : decode cX7_worksTerm 273 = .ok (.iaload, 1) := by decide +kernel
theorem dX7_worksTerm_274 : decode cX7_worksTerm 274 = .ok (.isub, 1) := by decide +kernel
theorem dX7_worksTerm_275 : decode cX7_worksTerm 275 = .ok (.goto 4, 3) := by decide +kernel
theorem dX7_worksTerm_278 : decode cX7_worksTerm 278 = .ok (.iconst 0, 1) := by decide +kernel
theorem dX7_worksTerm_279 : decode cX7_worksTerm 279 = .ok (.aload_n 0, 1) := by decide +kernel
theorem dX7_worksTerm_280 : decode cX7_worksTerm 280 = .ok (.getfield 78, 3) := by decide +kernel
theorem dX7_worksTerm_283 : decode cX7_worksTerm 283 = .ok (.iload_n 1, 1) := by decide +kernel
theorem dX7_worksTerm_284 : decode cX7_worksTerm 284 = .ok (.iaload, 1) := by decide +kernel
theorem dX7_worksTerm_285 : decode cX7_worksTerm 285 = .ok (.iadd, 1) := by decide +kernel
theorem dX7_worksTerm_286 : decode cX7_worksTerm 286 = .ok (.istore 6, 2) := by decide +kernel
theorem dX7_worksTerm_288 : decode cX7_worksTerm 288 = .ok (.aload_n 0, 1) := by decide +kernel
theorem dX7_worksTerm_289 : decode cX7_worksTerm 289 = .ok (.getfield 81, 3) := by decide +kernel
theorem dX7_worksTerm_292 : decode cX7_worksTerm 292 = .ok (.iload_n 1, 1) := by decide +kernel
theorem dX7_worksTerm_293 : decode cX7_worksTerm 293 = .ok (.aload_n 0, 1) := by decide +kernel
theorem dX7_worksTerm_294 : decode cX7_worksTerm 294 = .ok (.getfield 66, 3) := by decide +kernel
theorem dX7_worksTerm_297 : decode cX7_worksTerm 297 = .ok (.iload_n 1, 1) := by decide +kernel
theorem dX7_worksTerm_298 : decode cX7_worksTerm 298 = .ok (.iaload, 1) := by decide +kernel
theorem dX7_worksTerm_299 : decode cX7_worksTerm 299 = .ok (.iload 6, 2) := by decide +kernel
theorem dX7_worksTerm_301 : decode cX7_worksTerm 301 = .ok (.iload 5, 2) := by decide +kernel
theorem dX7_worksTerm_303 : decode cX7_worksTerm 303 = .ok (.if_icmp .ge 8, 3) := by decide +kernel
theorem dX7_worksTerm_306 : decode cX7_worksTerm 306 = .ok (.iload 6, 2) := by decide +kernel
theorem dX7_worksTerm_308 : decode cX7_worksTerm 308 = .ok (.goto 5, 3) := by decide +kernel
theorem dX7_worksTerm_311 : decode cX7_worksTerm 311 = .ok (.iload 5, 2) := by decide +kernel
theorem dX7_worksTerm_313 : decode cX7_worksTerm 313 = .ok (.iadd, 1) := by decide +kernel
theorem dX7_worksTerm_314 : decode cX7_worksTerm 314 = .ok (.iastore, 1) := by decide +kernel
theorem dX7_worksTerm_315 : decode cX7_worksTerm 315 = .ok (.aload_n 0, 1) := by decide +kernel
theorem dX7_worksTerm_316 : decode cX7_worksTerm 316 = .ok (.getfield 84, 3) := by decide +kernel
theorem dX7_worksTerm_319 : decode cX7_worksTerm 319 = .ok (.iload_n 1, 1) := by decide +kernel
theorem dX7_worksTerm_320 : decode cX7_worksTerm 320 = .ok (.aload_n 0, 1) := by decide +kernel
theorem dX7_worksTerm_321 : decode cX7_worksTerm 321 = .ok (.getfield 66, 3) := by decide +kernel
theorem dX7_worksTerm_324 : decode cX7_worksTerm 324 = .ok (.iload_n 1, 1) := by decide +kernel
theorem dX7_worksTerm_325 : decode cX7_worksTerm 325 = .ok (.iaload, 1) := by decide +kernel
theorem dX7_worksTerm_326 : decode cX7_worksTerm 326 = .ok (.iload 5, 2) := by decide +kernel
theorem dX7_worksTerm_328 : decode cX7_worksTerm 328 = .ok (.iadd, 1) := by decide +kernel
theorem dX7_worksTerm_329 : decode cX7_worksTerm 329 = .ok (.iastore, 1) := by decide +kernel
theorem dX7_worksTerm_330 : decode cX7_worksTerm 330 = .ok (.return_, 1) := by decide +kernel
theorem dX7_works_0 : decode cX7_works 0 = .ok (.iconst 0, 1) := by decide +kernel
theorem dX7_works_1 : decode cX7_works 1 = .ok (.istore_n 1, 1) := by decide +kernel
theorem dX7_works_2 : decode cX7_works 2 = .ok (.iload_n 1, 1) := by decide +kernel
theorem dX7_works_3 : decode cX7_works 3 = .ok (.aload_n 0, 1) := by decide +kernel
theorem dX7_works_4 : decode cX7_works 4 = .ok (.getfield 140, 3) := by decide +kernel
theorem dX7_works_7 : decode cX7_works 7 = .ok (.if_icmp .ge 22, 3) := by decide +kernel
theorem dX7_works_10 : decode cX7_works 10 = .ok (.aload_n 0, 1) := by decide +kernel
theorem dX7_works_11 : decode cX7_works 11 = .ok (.iload_n 1, 1) := by decide +kernel
theorem dX7_works_12 : decode cX7_works 12 = .ok (.invokevirtual 165, 3) := by decide +kernel
theorem dX7_works_15 : decode cX7_works 15 = .ok (.ifCond .eq 8, 3) := by decide +kernel
theorem dX7_works_18 : decode cX7_works 18 = .ok (.aload_n 0, 1) := by decide +kernel
theorem dX7_works_19 : decode cX7_works 19 = .ok (.iload_n 1, 1) := by decide +kernel
theorem dX7_works_20 : decode cX7_works 20 = .ok (.invokevirtual 168, 3) := by decide +kernel
theorem dX7_works_23 : decode cX7_works 23 = .ok (.iinc 1 1, 3) := by decide +kernel
theorem dX7_works_26 : decode cX7_works 26 = .ok (.goto (-24), 3) := by decide +kernel
theorem dX7_works_29 : decode cX7_works 29 = .ok (.return_, 1) := by decide +kernel
theorem dX7_isAny_0 : decode cX7_isAny 0 = .ok (.iconst 0, 1) := by decide +kernel
theorem dX7_isAny_1 : decode cX7_isAny 1 = .ok (.istore_n 1, 1) := by decide +kernel
theorem dX7_isAny_2 : decode cX7_isAny 2 = .ok (.iconst 0, 1) := by decide +kernel
theorem dX7_isAny_3 : decode cX7_isAny 3 = .ok (.istore_n 2, 1) := by decide +kernel
theorem dX7_isAny_4 : decode cX7_isAny 4 = .ok (.iload_n 2, 1) := by decide +kernel
theorem dX7_isAny_5 : decode cX7_isAny 5 = .ok (.aload_n 0, 1) := by decide +kernel
theorem dX7_isAny_6 : decode cX7_isAny 6 = .ok (.getfield 140, 3) := by decide +kernel
theorem dX7_isAny_9 : decode cX7_isAny 9 = .ok (.if_icmp .ge 27, 3) := by decide +kernel
theorem dX7_isAny_12 : decode cX7_isAny 12 = .ok (.iload_n 1, 1) := by decide +kernel
theorem dX7_isAny_13 : decode cX7_isAny 13 = .ok (.ifCond .ne 11, 3) := by decide +kernel
theorem dX7_isAny_16 : decode cX7_isAny 16 = .ok (.aload_n 0, 1) := by decide +kernel
theorem dX7_isAny_17 : decode cX7_isAny 17 = .ok (.iload_n 2, 1) := by decide +kernel
theorem dX7_isAny_18 : decode cX7_isAny 18 = .ok (.invokevirtual 165, 3) := by decide +kernel
theorem dX7_isAny_21 : decode cX7_isAny 21 = .ok (.ifCond .eq 7, 3) := by decide +kernel
theorem dX7_isAny_24 : decode cX7_isAny 24 = .ok (.iconst 1, 1) := by decide +kernel
theorem dX7_isAny_25 : decode cX7_isAny 25 = .ok (.goto 4, 3) := by decide +kernel
theorem dX7_isAny_28 : decode cX7_isAny 28 = .ok (.iconst 0, 1) := by decide +kernel
theorem dX7_isAny_29 : decode cX7_isAny 29 = .ok (.istore_n 1, 1) := by decide +kernel
theorem dX7_isAny_30 : decode cX7_isAny 30 = .ok (.iinc 2 1, 3) := by decide +kernel
theorem dX7_isAny_33 : decode cX7_isAny 33 = .ok (.goto (-29), 3) := by decide +kernel
theorem dX7_isAny_36 : decode cX7_isAny 36 = .ok (.iload_n 1, 1) := by decide +kernel
theorem dX7_isAny_37 : decode cX7_isAny 37 = .ok (.ireturn, 1) := by decide +kernel
theorem dX7_endOfAll_0 : decode cX7_endOfAll 0 = .ok (.iconst 0, 1) := by decide +kernel
theorem dX7_endOfAll_1 : decode cX7_endOfAll 1 = .ok (.istore_n 1, 1) := by decide +kernel
theorem dX7_endOfAll_2 : decode cX7_endOfAll 2 = .ok (.iconst 0, 1) := by decide +kernel
theorem dX7_endOfAll_3 : decode cX7_endOfAll 3 = .ok (.istore_n 2, 1) := by decide +kernel
theorem dX7_endOfAll_4 : decode cX7_endOfAll 4 = .ok (.iload_n 2, 1) := by decide +kernel
theorem dX7_endOfAll_5 : decode cX7_endOfAll 5 = .ok (.aload_n 0, 1) := by decide +kernel
theorem dX7_endOfAll_6 : decode cX7_endOfAll 6 = .ok (.getfield 140, 3) := by decide +kernel
theorem dX7_endOfAll_9 : decode cX7_endOfAll 9 = .ok (.if_icmp .ge 39, 3) := by decide +kernel
theorem dX7_endOfAll_12 : decode cX7_endOfAll 12 = .ok (.aload_n 0, 1) := by decide +kernel
theorem dX7_endOfAll_13 : decode cX7_endOfAll 13 = .ok (.iload_n 2, 1) := by decide +kernel
theorem dX7_endOfAll_14 : decode cX7_endOfAll 14 = .ok (.invokevirtual 165, 3) := by decide +kernel
theorem dX7_endOfAll_17 : decode cX7_endOfAll 17 = .ok (.ifCond .eq 12, 3) := by decide +kernel
theorem dX7_endOfAll_20 : decode cX7_endOfAll 20 = .ok (.aload_n 0, 1) := by decide +kernel
theorem dX7_endOfAll_21 : decode cX7_endOfAll 21 = .ok (.getfield 84, 3) := by decide +kernel
theorem dX7_endOfAll_24 : decode cX7_endOfAll 24 = .ok (.iload_n 2, 1) := by decide +kernel
theorem dX7_endOfAll_25 : decode cX7_endOfAll 25 = .ok (.iaload, 1) := by decide +kernel
theorem dX7_endOfAll_26 : decode cX7_endOfAll 26 = .ok (.goto 4, 3) := by decide +kernel
theorem dX7_endOfAll_29 : decode cX7_endOfAll 29 = .ok (.iconst 0, 1) := by decide +kernel
theorem dX7_endOfAll_30 : decode cX7_endOfAll 30 = .ok (.istore_n 3, 1) := by decide +kernel
theorem dX7_endOfAll_31 : decode cX7_endOfAll 31 = .ok (.iload_n 3, 1) := by decide +kernel
theorem dX7_endOfAll_32 : decode cX7_endOfAll 32 = .ok (.iload_n 1, 1) := by decide +kernel
theorem dX7_endOfAll_33 : decode cX7_endOfAll 33 = .ok (.if_icmp .le 7, 3) := by decide +kernel
theorem dX7_endOfAll_36 : decode cX7_endOfAll 36 = .ok (.iload_n 3, 1) := by decide +kernel
theorem dX7_endOfAll_37 : decode cX7_endOfAll 37 = .ok (.goto 4, 3) := by decide +kernel
theorem dX7_endOfAll_40 : decode cX7_endOfAll 40 = .ok (.iload_n 1, 1) := by decide +kernel
theorem dX7_endOfAll_41 : decode cX7_endOfAll 41 = .ok (.istore_n 1, 1) := by decide +kernel
theorem dX7_endOfAll_42 : decode cX7_endOfAll 42 = .ok (.iinc 2 1, 3) := by decide +kernel
theorem dX7_endOfAll_45 : decode cX7_endOfAll 45 = .ok (.goto (-41), 3) := by decide +kernel
theorem dX7_endOfAll_48 : decode cX7_endOfAll 48 = .ok (.iload_n 1, 1) := by decide +kernel
theorem dX7_endOfAll_49 : decode cX7_endOfAll 49 = .ok (.ireturn, 1) := by decide +kernel
theorem dX7_releaseOfAll_0 : decode cX7_releaseOfAll 0 = .ok (.iconst 0, 1) := by decide +kernel
theorem dX7_releaseOfAll_1 : decode cX7_releaseOfAll 1 = .ok (.istore_n 1, 1) := by decide +kernel
theorem dX7_releaseOfAll_2 : decode cX7_releaseOfAll 2 = .ok (.iconst 0, 1) := by decide +kernel
theorem dX7_releaseOfAll_3 : decode cX7_releaseOfAll 3 = .ok (.istore_n 2, 1) := by decide +kernel
theorem dX7_releaseOfAll_4 : decode cX7_releaseOfAll 4 = .ok (.iload_n 2, 1) := by decide +kernel
theorem dX7_releaseOfAll_5 : decode cX7_releaseOfAll 5 = .ok (.aload_n 0, 1) := by decide +kernel
theorem dX7_releaseOfAll_6 : decode cX7_releaseOfAll 6 = .ok (.getfield 140, 3) := by decide +kernel
theorem dX7_releaseOfAll_9 : decode cX7_releaseOfAll 9 = .ok (.if_icmp .ge 39, 3) := by decide +kernel
theorem dX7_releaseOfAll_12 : decode cX7_releaseOfAll 12 = .ok (.aload_n 0, 1) := by decide +kernel
theorem dX7_releaseOfAll_13 : decode cX7_releaseOfAll 13 = .ok (.iload_n 2, 1) := by decide +kernel
theorem dX7_releaseOfAll_14 : decode cX7_releaseOfAll 14 = .ok (.invokevirtual 165, 3) := by decide +kernel
theorem dX7_releaseOfAll_17 : decode cX7_releaseOfAll 17 = .ok (.ifCond .eq 12, 3) := by decide +kernel
theorem dX7_releaseOfAll_20 : decode cX7_releaseOfAll 20 = .ok (.aload_n 0, 1) := by decide +kernel
theorem dX7_releaseOfAll_21 : decode cX7_releaseOfAll 21 = .ok (.getfield 81, 3) := by decide +kernel
theorem dX7_releaseOfAll_24 : decode cX7_releaseOfAll 24 = .ok (.iload_n 2, 1) := by decide +kernel
theorem dX7_releaseOfAll_25 : decode cX7_releaseOfAll 25 = .ok (.iaload, 1) := by decide +kernel
theorem dX7_releaseOfAll_26 : decode cX7_releaseOfAll 26 = .ok (.goto 4, 3) := by decide +kernel
theorem dX7_releaseOfAll_29 : decode cX7_releaseOfAll 29 = .ok (.iconst 0, 1) := by decide +kernel
theorem dX7_releaseOfAll_30 : decode cX7_releaseOfAll 30 = .ok (.istore_n 3, 1) := by decide +kernel
theorem dX7_releaseOfAll_31 : decode cX7_releaseOfAll 31 = .ok (.iload_n 3, 1) := by decide +kernel
theorem dX7_releaseOfAll_32 : decode cX7_releaseOfAll 32 = .ok (.iload_n 1, 1) := by decide +kernel
theorem dX7_releaseOfAll_33 : decode cX7_releaseOfAll 33 = .ok (.if_icmp .le 7, 3) := by decide +kernel
theorem dX7_releaseOfAll_36 : decode cX7_releaseOfAll 36 = .ok (.iload_n 3, 1) := by decide +kernel
theorem dX7_releaseOfAll_37 : decode cX7_releaseOfAll 37 = .ok (.goto 4, 3) := by decide +kernel
theorem dX7_releaseOfAll_40 : decode cX7_releaseOfAll 40 = .ok (.iload_n 1, 1) := by decide +kernel
theorem dX7_releaseOfAll_41 : decode cX7_releaseOfAll 41 = .ok (.istore_n 1, 1) := by decide +kernel
theorem dX7_releaseOfAll_42 : decode cX7_releaseOfAll 42 = .ok (.iinc 2 1, 3) := by decide +kernel
theorem dX7_releaseOfAll_45 : decode cX7_releaseOfAll 45 = .ok (.goto (-41), 3) := by decide +kernel
theorem dX7_releaseOfAll_48 : decode cX7_releaseOfAll 48 = .ok (.iload_n 1, 1) := by decide +kernel
theorem dX7_releaseOfAll_49 : decode cX7_releaseOfAll 49 = .ok (.ireturn, 1) := by decide +kernel
theorem dX7_endOfRecall_0 : decode cX7_endOfRecall 0 = .ok (.aload_n 0, 1) := by decide +kernel
theorem dX7_endOfRecall_1 : decode cX7_endOfRecall 1 = .ok (.getfield 171, 3) := by decide +kernel
theorem dX7_endOfRecall_4 : decode cX7_endOfRecall 4 = .ok (.ifCond .eq 10, 3) := by decide +kernel
theorem dX7_endOfRecall_7 : decode cX7_endOfRecall 7 = .ok (.aload_n 0, 1) := by decide +kernel
theorem dX7_endOfRecall_8 : decode cX7_endOfRecall 8 = .ok (.getfield 174, 3) := by decide +kernel
theorem dX7_endOfRecall_11 : decode cX7_endOfRecall 11 = .ok (.ifCond .ne 19, 3) := by decide +kernel
theorem dX7_endOfRecall_14 : decode cX7_endOfRecall 14 = .ok (.aload_n 0, 1) := by decide +kernel
theorem dX7_endOfRecall_15 : decode cX7_endOfRecall 15 = .ok (.getfield 171, 3) := by decide +kernel
theorem dX7_endOfRecall_18 : decode cX7_endOfRecall 18 = .ok (.ifCond .ne 7, 3) := by decide +kernel
theorem dX7_endOfRecall_21 : decode cX7_endOfRecall 21 = .ok (.iconst 0, 1) := by decide +kernel
theorem dX7_endOfRecall_22 : decode cX7_endOfRecall 22 = .ok (.goto 7, 3) := by decide +kernel
theorem dX7_endOfRecall_25 : decode cX7_endOfRecall 25 = .ok (.aload_n 0, 1) := by decide +kernel
theorem dX7_endOfRecall_26 : decode cX7_endOfRecall 26 = .ok (.getfield 177, 3) := by decide +kernel
theorem dX7_endOfRecall_29 : decode cX7_endOfRecall 29 = .ok (.ireturn, 1) := by decide +kernel
theorem dX7_endOfRecall_30 : decode cX7_endOfRecall 30 = .ok (.aload_n 0, 1) := by decide +kernel
theorem dX7_endOfRecall_31 : decode cX7_endOfRecall 31 = .ok (.getfield 180, 3) := by decide +kernel
theorem dX7_endOfRecall_34 : decode cX7_endOfRecall 34 = .ok (.aload_n 0, 1) := by decide +kernel
theorem dX7_endOfRecall_35 : decode cX7_endOfRecall 35 = .ok (.getfield 174, 3) := by decide +kernel
theorem dX7_endOfRecall_38 : decode cX7_endOfRecall 38 = .ok (.iadd, 1) := by decide +kernel
theorem dX7_endOfRecall_39 : decode cX7_endOfRecall 39 = .ok (.istore_n 1, 1) := by decide +kernel
theorem dX7_endOfRecall_40 : decode cX7_endOfRecall 40 = .ok (.iconst 0, 1) := by decide +kernel
theorem dX7_endOfRecall_41 : decode cX7_endOfRecall 41 = .ok (.istore_n 2, 1) := by decide +kernel
theorem dX7_endOfRecall_42 : decode cX7_endOfRecall 42 = .ok (.iload_n 2, 1) := by decide +kernel
theorem dX7_endOfRecall_43 : decode cX7_endOfRecall 43 = .ok (.aload_n 0, 1) := by decide +kernel
theorem dX7_endOfRecall_44 : decode cX7_endOfRecall 44 = .ok (.getfield 153, 3) := by decide +kernel
theorem dX7_endOfRecall_47 : decode cX7_endOfRecall 47 = .ok (.if_icmp .ge 37, 3) := by decide +kernel
theorem dX7_endOfRecall_50 : decode cX7_endOfRecall 50 = .ok (.iload_n 1, 1) := by decide +kernel
theorem dX7_endOfRecall_51 : decode cX7_endOfRecall 51 = .ok (.aload_n 0, 1) := by decide +kernel
theorem dX7_endOfRecall_52 : decode cX7_endOfRecall 52 = .ok (.getfield 54, 3) := by decide +kernel
theorem dX7_endOfRecall_55 : decode cX7_endOfRecall 55 = .ok (.iload_n 2, 1) := by decide +kernel
theorem dX7_endOfRecall_56 : decode cX7_endOfRecall 56 = .ok (.iaload, 1) := by decide +kernel
theorem dX7_endOfRecall_57 : decode cX7_endOfRecall 57 = .ok (.aload_n 0, 1) := by decide +kernel
theorem dX7_endOfRecall_58 : decode cX7_endOfRecall 58 = .ok (.getfield 171, 3) := by decide +kernel
theorem dX7_endOfRecall_61 : decode cX7_endOfRecall 61 = .ok (.iconst 1, 1) := by decide +kernel
theorem dX7_endOfRecall_62 : decode cX7_endOfRecall 62 = .ok (.isub, 1) := by decide +kernel
theorem dX7_endOfRecall_63 : decode cX7_endOfRecall 63 = .ok (.if_icmp .ne 12, 3) := by decide +kernel
theorem dX7_endOfRecall_66 : decode cX7_endOfRecall 66 = .ok (.aload_n 0, 1) := by decide +kernel
theorem dX7_endOfRecall_67 : decode cX7_endOfRecall 67 = .ok (.getfield 48, 3) := by decide +kernel
theorem dX7_endOfRecall_70 : decode cX7_endOfRecall 70 = .ok (.iload_n 2, 1) := by decide +kernel
theorem dX7_endOfRecall_71 : decode cX7_endOfRecall 71 = .ok (.iaload, 1) := by decide +kernel
theorem dX7_endOfRecall_72 : decode cX7_endOfRecall 72 = .ok (.goto 4, 3) := by decide +kernel
theorem dX7_endOfRecall_75 : decode cX7_endOfRecall 75 = .ok (.iconst 0, 1) := by decide +kernel
theorem dX7_endOfRecall_76 : decode cX7_endOfRecall 76 = .ok (.iadd, 1) := by decide +kernel
theorem dX7_endOfRecall_77 : decode cX7_endOfRecall 77 = .ok (.istore_n 1, 1) := by decide +kernel
theorem dX7_endOfRecall_78 : decode cX7_endOfRecall 78 = .ok (.iinc 2 1, 3) := by decide +kernel
theorem dX7_endOfRecall_81 : decode cX7_endOfRecall 81 = .ok (.goto (-39), 3) := by decide +kernel
theorem dX7_endOfRecall_84 : decode cX7_endOfRecall 84 = .ok (.iload_n 1, 1) := by decide +kernel
theorem dX7_endOfRecall_85 : decode cX7_endOfRecall 85 = .ok (.aload_n 0, 1) := by decide +kernel
theorem dX7_endOfRecall_86 : decode cX7_endOfRecall 86 = .ok (.getfield 177, 3) := by decide +kernel
theorem dX7_endOfRecall_89 : decode cX7_endOfRecall 89 = .ok (.if_icmp .ge 7, 3) := by decide +kernel
theorem dX7_endOfRecall_92 : decode cX7_endOfRecall 92 = .ok (.iload_n 1, 1) := by decide +kernel
theorem dX7_endOfRecall_93 : decode cX7_endOfRecall 93 = .ok (.goto 7, 3) := by decide +kernel
theorem dX7_endOfRecall_96 : decode cX7_endOfRecall 96 = .ok (.aload_n 0, 1) := by decide +kernel
theorem dX7_endOfRecall_97 : decode cX7_endOfRecall 97 = .ok (.getfield 177, 3) := by decide +kernel
theorem dX7_endOfRecall_100 : decode cX7_endOfRecall 100 = .ok (.ireturn, 1) := by decide +kernel
theorem dX7_isRecalled_0 : decode cX7_isRecalled 0 = .ok (.aload_n 0, 1) := by decide +kernel
theorem dX7_isRecalled_1 : decode cX7_isRecalled 1 = .ok (.invokevirtual 183, 3) := by decide +kernel
theorem dX7_isRecalled_4 : decode cX7_isRecalled 4 = .ok (.aload_n 0, 1) := by decide +kernel
theorem dX7_isRecalled_5 : decode cX7_isRecalled 5 = .ok (.getfield 187, 3) := by decide +kernel
theorem dX7_isRecalled_8 : decode cX7_isRecalled 8 = .ok (.if_icmp .le 7, 3) := by decide +kernel
theorem dX7_isRecalled_11 : decode cX7_isRecalled 11 = .ok (.iconst 1, 1) := by decide +kernel
theorem dX7_isRecalled_12 : decode cX7_isRecalled 12 = .ok (.goto 4, 3) := by decide +kernel
theorem dX7_isRecalled_15 : decode cX7_isRecalled 15 = .ok (.iconst 0, 1) := by decide +kernel
theorem dX7_isRecalled_16 : decode cX7_isRecalled 16 = .ok (.ireturn, 1) := by decide +kernel
theorem dX7_statusNow_0 : decode cX7_statusNow 0 = .ok (.aload_n 0, 1) := by decide +kernel
theorem dX7_statusNow_1 : decode cX7_statusNow 1 = .ok (.invokevirtual 190, 3) := by decide +kernel
theorem dX7_statusNow_4 : decode cX7_statusNow 4 = .ok (.aload_n 0, 1) := by decide +kernel
theorem dX7_statusNow_5 : decode cX7_statusNow 5 = .ok (.getfield 187, 3) := by decide +kernel
theorem dX7_statusNow_8 : decode cX7_statusNow 8 = .ok (.if_icmp .gt 10, 3) := by decide +kernel
theorem dX7_statusNow_11 : decode cX7_statusNow 11 = .ok (.aload_n 0, 1) := by decide +kernel
theorem dX7_statusNow_12 : decode cX7_statusNow 12 = .ok (.invokevirtual 193, 3) := by decide +kernel
theorem dX7_statusNow_15 : decode cX7_statusNow 15 = .ok (.ifCond .eq 7, 3) := by decide +kernel
theorem dX7_statusNow_18 : decode cX7_statusNow 18 = .ok (.iconst 2, 1) := by decide +kernel
theorem dX7_statusNow_19 : decode cX7_statusNow 19 = .ok (.goto 19, 3) := by decide +kernel
theorem dX7_statusNow_22 : decode cX7_statusNow 22 = .ok (.aload_n 0, 1) := by decide +kernel
theorem dX7_statusNow_23 : decode cX7_statusNow 23 = .ok (.invokevirtual 197, 3) := by decide +kernel
theorem dX7_statusNow_26 : decode cX7_statusNow 26 = .ok (.aload_n 0, 1) := by decide +kernel
theorem dX7_statusNow_27 : decode cX7_statusNow 27 = .ok (.getfield 187, 3) := by decide +kernel
theorem dX7_statusNow_30 : decode cX7_statusNow 30 = .ok (.if_icmp .le 7, 3) := by decide +kernel
theorem dX7_statusNow_33 : decode cX7_statusNow 33 = .ok (.iconst 1, 1) := by decide +kernel
theorem dX7_statusNow_34 : decode cX7_statusNow 34 = .ok (.goto 4, 3) := by decide +kernel
theorem dX7_statusNow_37 : decode cX7_statusNow 37 = .ok (.iconst 0, 1) := by decide +kernel
theorem dX7_statusNow_38 : decode cX7_statusNow 38 = .ok (.ireturn, 1) := by decide +kernel
theorem dX7_bounds_0 : decode cX7_bounds 0 = .ok (.aload_n 0, 1) := by decide +kernel
theorem dX7_bounds_1 : decode cX7_bounds 1 = .ok (.invokevirtual 197, 3) := by decide +kernel
theorem dX7_bounds_4 : decode cX7_bounds 4 = .ok (.istore_n 1, 1) := by decide +kernel
theorem dX7_bounds_5 : decode cX7_bounds 5 = .ok (.aload_n 0, 1) := by decide +kernel
theorem dX7_bounds_6 : decode cX7_bounds 6 = .ok (.aload_n 0, 1) := by decide +kernel
theorem dX7_bounds_7 : decode cX7_bounds 7 = .ok (.getfield 171, 3) := by decide +kernel
theorem dX7_bounds_10 : decode cX7_bounds 10 = .ok (.ifCond .le 15, 3) := by decide +kernel
theorem dX7_bounds_13 : decode cX7_bounds 13 = .ok (.iload_n 1, 1) := by decide +kernel
theorem dX7_bounds_14 : decode cX7_bounds 14 = .ok (.aload_n 0, 1) := by decide +kernel
theorem dX7_bounds_15 : decode cX7_bounds 15 = .ok (.getfield 177, 3) := by decide +kernel
theorem dX7_bounds_18 : decode cX7_bounds 18 = .ok (.if_icmp .ge 7, 3) := by decide +kernel
theorem dX7_bounds_21 : decode cX7_bounds 21 = .ok (.iload_n 1, 1) := by decide +kernel
theorem dX7_bounds_22 : decode cX7_bounds 22 = .ok (.goto 7, 3) := by decide +kernel
theorem dX7_bounds_25 : decode cX7_bounds 25 = .ok (.aload_n 0, 1) := by decide +kernel
theorem dX7_bounds_26 : decode cX7_bounds 26 = .ok (.getfield 177, 3) := by decide +kernel
theorem dX7_bounds_29 : decode cX7_bounds 29 = .ok (.putfield 177, 3) := by decide +kernel
theorem dX7_bounds_32 : decode cX7_bounds 32 = .ok (.return_, 1) := by decide +kernel
theorem dX7_today_0 : decode cX7_today 0 = .ok (.aload_n 0, 1) := by decide +kernel
theorem dX7_today_1 : decode cX7_today 1 = .ok (.iconst 0, 1) := by decide +kernel
theorem dX7_today_2 : decode cX7_today 2 = .ok (.putfield 93, 3) := by decide +kernel
theorem dX7_today_5 : decode cX7_today 5 = .ok (.aload_n 0, 1) := by decide +kernel
theorem dX7_today_6 : decode cX7_today 6 = .ok (.getfield 187, 3) := by decide +kernel
theorem dX7_today_9 : decode cX7_today 9 = .ok (.ireturn, 1) := by decide +kernel
theorem dX7_advance_0 : decode cX7_advance 0 = .ok (.aload_n 0, 1) := by decide +kernel
theorem dX7_advance_1 : decode cX7_advance 1 = .ok (.iload_n 1, 1) := by decide +kernel
theorem dX7_advance_2 : decode cX7_advance 2 = .ok (.iconst 1, 1) := by decide +kernel
theorem dX7_advance_3 : decode cX7_advance 3 = .ok (.sipush 400, 3) := by decide +kernel
theorem dX7_advance_6 : decode cX7_advance 6 = .ok (.invokestatic 122, 3) := by decide +kernel
theorem dX7_advance_9 : decode cX7_advance 9 = .ok (.ifCond .ne 7, 3) := by decide +kernel
theorem dX7_advance_12 : decode cX7_advance 12 = .ok (.iconst 1, 1) := by decide +kernel
theorem dX7_advance_13 : decode cX7_advance 13 = .ok (.goto 20, 3) := by decide +kernel
theorem dX7_advance_16 : decode cX7_advance 16 = .ok (.aload_n 0, 1) := by decide +kernel
theorem dX7_advance_17 : decode cX7_advance 17 = .ok (.getfield 187, 3) := by decide +kernel
theorem dX7_advance_20 : decode cX7_advance 20 = .ok (.iload_n 1, 1) := by decide +kernel
theorem dX7_advance_21 : decode cX7_advance 21 = .ok (.iadd, 1) := by decide +kernel
theorem dX7_advance_22 : decode cX7_advance 22 = .ok (.sipush 14609, 3) := by decide +kernel
theorem dX7_advance_25 : decode cX7_advance 25 = .ok (.if_icmp .le 7, 3) := by decide +kernel
theorem dX7_advance_28 : decode cX7_advance 28 = .ok (.iconst 2, 1) := by decide +kernel
theorem dX7_advance_29 : decode cX7_advance 29 = .ok (.goto 4, 3) := by decide +kernel
theorem dX7_advance_32 : decode cX7_advance 32 = .ok (.iconst 0, 1) := by decide +kernel
theorem dX7_advance_33 : decode cX7_advance 33 = .ok (.invokevirtual 126, 3) := by decide +kernel
theorem dX7_advance_36 : decode cX7_advance 36 = .ok (.ifCond .eq 5, 3) := by decide +kernel
theorem dX7_advance_39 : decode cX7_advance 39 = .ok (.iconst 0, 1) := by decide +kernel
theorem dX7_advance_40 : decode cX7_advance 40 = .ok (.ireturn, 1) := by decide +kernel
theorem dX7_advance_41 : decode cX7_advance 41 = .ok (.aload_n 0, 1) := by decide +kernel
theorem dX7_advance_42 : decode cX7_advance 42 = .ok (.invokevirtual 190, 3) := by decide +kernel
theorem dX7_advance_45 : decode cX7_advance 45 = .ok (.istore_n 2, 1) := by decide +kernel
theorem dX7_advance_46 : decode cX7_advance 46 = .ok (.aload_n 0, 1) := by decide +kernel
theorem dX7_advance_47 : decode cX7_advance 47 = .ok (.invokevirtual 183, 3) := by decide +kernel
theorem dX7_advance_50 : decode cX7_advance 50 = .ok (.istore_n 3, 1) := by decide +kernel
theorem dX7_advance_51 : decode cX7_advance 51 = .ok (.aload_n 0, 1) := by decide +kernel
theorem dX7_advance_52 : decode cX7_advance 52 = .ok (.invokevirtual 197, 3) := by decide +kernel
theorem dX7_advance_55 : decode cX7_advance 55 = .ok (.istore 4, 2) := by decide +kernel
theorem dX7_advance_57 : decode cX7_advance 57 = .ok (.iconst 0, 1) := by decide +kernel
theorem dX7_advance_58 : decode cX7_advance 58 = .ok (.istore 5, 2) := by decide +kernel
theorem dX7_advance_60 : decode cX7_advance 60 = .ok (.iconst 0, 1) := by decide +kernel
theorem dX7_advance_61 : decode cX7_advance 61 = .ok (.istore 6, 2) := by decide +kernel
theorem dX7_advance_63 : decode cX7_advance 63 = .ok (.iload 6, 2) := by decide +kernel
theorem dX7_advance_65 : decode cX7_advance 65 = .ok (.iload_n 1, 1) := by decide +kernel
theorem dX7_advance_66 : decode cX7_advance 66 = .ok (.if_icmp .ge 135, 3) := by decide +kernel
theorem dX7_advance_69 : decode cX7_advance 69 = .ok (.iload_n 2, 1) := by decide +kernel
theorem dX7_advance_70 : decode cX7_advance 70 = .ok (.aload_n 0, 1) := by decide +kernel
theorem dX7_advance_71 : decode cX7_advance 71 = .ok (.getfield 187, 3) := by decide +kernel
theorem dX7_advance_74 : decode cX7_advance 74 = .ok (.if_icmp .gt 11, 3) := by decide +kernel
theorem dX7_advance_77 : decode cX7_advance 77 = .ok (.iload_n 3, 1) := by decide +kernel
theorem dX7_advance_78 : decode cX7_advance 78 = .ok (.aload_n 0, 1) := by decide +kernel
theorem dX7_advance_79 : decode cX7_advance 79 = .ok (.getfield 187, 3) := by decide +kernel
theorem dX7_advance_82 : decode cX7_advance 82 = .ok (.if_icmp .le 7, 3) := by decide +kernel
theorem dX7_advance_85 : decode cX7_advance 85 = .ok (.iconst 2, 1) := by decide +kernel
theorem dX7_advance_86 : decode cX7_advance 86 = .ok (.goto 17, 3) := by decide +kernel
theorem dX7_advance_89 : decode cX7_advance 89 = .ok (.iload 4, 2) := by decide +kernel
theorem dX7_advance_91 : decode cX7_advance 91 = .ok (.aload_n 0, 1) := by decide +kernel
theorem dX7_advance_92 : decode cX7_advance 92 = .ok (.getfield 187, 3) := by decide +kernel
theorem dX7_advance_95 : decode cX7_advance 95 = .ok (.if_icmp .le 7, 3) := by decide +kernel
theorem dX7_advance_98 : decode cX7_advance 98 = .ok (.iconst 1, 1) := by decide +kernel
theorem dX7_advance_99 : decode cX7_advance 99 = .ok (.goto 4, 3) := by decide +kernel
theorem dX7_advance_102 : decode cX7_advance 102 = .ok (.iconst 0, 1) := by decide +kernel
theorem dX7_advance_103 : decode cX7_advance 103 = .ok (.istore 7, 2) := by decide +kernel
theorem dX7_advance_105 : decode cX7_advance 105 = .ok (.aload_n 0, 1) := by decide +kernel
theorem dX7_advance_106 : decode cX7_advance 106 = .ok (.getfield 9, 3) := by decide +kernel
theorem dX7_advance_109 : decode cX7_advance 109 = .ok (.aload_n 0, 1) := by decide +kernel
theorem dX7_advance_110 : decode cX7_advance 110 = .ok (.getfield 187, 3) := by decide +kernel
theorem dX7_advance_113 : decode cX7_advance 113 = .ok (.iload 7, 2) := by decide +kernel
theorem dX7_advance_115 : decode cX7_advance 115 = .ok (.i2b, 1) := by decide +kernel
theorem dX7_advance_116 : decode cX7_advance 116 = .ok (.bastore, 1) := by decide +kernel
theorem dX7_advance_117 : decode cX7_advance 117 = .ok (.iload 5, 2) := by decide +kernel
theorem dX7_advance_119 : decode cX7_advance 119 = .ok (.iload 7, 2) := by decide +kernel
theorem dX7_advance_121 : decode cX7_advance 121 = .ok (.iconst 2, 1) := by decide +kernel
theorem dX7_advance_122 : decode cX7_advance 122 = .ok (.if_icmp .ne 7, 3) := by decide +kernel
theorem dX7_advance_125 : decode cX7_advance 125 = .ok (.iconst 1, 1) := by decide +kernel
theorem dX7_advance_126 : decode cX7_advance 126 = .ok (.goto 4, 3) := by decide +kernel
theorem dX7_advance_129 : decode cX7_advance 129 = .ok (.iconst 0, 1) := by decide +kernel
theorem dX7_advance_130 : decode cX7_advance 130 = .ok (.iadd, 1) := by decide +kernel
theorem dX7_advance_131 : decode cX7_advance 131 = .ok (.istore 5, 2) := by decide +kernel
theorem dX7_advance_133 : decode cX7_advance 133 = .ok (.aload_n 0, 1) := by decide +kernel
theorem dX7_advance_134 : decode cX7_advance 134 = .ok (.dup, 1) := by decide +kernel
theorem dX7_advance_135 : decode cX7_advance 135 = .ok (.getfield 200, 3) := by decide +kernel
theorem dX7_advance_138 : decode cX7_advance 138 = .ok (.iload 7, 2) := by decide +kernel
theorem dX7_advance_140 : decode cX7_advance 140 = .ok (.iconst 1, 1) := by decide +kernel
theorem dX7_advance_141 : decode cX7_advance 141 = .ok (.if_icmp .ne 7, 3) := by decide +kernel
theorem dX7_advance_144 : decode cX7_advance 144 = .ok (.iconst 1, 1) := by decide +kernel
theorem dX7_advance_145 : decode cX7_advance 145 = .ok (.goto 4, 3) := by decide +kernel
theorem dX7_advance_148 : decode cX7_advance 148 = .ok (.iconst 0, 1) := by decide +kernel
theorem dX7_advance_149 : decode cX7_advance 149 = .ok (.iadd, 1) := by decide +kernel
theorem dX7_advance_150 : decode cX7_advance 150 = .ok (.putfield 200, 3) := by decide +kernel
theorem dX7_advance_153 : decode cX7_advance 153 = .ok (.aload_n 0, 1) := by decide +kernel
theorem dX7_advance_154 : decode cX7_advance 154 = .ok (.getfield 13, 3) := by decide +kernel
theorem dX7_advance_157 : decode cX7_advance 157 = .ok (.aload_n 0, 1) := by decide +kernel
theorem dX7_advance_158 : decode cX7_advance 158 = .ok (.getfield 187, 3) := by decide +kernel
theorem dX7_advance_161 : decode cX7_advance 161 = .ok (.iconst 1, 1) := by decide +kernel
theorem dX7_advance_162 : decode cX7_advance 162 = .ok (.iadd, 1) := by decide +kernel
theorem dX7_advance_163 : decode cX7_advance 163 = .ok (.aload_n 0, 1) := by decide +kernel
theorem dX7_advance_164 : decode cX7_advance 164 = .ok (.getfield 13, 3) := by decide +kernel
theorem dX7_advance_167 : decode cX7_advance 167 = .ok (.aload_n 0, 1) := by decide +kernel
theorem dX7_advance_168 : decode cX7_advance 168 = .ok (.getfield 187, 3) := by decide +kernel
theorem dX7_advance_171 : decode cX7_advance 171 = .ok (.iaload, 1) := by decide +kernel
theorem dX7_advance_172 : decode cX7_advance 172 = .ok (.iload 7, 2) := by decide +kernel
theorem dX7_advance_174 : decode cX7_advance 174 = .ok (.iconst 2, 1) := by decide +kernel
theorem dX7_advance_175 : decode cX7_advance 175 = .ok (.if_icmp .ne 7, 3) := by decide +kernel
theorem dX7_advance_178 : decode cX7_advance 178 = .ok (.iconst 0, 1) := by decide +kernel
theorem dX7_advance_179 : decode cX7_advance 179 = .ok (.goto 4, 3) := by decide +kernel
theorem dX7_advance_182 : decode cX7_advance 182 = .ok (.iconst 1, 1) := by decide +kernel
theorem dX7_advance_183 : decode cX7_advance 183 = .ok (.iadd, 1) := by decide +kernel
theorem dX7_advance_184 : decode cX7_advance 184 = .ok (.iastore, 1) := by decide +kernel
theorem dX7_advance_185 : decode cX7_advance 185 = .ok (.aload_n 0, 1) := by decide +kernel
theorem dX7_advance_186 : decode cX7_advance 186 = .ok (.dup, 1) := by decide +kernel
theorem dX7_advance_187 : decode cX7_advance 187 = .ok (.getfield 187, 3) := by decide +kernel
theorem dX7_advance_190 : decode cX7_advance 190 = .ok (.iconst 1, 1) := by decide +kernel
theorem dX7_advance_191 : decode cX7_advance 191 = .ok (.iadd, 1) := by decide +kernel
theorem dX7_advance_192 : decode cX7_advance 192 = .ok (.putfield 187, 3) := by decide +kernel
theorem dX7_advance_195 : decode cX7_advance 195 = .ok (.iinc 6 1, 3) := by decide +kernel
theorem dX7_advance_198 : decode cX7_advance 198 = .ok (.goto (-135), 3) := by decide +kernel
theorem dX7_advance_201 : decode cX7_advance 201 = .ok (.aload_n 0, 1) := by decide +kernel
theorem dX7_advance_202 : decode cX7_advance 202 = .ok (.dup, 1) := by decide +kernel
theorem dX7_advance_203 : decode cX7_advance 203 = .ok (.getfield 203, 3) := by decide +kernel
theorem dX7_advance_206 : decode cX7_advance 206 = .ok (.iload 5, 2) := by decide +kernel
theorem dX7_advance_208 : decode cX7_advance 208 = .ok (.iadd, 1) := by decide +kernel
theorem dX7_advance_209 : decode cX7_advance 209 = .ok (.putfield 203, 3) := by decide +kernel
theorem dX7_advance_212 : decode cX7_advance 212 = .ok (.iload 5, 2) := by decide +kernel
theorem dX7_advance_214 : decode cX7_advance 214 = .ok (.ireturn, 1) := by decide +kernel
theorem dX7_isTermOf_0 : decode cX7_isTermOf 0 = .ok (.iload_n 1, 1) := by decide +kernel
theorem dX7_isTermOf_1 : decode cX7_isTermOf 1 = .ok (.iconst 0, 1) := by decide +kernel
theorem dX7_isTermOf_2 : decode cX7_isTermOf 2 = .ok (.iconst 3, 1) := by decide +kernel
theorem dX7_isTermOf_3 : decode cX7_isTermOf 3 = .ok (.invokestatic 122, 3) := by decide +kernel
theorem dX7_isTermOf_6 : decode cX7_isTermOf 6 = .ok (.ifCond .eq 33, 3) := by decide +kernel
theorem dX7_isTermOf_9 : decode cX7_isTermOf 9 = .ok (.iload_n 2, 1) := by decide +kernel
theorem dX7_isTermOf_10 : decode cX7_isTermOf 10 = .ok (.iconst 0, 1) := by decide +kernel
theorem dX7_isTermOf_11 : decode cX7_isTermOf 11 = .ok (.bipush 60, 2) := by decide +kernel
theorem dX7_isTermOf_13 : decode cX7_isTermOf 13 = .ok (.invokestatic 122, 3) := by decide +kernel
theorem dX7_isTermOf_16 : decode cX7_isTermOf 16 = .ok (.ifCond .eq 23, 3) := by decide +kernel
theorem dX7_isTermOf_19 : decode cX7_isTermOf 19 = .ok (.iload_n 3, 1) := by decide +kernel
theorem dX7_isTermOf_20 : decode cX7_isTermOf 20 = .ok (.iconst 0, 1) := by decide +kernel
theorem dX7_isTermOf_21 : decode cX7_isTermOf 21 = .ok (.bipush 99, 2) := by decide +kernel
theorem dX7_isTermOf_23 : decode cX7_isTermOf 23 = .ok (.invokestatic 122, 3) := by decide +kernel
theorem dX7_isTermOf_26 : decode cX7_isTermOf 26 = .ok (.ifCond .eq 13, 3) := by decide +kernel
theorem dX7_isTermOf_29 : decode cX7_isTermOf 29 = .ok (.iload_n 2, 1) := by decide +kernel
theorem dX7_isTermOf_30 : decode cX7_isTermOf 30 = .ok (.iload_n 3, 1) := by decide +kernel
theorem dX7_isTermOf_31 : decode cX7_isTermOf 31 = .ok (.iadd, 1) := by decide +kernel
theorem dX7_isTermOf_32 : decode cX7_isTermOf 32 = .ok (.ifCond .le 7, 3) := by decide +kernel
theorem dX7_isTermOf_35 : decode cX7_isTermOf 35 = .ok (.iconst 1, 1) := by decide +kernel
theorem dX7_isTermOf_36 : decode cX7_isTermOf 36 = .ok (.goto 4, 3) := by decide +kernel
theorem dX7_isTermOf_39 : decode cX7_isTermOf 39 = .ok (.iconst 0, 1) := by decide +kernel
theorem dX7_isTermOf_40 : decode cX7_isTermOf 40 = .ok (.ireturn, 1) := by decide +kernel
theorem dX7_imposes_0 : decode cX7_imposes 0 = .ok (.aload_n 0, 1) := by decide +kernel
theorem dX7_imposes_1 : decode cX7_imposes 1 = .ok (.getfield 140, 3) := by decide +kernel
theorem dX7_imposes_4 : decode cX7_imposes 4 = .ok (.istore 5, 2) := by decide +kernel
theorem dX7_imposes_6 : decode cX7_imposes 6 = .ok (.aload_n 0, 1) := by decide +kernel
theorem dX7_imposes_7 : decode cX7_imposes 7 = .ok (.getfield 17, 3) := by decide +kernel
theorem dX7_imposes_10 : decode cX7_imposes 10 = .ok (.iload 5, 2) := by decide +kernel
theorem dX7_imposes_12 : decode cX7_imposes 12 = .ok (.iload_n 2, 1) := by decide +kernel
theorem dX7_imposes_13 : decode cX7_imposes 13 = .ok (.iastore, 1) := by decide +kernel
theorem dX7_imposes_14 : decode cX7_imposes 14 = .ok (.aload_n 0, 1) := by decide +kernel
theorem dX7_imposes_15 : decode cX7_imposes 15 = .ok (.getfield 20, 3) := by decide +kernel
theorem dX7_imposes_18 : decode cX7_imposes 18 = .ok (.iload 5, 2) := by decide +kernel
theorem dX7_imposes_20 : decode cX7_imposes 20 = .ok (.iload_n 3, 1) := by decide +kernel
theorem dX7_imposes_21 : decode cX7_imposes 21 = .ok (.iastore, 1) := by decide +kernel
theorem dX7_imposes_22 : decode cX7_imposes 22 = .ok (.aload_n 0, 1) := by decide +kernel
theorem dX7_imposes_23 : decode cX7_imposes 23 = .ok (.getfield 23, 3) := by decide +kernel
theorem dX7_imposes_26 : decode cX7_imposes 26 = .ok (.iload 5, 2) := by decide +kernel
theorem dX7_imposes_28 : decode cX7_imposes 28 = .ok (.iload 4, 2) := by decide +kernel
theorem dX7_imposes_30 : decode cX7_imposes 30 = .ok (.iastore, 1) := by decide +kernel
theorem dX7_imposes_31 : decode cX7_imposes 31 = .ok (.aload_n 0, 1) := by decide +kernel
theorem dX7_imposes_32 : decode cX7_imposes 32 = .ok (.getfield 26, 3) := by decide +kernel
theorem dX7_imposes_35 : decode cX7_imposes 35 = .ok (.iload 5, 2) := by decide +kernel
theorem dX7_imposes_37 : decode cX7_imposes 37 = .ok (.aload_n 0, 1) := by decide +kernel
theorem dX7_imposes_38 : decode cX7_imposes 38 = .ok (.getfield 187, 3) := by decide +kernel
theorem dX7_imposes_41 : decode cX7_imposes 41 = .ok (.iastore, 1) := by decide +kernel
theorem dX7_imposes_42 : decode cX7_imposes 42 = .ok (.aload_n 0, 1) := by decide +kernel
theorem dX7_imposes_43 : decode cX7_imposes 43 = .ok (.getfield 29, 3) := by decide +kernel
theorem dX7_imposes_46 : decode cX7_imposes 46 = .ok (.iload 5, 2) := by decide +kernel
theorem dX7_imposes_48 : decode cX7_imposes 48 = .ok (.aload_n 0, 1) := by decide +kernel
theorem dX7_imposes_49 : decode cX7_imposes 49 = .ok (.getfield 187, 3) := by decide +kernel
theorem dX7_imposes_52 : decode cX7_imposes 52 = .ok (.iastore, 1) := by decide +kernel
theorem dX7_imposes_53 : decode cX7_imposes 53 = .ok (.aload_n 0, 1) := by decide +kernel
theorem dX7_imposes_54 : decode cX7_imposes 54 = .ok (.getfield 32, 3) := by decide +kernel
theorem dX7_imposes_57 : decode cX7_imposes 57 = .ok (.iload 5, 2) := by decide +kernel
theorem dX7_imposes_59 : decode cX7_imposes 59 = .ok (.iload_n 1, 1) := by decide +kernel
theorem dX7_imposes_60 : decode cX7_imposes 60 = .ok (.iastore, 1) := by decide +kernel
theorem dX7_imposes_61 : decode cX7_imposes 61 = .ok (.aload_n 0, 1) := by decide +kernel
theorem dX7_imposes_62 : decode cX7_imposes 62 = .ok (.dup, 1) := by decide +kernel
theorem dX7_imposes_63 : decode cX7_imposes 63 = .ok (.getfield 140, 3) := by decide +kernel
theorem dX7_imposes_66 : decode cX7_imposes 66 = .ok (.iconst 1, 1) := by decide +kernel
theorem dX7_imposes_67 : decode cX7_imposes 67 = .ok (.iadd, 1) := by decide +kernel
theorem dX7_imposes_68 : decode cX7_imposes 68 = .ok (.putfield 140, 3) := by decide +kernel
theorem dX7_imposes_71 : decode cX7_imposes 71 = .ok (.aload_n 0, 1) := by decide +kernel
theorem dX7_imposes_72 : decode cX7_imposes 72 = .ok (.invokevirtual 206, 3) := by decide +kernel
theorem dX7_imposes_75 : decode cX7_imposes 75 = .ok (.iload 5, 2) := by decide +kernel
theorem dX7_imposes_77 : decode cX7_imposes 77 = .ok (.ireturn, 1) := by decide +kernel
theorem dX7_impose_0 : decode cX7_impose 0 = .ok (.aload_n 0, 1) := by decide +kernel
theorem dX7_impose_1 : decode cX7_impose 1 = .ok (.aload_n 0, 1) := by decide +kernel
theorem dX7_impose_2 : decode cX7_impose 2 = .ok (.iload_n 1, 1) := by decide +kernel
theorem dX7_impose_3 : decode cX7_impose 3 = .ok (.iload_n 2, 1) := by decide +kernel
theorem dX7_impose_4 : decode cX7_impose 4 = .ok (.iload_n 3, 1) := by decide +kernel
theorem dX7_impose_5 : decode cX7_impose 5 = .ok (.invokevirtual 209, 3) := by decide +kernel
theorem dX7_impose_8 : decode cX7_impose 8 = .ok (.ifCond .ne 7, 3) := by decide +kernel
theorem dX7_impose_11 : decode cX7_impose 11 = .ok (.iconst 1, 1) := by decide +kernel
theorem dX7_impose_12 : decode cX7_impose 12 = .ok (.goto 17, 3) := by decide +kernel
theorem dX7_impose_15 : decode cX7_impose 15 = .ok (.aload_n 0, 1) := by decide +kernel
theorem dX7_impose_16 : decode cX7_impose 16 = .ok (.getfield 140, 3) := by decide +kernel
theorem dX7_impose_19 : decode cX7_impose 19 = .ok (.bipush 10, 2) := by decide +kernel
theorem dX7_impose_21 : decode cX7_impose 21 = .ok (.if_icmp .ne 7, 3) := by decide +kernel
theorem dX7_impose_24 : decode cX7_impose 24 = .ok (.iconst 2, 1) := by decide +kernel
theorem dX7_impose_25 : decode cX7_impose 25 = .ok (.goto 4, 3) := by decide +kernel
theorem dX7_impose_28 : decode cX7_impose 28 = .ok (.iconst 0, 1) := by decide +kernel
theorem dX7_impose_29 : decode cX7_impose 29 = .ok (.invokevirtual 126, 3) := by decide +kernel
theorem dX7_impose_32 : decode cX7_impose 32 = .ok (.ifCond .eq 5, 3) := by decide +kernel
theorem dX7_impose_35 : decode cX7_impose 35 = .ok (.iconst 0, 1) := by decide +kernel
theorem dX7_impose_36 : decode cX7_impose 36 = .ok (.ireturn, 1) := by decide +kernel
theorem dX7_impose_37 : decode cX7_impose 37 = .ok (.aload_n 0, 1) := by decide +kernel
theorem dX7_impose_38 : decode cX7_impose 38 = .ok (.iconst (-1), 1) := by decide +kernel
theorem dX7_impose_39 : decode cX7_impose 39 = .ok (.iload_n 1, 1) := by decide +kernel
theorem dX7_impose_40 : decode cX7_impose 40 = .ok (.iload_n 2, 1) := by decide +kernel
theorem dX7_impose_41 : decode cX7_impose 41 = .ok (.iload_n 3, 1) := by decide +kernel
theorem dX7_impose_42 : decode cX7_impose 42 = .ok (.invokevirtual 212, 3) := by decide +kernel
theorem dX7_impose_45 : decode cX7_impose 45 = .ok (.ireturn, 1) := by decide +kernel
theorem dX7_canFollow_0 : decode cX7_canFollow 0 = .ok (.aload_n 0, 1) := by decide +kernel
theorem dX7_canFollow_1 : decode cX7_canFollow 1 = .ok (.getfield 140, 3) := by decide +kernel
theorem dX7_canFollow_4 : decode cX7_canFollow 4 = .ok (.bipush 10, 2) := by decide +kernel
theorem dX7_canFollow_6 : decode cX7_canFollow 6 = .ok (.if_icmp .ge 28, 3) := by decide +kernel
theorem dX7_canFollow_9 : decode cX7_canFollow 9 = .ok (.aload_n 0, 1) := by decide +kernel
theorem dX7_canFollow_10 : decode cX7_canFollow 10 = .ok (.iload_n 1, 1) := by decide +kernel
theorem dX7_canFollow_11 : decode cX7_canFollow 11 = .ok (.invokevirtual 165, 3) := by decide +kernel
theorem dX7_canFollow_14 : decode cX7_canFollow 14 = .ok (.ifCond .eq 20, 3) := by decide +kernel
theorem dX7_canFollow_17 : decode cX7_canFollow 17 = .ok (.aload_n 0, 1) := by decide +kernel
theorem dX7_canFollow_18 : decode cX7_canFollow 18 = .ok (.getfield 81, 3) := by decide +kernel
theorem dX7_canFollow_21 : decode cX7_canFollow 21 = .ok (.iload_n 1, 1) := by decide +kernel
theorem dX7_canFollow_22 : decode cX7_canFollow 22 = .ok (.iaload, 1) := by decide +kernel
theorem dX7_canFollow_23 : decode cX7_canFollow 23 = .ok (.aload_n 0, 1) := by decide +kernel
theorem dX7_canFollow_24 : decode cX7_canFollow 24 = .ok (.getfield 187, 3) := by decide +kernel
theorem dX7_canFollow_27 : decode cX7_canFollow 27 = .ok (.if_icmp .le 7, 3) := by decide +kernel
theorem dX7_canFollow_30 : decode cX7_canFollow 30 = .ok (.iconst 1, 1) := by decide +kernel
theorem dX7_canFollow_31 : decode cX7_canFollow 31 = .ok (.goto 4, 3) := by decide +kernel
theorem dX7_canFollow_34 : decode cX7_canFollow 34 = .ok (.iconst 0, 1) := by decide +kernel
theorem dX7_canFollow_35 : decode cX7_canFollow 35 = .ok (.ireturn, 1) := by decide +kernel
theorem dX7_imposeConsecutive_0 : decode cX7_imposeConsecutive 0 = .ok (.aload_n 0, 1) := by decide +kernel
theorem dX7_imposeConsecutive_1 : decode cX7_imposeConsecutive 1 = .ok (.aload_n 0, 1) := by decide +kernel
theorem dX7_imposeConsecutive_2 : decode cX7_imposeConsecutive 2 = .ok (.iload_n 1, 1) := by decide +kernel
theorem dX7_imposeConsecutive_3 : decode cX7_imposeConsecutive 3 = .ok (.invokevirtual 216, 3) := by decide +kernel
theorem dX7_imposeConsecutive_6 : decode cX7_imposeConsecutive 6 = .ok (.ifCond .ne 7, 3) := by decide +kernel
theorem dX7_imposeConsecutive_9 : decode cX7_imposeConsecutive 9 = .ok (.iconst 1, 1) := by decide +kernel
theorem dX7_imposeConsecutive_10 : decode cX7_imposeConsecutive 10 = .ok (.goto 31, 3) := by decide +kernel
theorem dX7_imposeConsecutive_13 : decode cX7_imposeConsecutive 13 = .ok (.aload_n 0, 1) := by decide +kernel
theorem dX7_imposeConsecutive_14 : decode cX7_imposeConsecutive 14 = .ok (.iload_n 2, 1) := by decide +kernel
theorem dX7_imposeConsecutive_15 : decode cX7_imposeConsecutive 15 = .ok (.iload_n 3, 1) := by decide +kernel
theorem dX7_imposeConsecutive_16 : decode cX7_imposeConsecutive 16 = .ok (.iload 4, 2) := by decide +kernel
theorem dX7_imposeConsecutive_18 : decode cX7_imposeConsecutive 18 = .ok (.invokevirtual 209, 3) := by decide +kernel
theorem dX7_imposeConsecutive_21 : decode cX7_imposeConsecutive 21 = .ok (.ifCond .ne 7, 3) := by decide +kernel
theorem dX7_imposeConsecutive_24 : decode cX7_imposeConsecutive 24 = .ok (.iconst 2, 1) := by decide +kernel
theorem dX7_imposeConsecutive_25 : decode cX7_imposeConsecutive 25 = .ok (.goto 16, 3) := by decide +kernel
theorem dX7_imposeConsecutive_28 : decode cX7_imposeConsecutive 28 = .ok (.aload_n 0, 1) := by decide +kernel
theorem dX7_imposeConsecutive_29 : decode cX7_imposeConsecutive 29 = .ok (.iload_n 1, 1) := by decide +kernel
theorem dX7_imposeConsecutive_30 : decode cX7_imposeConsecutive 30 = .ok (.invokevirtual 219, 3) := by decide +kernel
theorem dX7_imposeConsecutive_33 : decode cX7_imposeConsecutive 33 = .ok (.ifCond .eq 7, 3) := by decide +kernel
theorem dX7_imposeConsecutive_36 : decode cX7_imposeConsecutive 36 = .ok (.iconst 0, 1) := by decide +kernel
theorem dX7_imposeConsecutive_37 : decode cX7_imposeConsecutive 37 = .ok (.goto 4, 3) := by decide +kernel
theorem dX7_imposeConsecutive_40 : decode cX7_imposeConsecutive 40 = .ok (.iconst 3, 1) := by decide +kernel
theorem dX7_imposeConsecutive_41 : decode cX7_imposeConsecutive 41 = .ok (.invokevirtual 126, 3) := by decide +kernel
theorem dX7_imposeConsecutive_44 : decode cX7_imposeConsecutive 44 = .ok (.ifCond .eq 5, 3) := by decide +kernel
theorem dX7_imposeConsecutive_47 : decode cX7_imposeConsecutive 47 = .ok (.iconst 0, 1) := by decide +kernel
theorem dX7_imposeConsecutive_48 : decode cX7_imposeConsecutive 48 = .ok (.ireturn, 1) := by decide +kernel
theorem dX7_imposeConsecutive_49 : decode cX7_imposeConsecutive 49 = .ok (.aload_n 0, 1) := by decide +kernel
theorem dX7_imposeConsecutive_50 : decode cX7_imposeConsecutive 50 = .ok (.iload_n 1, 1) := by decide +kernel
theorem dX7_imposeConsecutive_51 : decode cX7_imposeConsecutive 51 = .ok (.iload_n 2, 1) := by decide +kernel
theorem dX7_imposeConsecutive_52 : decode cX7_imposeConsecutive 52 = .ok (.iload_n 3, 1) := by decide +kernel
theorem dX7_imposeConsecutive_53 : decode cX7_imposeConsecutive 53 = .ok (.iload 4, 2) := by decide +kernel
theorem dX7_imposeConsecutive_55 : decode cX7_imposeConsecutive 55 = .ok (.invokevirtual 212, 3) := by decide +kernel
theorem dX7_imposeConsecutive_58 : decode cX7_imposeConsecutive 58 = .ok (.ireturn, 1) := by decide +kernel
theorem dX7_canHaveRemand_0 : decode cX7_canHaveRemand 0 = .ok (.aload_n 0, 1) := by decide +kernel
theorem dX7_canHaveRemand_1 : decode cX7_canHaveRemand 1 = .ok (.iload_n 1, 1) := by decide +kernel
theorem dX7_canHaveRemand_2 : decode cX7_canHaveRemand 2 = .ok (.invokevirtual 165, 3) := by decide +kernel
theorem dX7_canHaveRemand_5 : decode cX7_canHaveRemand 5 = .ok (.ifCond .eq 29, 3) := by decide +kernel
theorem dX7_canHaveRemand_8 : decode cX7_canHaveRemand 8 = .ok (.aload_n 0, 1) := by decide +kernel
theorem dX7_canHaveRemand_9 : decode cX7_canHaveRemand 9 = .ok (.getfield 26, 3) := by decide +kernel
theorem dX7_canHaveRemand_12 : decode cX7_canHaveRemand 12 = .ok (.iload_n 1, 1) := by decide +kernel
theorem dX7_canHaveRemand_13 : decode cX7_canHaveRemand 13 = .ok (.iaload, 1) := by decide +kernel
theorem dX7_canHaveRemand_14 : decode cX7_canHaveRemand 14 = .ok (.aload_n 0, 1) := by decide +kernel
theorem dX7_canHaveRemand_15 : decode cX7_canHaveRemand 15 = .ok (.getfield 187, 3) := by decide +kernel
theorem dX7_canHaveRemand_18 : decode cX7_canHaveRemand 18 = .ok (.if_icmp .ne 16, 3) := by decide +kernel
theorem dX7_canHaveRemand_21 : decode cX7_canHaveRemand 21 = .ok (.aload_n 0, 1) := by decide +kernel
theorem dX7_canHaveRemand_22 : decode cX7_canHaveRemand 22 = .ok (.getfield 143, 3) := by decide +kernel
theorem dX7_canHaveRemand_25 : decode cX7_canHaveRemand 25 = .ok (.bipush 8, 2) := by decide +kernel
theorem dX7_canHaveRemand_27 : decode cX7_canHaveRemand 27 = .ok (.if_icmp .ge 7, 3) := by decide +kernel
theorem dX7_canHaveRemand_30 : decode cX7_canHaveRemand 30 = .ok (.iconst 1, 1) := by decide +kernel
theorem dX7_canHaveRemand_31 : decode cX7_canHaveRemand 31 = .ok (.goto 4, 3) := by decide +kernel
theorem dX7_canHaveRemand_34 : decode cX7_canHaveRemand 34 = .ok (.iconst 0, 1) := by decide +kernel
theorem dX7_canHaveRemand_35 : decode cX7_canHaveRemand 35 = .ok (.ireturn, 1) := by decide +kernel
theorem dX7_addRemand_0 : decode cX7_addRemand 0 = .ok (.iload_n 2, 1) := by decide +kernel
theorem dX7_addRemand_1 : decode cX7_addRemand 1 = .ok (.ifCond .lt 20, 3) := by decide +kernel
theorem dX7_addRemand_4 : decode cX7_addRemand 4 = .ok (.iload_n 3, 1) := by decide +kernel
theorem dX7_addRemand_5 : decode cX7_addRemand 5 = .ok (.iload_n 2, 1) := by decide +kernel
theorem dX7_addRemand_6 : decode cX7_addRemand 6 = .ok (.if_icmp .lt 15, 3) := by decide +kernel
theorem dX7_addRemand_9 : decode cX7_addRemand 9 = .ok (.iload_n 3, 1) := by decide +kernel
theorem dX7_addRemand_10 : decode cX7_addRemand 10 = .ok (.aload_n 0, 1) := by decide +kernel
theorem dX7_addRemand_11 : decode cX7_addRemand 11 = .ok (.getfield 187, 3) := by decide +kernel
theorem dX7_addRemand_14 : decode cX7_addRemand 14 = .ok (.if_icmp .ge 7, 3) := by decide +kernel
theorem dX7_addRemand_17 : decode cX7_addRemand 17 = .ok (.iconst 1, 1) := by decide +kernel
theorem dX7_addRemand_18 : decode cX7_addRemand 18 = .ok (.goto 4, 3) := by decide +kernel
theorem dX7_addRemand_21 : decode cX7_addRemand 21 = .ok (.iconst 0, 1) := by decide +kernel
theorem dX7_addRemand_22 : decode cX7_addRemand 22 = .ok (.istore 4, 2) := by decide +kernel
theorem dX7_addRemand_24 : decode cX7_addRemand 24 = .ok (.aload_n 0, 1) := by decide +kernel
theorem dX7_addRemand_25 : decode cX7_addRemand 25 = .ok (.aload_n 0, 1) := by decide +kernel
theorem dX7_addRemand_26 : decode cX7_addRemand 26 = .ok (.iload_n 1, 1) := by decide +kernel
theorem dX7_addRemand_27 : decode cX7_addRemand 27 = .ok (.invokevirtual 216, 3) := by decide +kernel
theorem dX7_addRemand_30 : decode cX7_addRemand 30 = .ok (.ifCond .ne 7, 3) := by decide +kernel
theorem dX7_addRemand_33 : decode cX7_addRemand 33 = .ok (.iconst 1, 1) := by decide +kernel
theorem dX7_addRemand_34 : decode cX7_addRemand 34 = .ok (.goto 25, 3) := by decide +kernel
theorem dX7_addRemand_37 : decode cX7_addRemand 37 = .ok (.iload 4, 2) := by decide +kernel
theorem dX7_addRemand_39 : decode cX7_addRemand 39 = .ok (.ifCond .ne 7, 3) := by decide +kernel
theorem dX7_addRemand_42 : decode cX7_addRemand 42 = .ok (.iconst 2, 1) := by decide +kernel
theorem dX7_addRemand_43 : decode cX7_addRemand 43 = .ok (.goto 16, 3) := by decide +kernel
theorem dX7_addRemand_46 : decode cX7_addRemand 46 = .ok (.aload_n 0, 1) := by decide +kernel
theorem dX7_addRemand_47 : decode cX7_addRemand 47 = .ok (.iload_n 1, 1) := by decide +kernel
theorem dX7_addRemand_48 : decode cX7_addRemand 48 = .ok (.invokevirtual 222, 3) := by decide +kernel
theorem dX7_addRemand_51 : decode cX7_addRemand 51 = .ok (.ifCond .eq 7, 3) := by decide +kernel
theorem dX7_addRemand_54 : decode cX7_addRemand 54 = .ok (.iconst 0, 1) := by decide +kernel
theorem dX7_addRemand_55 : decode cX7_addRemand 55 = .ok (.goto 4, 3) := by decide +kernel
theorem dX7_addRemand_58 : decode cX7_addRemand 58 = .ok (.iconst 3, 1) := by decide +kernel
theorem dX7_addRemand_59 : decode cX7_addRemand 59 = .ok (.invokevirtual 126, 3) := by decide +kernel
theorem dX7_addRemand_62 : decode cX7_addRemand 62 = .ok (.ifCond .eq 5, 3) := by decide +kernel
theorem dX7_addRemand_65 : decode cX7_addRemand 65 = .ok (.iconst 0, 1) := by decide +kernel
theorem dX7_addRemand_66 : decode cX7_addRemand 66 = .ok (.ireturn, 1) := by decide +kernel
theorem dX7_addRemand_67 : decode cX7_addRemand 67 = .ok (.aload_n 0, 1) := by decide +kernel
theorem dX7_addRemand_68 : decode cX7_addRemand 68 = .ok (.getfield 39, 3) := by decide +kernel
theorem dX7_addRemand_71 : decode cX7_addRemand 71 = .ok (.aload_n 0, 1) := by decide +kernel
theorem dX7_addRemand_72 : decode cX7_addRemand 72 = .ok (.getfield 143, 3) := by decide +kernel
theorem dX7_addRemand_75 : decode cX7_addRemand 75 = .ok (.iload_n 1, 1) := by decide +kernel
theorem dX7_addRemand_76 : decode cX7_addRemand 76 = .ok (.iastore, 1) := by decide +kernel
theorem dX7_addRemand_77 : decode cX7_addRemand 77 = .ok (.aload_n 0, 1) := by decide +kernel
theorem dX7_addRemand_78 : decode cX7_addRemand 78 = .ok (.getfield 42, 3) := by decide +kernel
theorem dX7_addRemand_81 : decode cX7_addRemand 81 = .ok (.aload_n 0, 1) := by decide +kernel
theorem dX7_addRemand_82 : decode cX7_addRemand 82 = .ok (.getfield 143, 3) := by decide +kernel
theorem dX7_addRemand_85 : decode cX7_addRemand 85 = .ok (.iload_n 2, 1) := by decide +kernel
theorem dX7_addRemand_86 : decode cX7_addRemand 86 = .ok (.iastore, 1) := by decide +kernel
theorem dX7_addRemand_87 : decode cX7_addRemand 87 = .ok (.aload_n 0, 1) := by decide +kernel
theorem dX7_addRemand_88 : decode cX7_addRemand 88 = .ok (.getfield 45, 3) := by decide +kernel
theorem dX7_addRemand_91 : decode cX7_addRemand 91 = .ok (.aload_n 0, 1) := by decide +kernel
theorem dX7_addRemand_92 : decode cX7_addRemand 92 = .ok (.getfield 143, 3) := by decide +kernel
theorem dX7_addRemand_95 : decode cX7_addRemand 95 = .ok (.iload_n 3, 1) := by decide +kernel
theorem dX7_addRemand_96 : decode cX7_addRemand 96 = .ok (.iastore, 1) := by decide +kernel
theorem dX7_addRemand_97 : decode cX7_addRemand 97 = .ok (.aload_n 0, 1) := by decide +kernel
theorem dX7_addRemand_98 : decode cX7_addRemand 98 = .ok (.dup, 1) := by decide +kernel
theorem dX7_addRemand_99 : decode cX7_addRemand 99 = .ok (.getfield 143, 3) := by decide +kernel
theorem dX7_addRemand_102 : decode cX7_addRemand 102 = .ok (.iconst 1, 1) := by decide +kernel
theorem dX7_addRemand_103 : decode cX7_addRemand 103 = .ok (.iadd, 1) := by decide +kernel
theorem dX7_addRemand_104 : decode cX7_addRemand 104 = .ok (.putfield 143, 3) := by decide +kernel
theorem dX7_addRemand_107 : decode cX7_addRemand 107 = .ok (.aload_n 0, 1) := by decide +kernel
theorem dX7_addRemand_108 : decode cX7_addRemand 108 = .ok (.invokevirtual 206, 3) := by decide +kernel
theorem dX7_addRemand_111 : decode cX7_addRemand 111 = .ok (.aload_n 0, 1) := by decide +kernel
theorem dX7_addRemand_112 : decode cX7_addRemand 112 = .ok (.invokevirtual 225, 3) := by decide +kernel
theorem dX7_addRemand_115 : decode cX7_addRemand 115 = .ok (.aload_n 0, 1) := by decide +kernel
theorem dX7_addRemand_116 : decode cX7_addRemand 116 = .ok (.getfield 75, 3) := by decide +kernel
theorem dX7_addRemand_119 : decode cX7_addRemand 119 = .ok (.iload_n 1, 1) := by decide +kernel
theorem dX7_addRemand_120 : decode cX7_addRemand 120 = .ok (.iaload, 1) := by decide +kernel
theorem dX7_addRemand_121 : decode cX7_addRemand 121 = .ok (.ireturn, 1) := by decide +kernel
theorem dX7_isNext_0 : decode cX7_isNext 0 = .ok (.aload_n 0, 1) := by decide +kernel
theorem dX7_isNext_1 : decode cX7_isNext 1 = .ok (.iload_n 1, 1) := by decide +kernel
theorem dX7_isNext_2 : decode cX7_isNext 2 = .ok (.invokevirtual 165, 3) := by decide +kernel
theorem dX7_isNext_5 : decode cX7_isNext 5 = .ok (.ifCond .eq 17, 3) := by decide +kernel
theorem dX7_isNext_8 : decode cX7_isNext 8 = .ok (.aload_n 0, 1) := by decide +kernel
theorem dX7_isNext_9 : decode cX7_isNext 9 = .ok (.getfield 32, 3) := by decide +kernel
theorem dX7_isNext_12 : decode cX7_isNext 12 = .ok (.iload_n 1, 1) := by decide +kernel
theorem dX7_isNext_13 : decode cX7_isNext 13 = .ok (.iaload, 1) := by decide +kernel
theorem dX7_isNext_14 : decode cX7_isNext 14 = .ok (.iload_n 2, 1) := by decide +kernel
theorem dX7_isNext_15 : decode cX7_isNext 15 = .ok (.if_icmp .ne 7, 3) := by decide +kernel
theorem dX7_isNext_18 : decode cX7_isNext 18 = .ok (.iconst 1, 1) := by decide +kernel
theorem dX7_isNext_19 : decode cX7_isNext 19 = .ok (.goto 4, 3) := by decide +kernel
theorem dX7_isNext_22 : decode cX7_isNext 22 = .ok (.iconst 0, 1) := by decide +kernel
theorem dX7_isNext_23 : decode cX7_isNext 23 = .ok (.ireturn, 1) := by decide +kernel
theorem dX7_quashes_0 : decode cX7_quashes 0 = .ok (.iconst 0, 1) := by decide +kernel
theorem dX7_quashes_1 : decode cX7_quashes 1 = .ok (.istore_n 2, 1) := by decide +kernel
theorem dX7_quashes_2 : decode cX7_quashes 2 = .ok (.aload_n 0, 1) := by decide +kernel
theorem dX7_quashes_3 : decode cX7_quashes 3 = .ok (.getfield 32, 3) := by decide +kernel
theorem dX7_quashes_6 : decode cX7_quashes 6 = .ok (.iload_n 1, 1) := by decide +kernel
theorem dX7_quashes_7 : decode cX7_quashes 7 = .ok (.iaload, 1) := by decide +kernel
theorem dX7_quashes_8 : decode cX7_quashes 8 = .ok (.istore_n 3, 1) := by decide +kernel
theorem dX7_quashes_9 : decode cX7_quashes 9 = .ok (.iconst 0, 1) := by decide +kernel
theorem dX7_quashes_10 : decode cX7_quashes 10 = .ok (.istore 4, 2) := by decide +kernel
theorem dX7_quashes_12 : decode cX7_quashes 12 = .ok (.iload 4, 2) := by decide +kernel
theorem dX7_quashes_14 : decode cX7_quashes 14 = .ok (.aload_n 0, 1) := by decide +kernel
theorem dX7_quashes_15 : decode cX7_quashes 15 = .ok (.getfield 140, 3) := by decide +kernel
theorem dX7_quashes_18 : decode cX7_quashes 18 = .ok (.if_icmp .ge 43, 3) := by decide +kernel
theorem dX7_quashes_21 : decode cX7_quashes 21 = .ok (.aload_n 0, 1) := by decide +kernel
theorem dX7_quashes_22 : decode cX7_quashes 22 = .ok (.iload 4, 2) := by decide +kernel
theorem dX7_quashes_24 : decode cX7_quashes 24 = .ok (.iload_n 1, 1) := by decide +kernel
theorem dX7_quashes_25 : decode cX7_quashes 25 = .ok (.invokevirtual 228, 3) := by decide +kernel
theorem dX7_quashes_28 : decode cX7_quashes 28 = .ok (.ifCond .eq 27, 3) := by decide +kernel
theorem dX7_quashes_31 : decode cX7_quashes 31 = .ok (.aload_n 0, 1) := by decide +kernel
theorem dX7_quashes_32 : decode cX7_quashes 32 = .ok (.getfield 29, 3) := by decide +kernel
theorem dX7_quashes_35 : decode cX7_quashes 35 = .ok (.iload 4, 2) := by decide +kernel
theorem dX7_quashes_37 : decode cX7_quashes 37 = .ok (.aload_n 0, 1) := by decide +kernel
theorem dX7_quashes_38 : decode cX7_quashes 38 = .ok (.getfield 29, 3) := by decide +kernel
theorem dX7_quashes_41 : decode cX7_quashes 41 = .ok (.iload_n 1, 1) := by decide +kernel
theorem dX7_quashes_42 : decode cX7_quashes 42 = .ok (.iaload, 1) := by decide +kernel
theorem dX7_quashes_43 : decode cX7_quashes 43 = .ok (.iastore, 1) := by decide +kernel
theorem dX7_quashes_44 : decode cX7_quashes 44 = .ok (.aload_n 0, 1) := by decide +kernel
theorem dX7_quashes_45 : decode cX7_quashes 45 = .ok (.getfield 32, 3) := by decide +kernel
theorem dX7_quashes_48 : decode cX7_quashes 48 = .ok (.iload 4, 2) := by decide +kernel
theorem dX7_quashes_50 : decode cX7_quashes 50 = .ok (.iload_n 3, 1) := by decide +kernel
theorem dX7_quashes_51 : decode cX7_quashes 51 = .ok (.iastore, 1) := by decide +kernel
theorem dX7_quashes_52 : decode cX7_quashes 52 = .ok (.iinc 2 1, 3) := by decide +kernel
theorem dX7_quashes_55 : decode cX7_quashes 55 = .ok (.iinc 4 1, 3) := by decide +kernel
theorem dX7_quashes_58 : decode cX7_quashes 58 = .ok (.goto (-46), 3) := by decide +kernel
theorem dX7_quashes_61 : decode cX7_quashes 61 = .ok (.aload_n 0, 1) := by decide +kernel
theorem dX7_quashes_62 : decode cX7_quashes 62 = .ok (.getfield 35, 3) := by decide +kernel
theorem dX7_quashes_65 : decode cX7_quashes 65 = .ok (.iload_n 1, 1) := by decide +kernel
theorem dX7_quashes_66 : decode cX7_quashes 66 = .ok (.iconst 1, 1) := by decide +kernel
theorem dX7_quashes_67 : decode cX7_quashes 67 = .ok (.bastore, 1) := by decide +kernel
theorem dX7_quashes_68 : decode cX7_quashes 68 = .ok (.aload_n 0, 1) := by decide +kernel
theorem dX7_quashes_69 : decode cX7_quashes 69 = .ok (.invokevirtual 206, 3) := by decide +kernel
theorem dX7_quashes_72 : decode cX7_quashes 72 = .ok (.iload_n 2, 1) := by decide +kernel
theorem dX7_quashes_73 : decode cX7_quashes 73 = .ok (.ireturn, 1) := by decide +kernel
theorem dX7_quash_0 : decode cX7_quash 0 = .ok (.aload_n 0, 1) := by decide +kernel
theorem dX7_quash_1 : decode cX7_quash 1 = .ok (.aload_n 0, 1) := by decide +kernel
theorem dX7_quash_2 : decode cX7_quash 2 = .ok (.iload_n 1, 1) := by decide +kernel
theorem dX7_quash_3 : decode cX7_quash 3 = .ok (.invokevirtual 216, 3) := by decide +kernel
theorem dX7_quash_6 : decode cX7_quash 6 = .ok (.ifCond .ne 7, 3) := by decide +kernel
theorem dX7_quash_9 : decode cX7_quash 9 = .ok (.iconst 1, 1) := by decide +kernel
theorem dX7_quash_10 : decode cX7_quash 10 = .ok (.goto 16, 3) := by decide +kernel
theorem dX7_quash_13 : decode cX7_quash 13 = .ok (.aload_n 0, 1) := by decide +kernel
theorem dX7_quash_14 : decode cX7_quash 14 = .ok (.iload_n 1, 1) := by decide +kernel
theorem dX7_quash_15 : decode cX7_quash 15 = .ok (.invokevirtual 165, 3) := by decide +kernel
theorem dX7_quash_18 : decode cX7_quash 18 = .ok (.ifCond .eq 7, 3) := by decide +kernel
theorem dX7_quash_21 : decode cX7_quash 21 = .ok (.iconst 0, 1) := by decide +kernel
theorem dX7_quash_22 : decode cX7_quash 22 = .ok (.goto 4, 3) := by decide +kernel
theorem dX7_quash_25 : decode cX7_quash 25 = .ok (.iconst 2, 1) := by decide +kernel
theorem dX7_quash_26 : decode cX7_quash 26 = .ok (.invokevirtual 126, 3) := by decide +kernel
theorem dX7_quash_29 : decode cX7_quash 29 = .ok (.ifCond .eq 5, 3) := by decide +kernel
theorem dX7_quash_32 : decode cX7_quash 32 = .ok (.iconst 0, 1) := by decide +kernel
theorem dX7_quash_33 : decode cX7_quash 33 = .ok (.ireturn, 1) := by decide +kernel
theorem dX7_quash_34 : decode cX7_quash 34 = .ok (.aload_n 0, 1) := by decide +kernel
theorem dX7_quash_35 : decode cX7_quash 35 = .ok (.iload_n 1, 1) := by decide +kernel
theorem dX7_quash_36 : decode cX7_quash 36 = .ok (.invokevirtual 231, 3) := by decide +kernel
theorem dX7_quash_39 : decode cX7_quash 39 = .ok (.istore_n 2, 1) := by decide +kernel
theorem dX7_quash_40 : decode cX7_quash 40 = .ok (.aload_n 0, 1) := by decide +kernel
theorem dX7_quash_41 : decode cX7_quash 41 = .ok (.invokevirtual 225, 3) := by decide +kernel
theorem dX7_quash_44 : decode cX7_quash 44 = .ok (.iload_n 2, 1) := by decide +kernel
theorem dX7_quash_45 : decode cX7_quash 45 = .ok (.ireturn, 1) := by decide +kernel
theorem dX7_awards_0 : decode cX7_awards 0 = .ok (.iconst 0, 1) := by decide +kernel
theorem dX7_awards_1 : decode cX7_awards 1 = .ok (.istore_n 2, 1) := by decide +kernel
theorem dX7_awards_2 : decode cX7_awards 2 = .ok (.iconst 0, 1) := by decide +kernel
theorem dX7_awards_3 : decode cX7_awards 3 = .ok (.istore_n 3, 1) := by decide +kernel
theorem dX7_awards_4 : decode cX7_awards 4 = .ok (.iload_n 3, 1) := by decide +kernel
theorem dX7_awards_5 : decode cX7_awards 5 = .ok (.aload_n 0, 1) := by decide +kernel
theorem dX7_awards_6 : decode cX7_awards 6 = .ok (.getfield 140, 3) := by decide +kernel
theorem dX7_awards_9 : decode cX7_awards 9 = .ok (.if_icmp .ge 40, 3) := by decide +kernel
theorem dX7_awards_12 : decode cX7_awards 12 = .ok (.iload_n 2, 1) := by decide +kernel
theorem dX7_awards_13 : decode cX7_awards 13 = .ok (.aload_n 0, 1) := by decide +kernel
theorem dX7_awards_14 : decode cX7_awards 14 = .ok (.iload_n 3, 1) := by decide +kernel
theorem dX7_awards_15 : decode cX7_awards 15 = .ok (.invokevirtual 165, 3) := by decide +kernel
theorem dX7_awards_18 : decode cX7_awards 18 = .ok (.ifCond .eq 22, 3) := by decide +kernel
theorem dX7_awards_21 : decode cX7_awards 21 = .ok (.aload_n 0, 1) := by decide +kernel
theorem dX7_awards_22 : decode cX7_awards 22 = .ok (.getfield 81, 3) := by decide +kernel
theorem dX7_awards_25 : decode cX7_awards 25 = .ok (.iload_n 3, 1) := by decide +kernel
theorem dX7_awards_26 : decode cX7_awards 26 = .ok (.iaload, 1) := by decide +kernel
theorem dX7_awards_27 : decode cX7_awards 27 = .ok (.aload_n 0, 1) := by decide +kernel
theorem dX7_awards_28 : decode cX7_awards 28 = .ok (.getfield 187, 3) := by decide +kernel
theorem dX7_awards_31 : decode cX7_awards 31 = .ok (.if_icmp .le 9, 3) := by decide +kernel
theorem dX7_awards_34 : decode cX7_awards 34 = .ok (.iconst 1, 1) := by decide +kernel
theorem dX7_awards_35 : decode cX7_awards 35 = .ok (.iload_n 3, 1) := by decide +kernel
theorem dX7_awards_36 : decode cX7_awards 36 = .ok (.ishl, 1) := by decide +kernel
theorem dX7_awards_37 : decode cX7_awards 37 = .ok (.goto 4, 3) := by decide +kernel
theorem dX7_awards_40 : decode cX7_awards 40 = .ok (.iconst 0, 1) := by decide +kernel
theorem dX7_awards_41 : decode cX7_awards 41 = .ok (.ior, 1) := by decide +kernel
theorem dX7_awards_42 : decode cX7_awards 42 = .ok (.istore_n 2, 1) := by decide +kernel
theorem dX7_awards_43 : decode cX7_awards 43 = .ok (.iinc 3 1, 3) := by decide +kernel
theorem dX7_awards_46 : decode cX7_awards 46 = .ok (.goto (-42), 3) := by decide +kernel
theorem dX7_awards_49 : decode cX7_awards 49 = .ok (.aload_n 0, 1) := by decide +kernel
theorem dX7_awards_50 : decode cX7_awards 50 = .ok (.getfield 48, 3) := by decide +kernel
theorem dX7_awards_53 : decode cX7_awards 53 = .ok (.aload_n 0, 1) := by decide +kernel
theorem dX7_awards_54 : decode cX7_awards 54 = .ok (.getfield 153, 3) := by decide +kernel
theorem dX7_awards_57 : decode cX7_awards 57 = .ok (.iload_n 1, 1) := by decide +kernel
theorem dX7_awards_58 : decode cX7_awards 58 = .ok (.iastore, 1) := by decide +kernel
theorem dX7_awards_59 : decode cX7_awards 59 = .ok (.aload_n 0, 1) := by decide +kernel
theorem dX7_awards_60 : decode cX7_awards 60 = .ok (.getfield 51, 3) := by decide +kernel
theorem dX7_awards_63 : decode cX7_awards 63 = .ok (.aload_n 0, 1) := by decide +kernel
theorem dX7_awards_64 : decode cX7_awards 64 = .ok (.getfield 153, 3) := by decide +kernel
theorem dX7_awards_67 : decode cX7_awards 67 = .ok (.iload_n 2, 1) := by decide +kernel
theorem dX7_awards_68 : decode cX7_awards 68 = .ok (.iastore, 1) := by decide +kernel
theorem dX7_awards_69 : decode cX7_awards 69 = .ok (.aload_n 0, 1) := by decide +kernel
theorem dX7_awards_70 : decode cX7_awards 70 = .ok (.getfield 54, 3) := by decide +kernel
theorem dX7_awards_73 : decode cX7_awards 73 = .ok (.aload_n 0, 1) := by decide +kernel
theorem dX7_awards_74 : decode cX7_awards 74 = .ok (.getfield 153, 3) := by decide +kernel
theorem dX7_awards_77 : decode cX7_awards 77 = .ok (.aload_n 0, 1) := by decide +kernel
theorem dX7_awards_78 : decode cX7_awards 78 = .ok (.invokevirtual 193, 3) := by decide +kernel
theorem dX7_awards_81 : decode cX7_awards 81 = .ok (.ifCond .eq 12, 3) := by decide +kernel
theorem dX7_awards_84 : decode cX7_awards 84 = .ok (.aload_n 0, 1) := by decide +kernel
theorem dX7_awards_85 : decode cX7_awards 85 = .ok (.getfield 171, 3) := by decide +kernel
theorem dX7_awards_88 : decode cX7_awards 88 = .ok (.iconst 1, 1) := by decide +kernel
theorem dX7_awards_89 : decode cX7_awards 89 = .ok (.isub, 1) := by decide +kernel
theorem dX7_awards_90 : decode cX7_awards 90 = .ok (.goto 4, 3) := by decide +kernel
theorem dX7_awards_93 : decode cX7_awards 93 = .ok (.iconst (-1), 1) := by decide +kernel
theorem dX7_awards_94 : decode cX7_awards 94 = .ok (.iastore, 1) := by decide +kernel
theorem dX7_awards_95 : decode cX7_awards 95 = .ok (.aload_n 0, 1) := by decide +kernel
theorem dX7_awards_96 : decode cX7_awards 96 = .ok (.dup, 1) := by decide +kernel
theorem dX7_awards_97 : decode cX7_awards 97 = .ok (.getfield 153, 3) := by decide +kernel
theorem dX7_awards_100 : decode cX7_awards 100 = .ok (.iconst 1, 1) := by decide +kernel
theorem dX7_awards_101 : decode cX7_awards 101 = .ok (.iadd, 1) := by decide +kernel
theorem dX7_awards_102 : decode cX7_awards 102 = .ok (.putfield 153, 3) := by decide +kernel
theorem dX7_awards_105 : decode cX7_awards 105 = .ok (.aload_n 0, 1) := by decide +kernel
theorem dX7_awards_106 : decode cX7_awards 106 = .ok (.invokevirtual 206, 3) := by decide +kernel
theorem dX7_awards_109 : decode cX7_awards 109 = .ok (.return_, 1) := by decide +kernel
theorem dX7_award_0 : decode cX7_award 0 = .ok (.aload_n 0, 1) := by decide +kernel
theorem dX7_award_1 : decode cX7_award 1 = .ok (.iload_n 1, 1) := by decide +kernel
theorem dX7_award_2 : decode cX7_award 2 = .ok (.iconst 1, 1) := by decide +kernel
theorem dX7_award_3 : decode cX7_award 3 = .ok (.bipush 42, 2) := by decide +kernel
theorem dX7_award_5 : decode cX7_award 5 = .ok (.invokestatic 122, 3) := by decide +kernel
theorem dX7_award_8 : decode cX7_award 8 = .ok (.ifCond .ne 7, 3) := by decide +kernel
theorem dX7_award_11 : decode cX7_award 11 = .ok (.iconst 1, 1) := by decide +kernel
theorem dX7_award_12 : decode cX7_award 12 = .ok (.goto 25, 3) := by decide +kernel
theorem dX7_award_15 : decode cX7_award 15 = .ok (.aload_n 0, 1) := by decide +kernel
theorem dX7_award_16 : decode cX7_award 16 = .ok (.invokevirtual 234, 3) := by decide +kernel
theorem dX7_award_19 : decode cX7_award 19 = .ok (.iconst 2, 1) := by decide +kernel
theorem dX7_award_20 : decode cX7_award 20 = .ok (.if_icmp .ne 12, 3) := by decide +kernel
theorem dX7_award_23 : decode cX7_award 23 = .ok (.aload_n 0, 1) := by decide +kernel
theorem dX7_award_24 : decode cX7_award 24 = .ok (.getfield 153, 3) := by decide +kernel
theorem dX7_award_27 : decode cX7_award 27 = .ok (.bipush 8, 2) := by decide +kernel
theorem dX7_award_29 : decode cX7_award 29 = .ok (.if_icmp .ne 7, 3) := by decide +kernel
theorem dX7_award_32 : decode cX7_award 32 = .ok (.iconst 2, 1) := by decide +kernel
theorem dX7_award_33 : decode cX7_award 33 = .ok (.goto 4, 3) := by decide +kernel
theorem dX7_award_36 : decode cX7_award 36 = .ok (.iconst 0, 1) := by decide +kernel
theorem dX7_award_37 : decode cX7_award 37 = .ok (.invokevirtual 126, 3) := by decide +kernel
theorem dX7_award_40 : decode cX7_award 40 = .ok (.ifCond .eq 5, 3) := by decide +kernel
theorem dX7_award_43 : decode cX7_award 43 = .ok (.iconst 0, 1) := by decide +kernel
theorem dX7_award_44 : decode cX7_award 44 = .ok (.ireturn, 1) := by decide +kernel
theorem dX7_award_45 : decode cX7_award 45 = .ok (.aload_n 0, 1) := by decide +kernel
theorem dX7_award_46 : decode cX7_award 46 = .ok (.iload_n 1, 1) := by decide +kernel
theorem dX7_award_47 : decode cX7_award 47 = .ok (.invokevirtual 237, 3) := by decide +kernel
theorem dX7_award_50 : decode cX7_award 50 = .ok (.aload_n 0, 1) := by decide +kernel
theorem dX7_award_51 : decode cX7_award 51 = .ok (.getfield 153, 3) := by decide +kernel
theorem dX7_award_54 : decode cX7_award 54 = .ok (.iconst 1, 1) := by decide +kernel
theorem dX7_award_55 : decode cX7_award 55 = .ok (.isub, 1) := by decide +kernel
theorem dX7_award_56 : decode cX7_award 56 = .ok (.ireturn, 1) := by decide +kernel
theorem dX7_isAward_0 : decode cX7_isAward 0 = .ok (.iload_n 1, 1) := by decide +kernel
theorem dX7_isAward_1 : decode cX7_isAward 1 = .ok (.iconst 0, 1) := by decide +kernel
theorem dX7_isAward_2 : decode cX7_isAward 2 = .ok (.aload_n 0, 1) := by decide +kernel
theorem dX7_isAward_3 : decode cX7_isAward 3 = .ok (.getfield 153, 3) := by decide +kernel
theorem dX7_isAward_6 : decode cX7_isAward 6 = .ok (.iconst 1, 1) := by decide +kernel
theorem dX7_isAward_7 : decode cX7_isAward 7 = .ok (.isub, 1) := by decide +kernel
theorem dX7_isAward_8 : decode cX7_isAward 8 = .ok (.invokestatic 122, 3) := by decide +kernel
theorem dX7_isAward_11 : decode cX7_isAward 11 = .ok (.ireturn, 1) := by decide +kernel
theorem dX7_giveBack_0 : decode cX7_giveBack 0 = .ok (.aload_n 0, 1) := by decide +kernel
theorem dX7_giveBack_1 : decode cX7_giveBack 1 = .ok (.aload_n 0, 1) := by decide +kernel
theorem dX7_giveBack_2 : decode cX7_giveBack 2 = .ok (.iload_n 1, 1) := by decide +kernel
theorem dX7_giveBack_3 : decode cX7_giveBack 3 = .ok (.invokevirtual 239, 3) := by decide +kernel
theorem dX7_giveBack_6 : decode cX7_giveBack 6 = .ok (.ifCond .ne 7, 3) := by decide +kernel
theorem dX7_giveBack_9 : decode cX7_giveBack 9 = .ok (.iconst 1, 1) := by decide +kernel
theorem dX7_giveBack_10 : decode cX7_giveBack 10 = .ok (.goto 22, 3) := by decide +kernel
theorem dX7_giveBack_13 : decode cX7_giveBack 13 = .ok (.iload_n 2, 1) := by decide +kernel
theorem dX7_giveBack_14 : decode cX7_giveBack 14 = .ok (.iconst 1, 1) := by decide +kernel
theorem dX7_giveBack_15 : decode cX7_giveBack 15 = .ok (.aload_n 0, 1) := by decide +kernel
theorem dX7_giveBack_16 : decode cX7_giveBack 16 = .ok (.getfield 48, 3) := by decide +kernel
theorem dX7_giveBack_19 : decode cX7_giveBack 19 = .ok (.iload_n 1, 1) := by decide +kernel
theorem dX7_giveBack_20 : decode cX7_giveBack 20 = .ok (.iaload, 1) := by decide +kernel
theorem dX7_giveBack_21 : decode cX7_giveBack 21 = .ok (.invokestatic 122, 3) := by decide +kernel
theorem dX7_giveBack_24 : decode cX7_giveBack 24 = .ok (.ifCond .eq 7, 3) := by decide +kernel
theorem dX7_giveBack_27 : decode cX7_giveBack 27 = .ok (.iconst 0, 1) := by decide +kernel
theorem dX7_giveBack_28 : decode cX7_giveBack 28 = .ok (.goto 4, 3) := by decide +kernel
theorem dX7_giveBack_31 : decode cX7_giveBack 31 = .ok (.iconst 2, 1) := by decide +kernel
theorem dX7_giveBack_32 : decode cX7_giveBack 32 = .ok (.invokevirtual 126, 3) := by decide +kernel
theorem dX7_giveBack_35 : decode cX7_giveBack 35 = .ok (.ifCond .eq 5, 3) := by decide +kernel
theorem dX7_giveBack_38 : decode cX7_giveBack 38 = .ok (.iconst 0, 1) := by decide +kernel
theorem dX7_giveBack_39 : decode cX7_giveBack 39 = .ok (.ireturn, 1) := by decide +kernel
theorem dX7_giveBack_40 : decode cX7_giveBack 40 = .ok (.aload_n 0, 1) := by decide +kernel
theorem dX7_giveBack_41 : decode cX7_giveBack 41 = .ok (.getfield 48, 3) := by decide +kernel
theorem dX7_giveBack_44 : decode cX7_giveBack 44 = .ok (.iload_n 1, 1) := by decide +kernel
theorem dX7_giveBack_45 : decode cX7_giveBack 45 = .ok (.dup2, 1) := by decide +kernel
theorem dX7_giveBack_46 : decode cX7_giveBack 46 = .ok (.iaload, 1) := by decide +kernel
theorem dX7_giveBack_47 : decode cX7_giveBack 47 = .ok (.iload_n 2, 1) := by decide +kernel
theorem dX7_giveBack_48 : decode cX7_giveBack 48 = .ok (.isub, 1) := by decide +kernel
theorem dX7_giveBack_49 : decode cX7_giveBack 49 = .ok (.iastore, 1) := by decide +kernel
theorem dX7_giveBack_50 : decode cX7_giveBack 50 = .ok (.aload_n 0, 1) := by decide +kernel
theorem dX7_giveBack_51 : decode cX7_giveBack 51 = .ok (.invokevirtual 206, 3) := by decide +kernel
theorem dX7_giveBack_54 : decode cX7_giveBack 54 = .ok (.aload_n 0, 1) := by decide +kernel
theorem dX7_giveBack_55 : decode cX7_giveBack 55 = .ok (.getfield 48, 3) := by decide +kernel
theorem dX7_giveBack_58 : decode cX7_giveBack 58 = .ok (.iload_n 1, 1) := by decide +kernel
theorem dX7_giveBack_59 : decode cX7_giveBack 59 = .ok (.iaload, 1) := by decide +kernel
theorem dX7_giveBack_60 : decode cX7_giveBack 60 = .ok (.ireturn, 1) := by decide +kernel
theorem dX7_recall_0 : decode cX7_recall 0 = .ok (.aload_n 0, 1) := by decide +kernel
theorem dX7_recall_1 : decode cX7_recall 1 = .ok (.iload_n 1, 1) := by decide +kernel
theorem dX7_recall_2 : decode cX7_recall 2 = .ok (.iconst 0, 1) := by decide +kernel
theorem dX7_recall_3 : decode cX7_recall 3 = .ok (.bipush 28, 2) := by decide +kernel
theorem dX7_recall_5 : decode cX7_recall 5 = .ok (.invokestatic 122, 3) := by decide +kernel
theorem dX7_recall_8 : decode cX7_recall 8 = .ok (.ifCond .ne 7, 3) := by decide +kernel
theorem dX7_recall_11 : decode cX7_recall 11 = .ok (.iconst 1, 1) := by decide +kernel
theorem dX7_recall_12 : decode cX7_recall 12 = .ok (.goto 25, 3) := by decide +kernel
theorem dX7_recall_15 : decode cX7_recall 15 = .ok (.aload_n 0, 1) := by decide +kernel
theorem dX7_recall_16 : decode cX7_recall 16 = .ok (.invokevirtual 234, 3) := by decide +kernel
theorem dX7_recall_19 : decode cX7_recall 19 = .ok (.iconst 1, 1) := by decide +kernel
theorem dX7_recall_20 : decode cX7_recall 20 = .ok (.if_icmp .ne 12, 3) := by decide +kernel
theorem dX7_recall_23 : decode cX7_recall 23 = .ok (.aload_n 0, 1) := by decide +kernel
theorem dX7_recall_24 : decode cX7_recall 24 = .ok (.getfield 171, 3) := by decide +kernel
theorem dX7_recall_27 : decode cX7_recall 27 = .ok (.bipush 6, 2) := by decide +kernel
theorem dX7_recall_29 : decode cX7_recall 29 = .ok (.if_icmp .ne 7, 3) := by decide +kernel
theorem dX7_recall_32 : decode cX7_recall 32 = .ok (.iconst 2, 1) := by decide +kernel
theorem dX7_recall_33 : decode cX7_recall 33 = .ok (.goto 4, 3) := by decide +kernel
theorem dX7_recall_36 : decode cX7_recall 36 = .ok (.iconst 0, 1) := by decide +kernel
theorem dX7_recall_37 : decode cX7_recall 37 = .ok (.invokevirtual 126, 3) := by decide +kernel
theorem dX7_recall_40 : decode cX7_recall 40 = .ok (.ifCond .eq 5, 3) := by decide +kernel
theorem dX7_recall_43 : decode cX7_recall 43 = .ok (.iconst 0, 1) := by decide +kernel
theorem dX7_recall_44 : decode cX7_recall 44 = .ok (.ireturn, 1) := by decide +kernel
theorem dX7_recall_45 : decode cX7_recall 45 = .ok (.aload_n 0, 1) := by decide +kernel
theorem dX7_recall_46 : decode cX7_recall 46 = .ok (.aload_n 0, 1) := by decide +kernel
theorem dX7_recall_47 : decode cX7_recall 47 = .ok (.getfield 187, 3) := by decide +kernel
theorem dX7_recall_50 : decode cX7_recall 50 = .ok (.putfield 180, 3) := by decide +kernel
theorem dX7_recall_53 : decode cX7_recall 53 = .ok (.aload_n 0, 1) := by decide +kernel
theorem dX7_recall_54 : decode cX7_recall 54 = .ok (.iload_n 1, 1) := by decide +kernel
theorem dX7_recall_55 : decode cX7_recall 55 = .ok (.putfield 174, 3) := by decide +kernel
theorem dX7_recall_58 : decode cX7_recall 58 = .ok (.aload_n 0, 1) := by decide +kernel
theorem dX7_recall_59 : decode cX7_recall 59 = .ok (.aload_n 0, 1) := by decide +kernel
theorem dX7_recall_60 : decode cX7_recall 60 = .ok (.invokevirtual 197, 3) := by decide +kernel
theorem dX7_recall_63 : decode cX7_recall 63 = .ok (.putfield 177, 3) := by decide +kernel
theorem dX7_recall_66 : decode cX7_recall 66 = .ok (.aload_n 0, 1) := by decide +kernel
theorem dX7_recall_67 : decode cX7_recall 67 = .ok (.dup, 1) := by decide +kernel
theorem dX7_recall_68 : decode cX7_recall 68 = .ok (.getfield 171, 3) := by decide +kernel
theorem dX7_recall_71 : decode cX7_recall 71 = .ok (.iconst 1, 1) := by decide +kernel
theorem dX7_recall_72 : decode cX7_recall 72 = .ok (.iadd, 1) := by decide +kernel
theorem dX7_recall_73 : decode cX7_recall 73 = .ok (.putfield 171, 3) := by decide +kernel
theorem dX7_recall_76 : decode cX7_recall 76 = .ok (.aload_n 0, 1) := by decide +kernel
theorem dX7_recall_77 : decode cX7_recall 77 = .ok (.invokevirtual 183, 3) := by decide +kernel
theorem dX7_recall_80 : decode cX7_recall 80 = .ok (.ireturn, 1) := by decide +kernel
theorem dX7_termCount_0 : decode cX7_termCount 0 = .ok (.aload_n 0, 1) := by decide +kernel
theorem dX7_termCount_1 : decode cX7_termCount 1 = .ok (.iconst 0, 1) := by decide +kernel
theorem dX7_termCount_2 : decode cX7_termCount 2 = .ok (.putfield 93, 3) := by decide +kernel
theorem dX7_termCount_5 : decode cX7_termCount 5 = .ok (.aload_n 0, 1) := by decide +kernel
theorem dX7_termCount_6 : decode cX7_termCount 6 = .ok (.getfield 140, 3) := by decide +kernel
theorem dX7_termCount_9 : decode cX7_termCount 9 = .ok (.ireturn, 1) := by decide +kernel
theorem dX7_kindOf_0 : decode cX7_kindOf 0 = .ok (.aload_n 0, 1) := by decide +kernel
theorem dX7_kindOf_1 : decode cX7_kindOf 1 = .ok (.aload_n 0, 1) := by decide +kernel
theorem dX7_kindOf_2 : decode cX7_kindOf 2 = .ok (.iload_n 1, 1) := by decide +kernel
theorem dX7_kindOf_3 : decode cX7_kindOf 3 = .ok (.invokevirtual 216, 3) := by decide +kernel
theorem dX7_kindOf_6 : decode cX7_kindOf 6 = .ok (.ifCond .eq 7, 3) := by decide +kernel
theorem dX7_kindOf_9 : decode cX7_kindOf 9 = .ok (.iconst 0, 1) := by decide +kernel
theorem dX7_kindOf_10 : decode cX7_kindOf 10 = .ok (.goto 4, 3) := by decide +kernel
theorem dX7_kindOf_13 : decode cX7_kindOf 13 = .ok (.iconst 1, 1) := by decide +kernel
theorem dX7_kindOf_14 : decode cX7_kindOf 14 = .ok (.invokevirtual 126, 3) := by decide +kernel
theorem dX7_kindOf_17 : decode cX7_kindOf 17 = .ok (.ifCond .eq 7, 3) := by decide +kernel
theorem dX7_kindOf_20 : decode cX7_kindOf 20 = .ok (.iconst 0, 1) := by decide +kernel
theorem dX7_kindOf_21 : decode cX7_kindOf 21 = .ok (.goto 9, 3) := by decide +kernel
theorem dX7_kindOf_24 : decode cX7_kindOf 24 = .ok (.aload_n 0, 1) := by decide +kernel
theorem dX7_kindOf_25 : decode cX7_kindOf 25 = .ok (.getfield 17, 3) := by decide +kernel
theorem dX7_kindOf_28 : decode cX7_kindOf 28 = .ok (.iload_n 1, 1) := by decide +kernel
theorem dX7_kindOf_29 : decode cX7_kindOf 29 = .ok (.iaload, 1) := by decide +kernel
theorem dX7_kindOf_30 : decode cX7_kindOf 30 = .ok (.ireturn, 1) := by decide +kernel
theorem dX7_isQuashed_0 : decode cX7_isQuashed 0 = .ok (.aload_n 0, 1) := by decide +kernel
theorem dX7_isQuashed_1 : decode cX7_isQuashed 1 = .ok (.aload_n 0, 1) := by decide +kernel
theorem dX7_isQuashed_2 : decode cX7_isQuashed 2 = .ok (.iload_n 1, 1) := by decide +kernel
theorem dX7_isQuashed_3 : decode cX7_isQuashed 3 = .ok (.invokevirtual 216, 3) := by decide +kernel
theorem dX7_isQuashed_6 : decode cX7_isQuashed 6 = .ok (.ifCond .eq 7, 3) := by decide +kernel
theorem dX7_isQuashed_9 : decode cX7_isQuashed 9 = .ok (.iconst 0, 1) := by decide +kernel
theorem dX7_isQuashed_10 : decode cX7_isQuashed 10 = .ok (.goto 4, 3) := by decide +kernel
theorem dX7_isQuashed_13 : decode cX7_isQuashed 13 = .ok (.iconst 1, 1) := by decide +kernel
theorem dX7_isQuashed_14 : decode cX7_isQuashed 14 = .ok (.invokevirtual 126, 3) := by decide +kernel
theorem dX7_isQuashed_17 : decode cX7_isQuashed 17 = .ok (.ifCond .ne 16, 3) := by decide +kernel
theorem dX7_isQuashed_20 : decode cX7_isQuashed 20 = .ok (.aload_n 0, 1) := by decide +kernel
theorem dX7_isQuashed_21 : decode cX7_isQuashed 21 = .ok (.getfield 35, 3) := by decide +kernel
theorem dX7_isQuashed_24 : decode cX7_isQuashed 24 = .ok (.iload_n 1, 1) := by decide +kernel
theorem dX7_isQuashed_25 : decode cX7_isQuashed 25 = .ok (.baload, 1) := by decide +kernel
theorem dX7_isQuashed_26 : decode cX7_isQuashed 26 = .ok (.ifCond .eq 7, 3) := by decide +kernel
theorem dX7_isQuashed_29 : decode cX7_isQuashed 29 = .ok (.iconst 1, 1) := by decide +kernel
theorem dX7_isQuashed_30 : decode cX7_isQuashed 30 = .ok (.goto 4, 3) := by decide +kernel
theorem dX7_isQuashed_33 : decode cX7_isQuashed 33 = .ok (.iconst 0, 1) := by decide +kernel
theorem dX7_isQuashed_34 : decode cX7_isQuashed 34 = .ok (.ireturn, 1) := by decide +kernel
theorem dX7_failsFor_0 : decode cX7_failsFor 0 = .ok (.aload_n 0, 1) := by decide +kernel
theorem dX7_failsFor_1 : decode cX7_failsFor 1 = .ok (.aload_n 0, 1) := by decide +kernel
theorem dX7_failsFor_2 : decode cX7_failsFor 2 = .ok (.iload_n 1, 1) := by decide +kernel
theorem dX7_failsFor_3 : decode cX7_failsFor 3 = .ok (.invokevirtual 216, 3) := by decide +kernel
theorem dX7_failsFor_6 : decode cX7_failsFor 6 = .ok (.ifCond .ne 7, 3) := by decide +kernel
theorem dX7_failsFor_9 : decode cX7_failsFor 9 = .ok (.iconst 1, 1) := by decide +kernel
theorem dX7_failsFor_10 : decode cX7_failsFor 10 = .ok (.goto 16, 3) := by decide +kernel
theorem dX7_failsFor_13 : decode cX7_failsFor 13 = .ok (.aload_n 0, 1) := by decide +kernel
theorem dX7_failsFor_14 : decode cX7_failsFor 14 = .ok (.iload_n 1, 1) := by decide +kernel
theorem dX7_failsFor_15 : decode cX7_failsFor 15 = .ok (.invokevirtual 165, 3) := by decide +kernel
theorem dX7_failsFor_18 : decode cX7_failsFor 18 = .ok (.ifCond .eq 7, 3) := by decide +kernel
theorem dX7_failsFor_21 : decode cX7_failsFor 21 = .ok (.iconst 0, 1) := by decide +kernel
theorem dX7_failsFor_22 : decode cX7_failsFor 22 = .ok (.goto 4, 3) := by decide +kernel
theorem dX7_failsFor_25 : decode cX7_failsFor 25 = .ok (.iconst 2, 1) := by decide +kernel
theorem dX7_failsFor_26 : decode cX7_failsFor 26 = .ok (.invokevirtual 126, 3) := by decide +kernel
theorem dX7_failsFor_29 : decode cX7_failsFor 29 = .ok (.ireturn, 1) := by decide +kernel
theorem dX7_parentOf_0 : decode cX7_parentOf 0 = .ok (.aload_n 0, 1) := by decide +kernel
theorem dX7_parentOf_1 : decode cX7_parentOf 1 = .ok (.iload_n 1, 1) := by decide +kernel
theorem dX7_parentOf_2 : decode cX7_parentOf 2 = .ok (.invokevirtual 242, 3) := by decide +kernel
theorem dX7_parentOf_5 : decode cX7_parentOf 5 = .ok (.ifCond .ne 25, 3) := by decide +kernel
theorem dX7_parentOf_8 : decode cX7_parentOf 8 = .ok (.aload_n 0, 1) := by decide +kernel
theorem dX7_parentOf_9 : decode cX7_parentOf 9 = .ok (.aload_n 0, 1) := by decide +kernel
theorem dX7_parentOf_10 : decode cX7_parentOf 10 = .ok (.getfield 32, 3) := by decide +kernel
theorem dX7_parentOf_13 : decode cX7_parentOf 13 = .ok (.iload_n 1, 1) := by decide +kernel
theorem dX7_parentOf_14 : decode cX7_parentOf 14 = .ok (.iaload, 1) := by decide +kernel
theorem dX7_parentOf_15 : decode cX7_parentOf 15 = .ok (.iconst (-1), 1) := by decide +kernel
theorem dX7_parentOf_16 : decode cX7_parentOf 16 = .ok (.if_icmp .ne 7, 3) := by decide +kernel
theorem dX7_parentOf_19 : decode cX7_parentOf 19 = .ok (.iconst 3, 1) := by decide +kernel
theorem dX7_parentOf_20 : decode cX7_parentOf 20 = .ok (.goto 4, 3) := by decide +kernel
theorem dX7_parentOf_23 : decode cX7_parentOf 23 = .ok (.iconst 0, 1) := by decide +kernel
theorem dX7_parentOf_24 : decode cX7_parentOf 24 = .ok (.invokevirtual 126, 3) := by decide +kernel
theorem dX7_parentOf_27 : decode cX7_parentOf 27 = .ok (.ifCond .eq 5, 3) := by decide +kernel
theorem dX7_parentOf_30 : decode cX7_parentOf 30 = .ok (.iconst 0, 1) := by decide +kernel
theorem dX7_parentOf_31 : decode cX7_parentOf 31 = .ok (.ireturn, 1) := by decide +kernel
theorem dX7_parentOf_32 : decode cX7_parentOf 32 = .ok (.aload_n 0, 1) := by decide +kernel
theorem dX7_parentOf_33 : decode cX7_parentOf 33 = .ok (.getfield 32, 3) := by decide +kernel
theorem dX7_parentOf_36 : decode cX7_parentOf 36 = .ok (.iload_n 1, 1) := by decide +kernel
theorem dX7_parentOf_37 : decode cX7_parentOf 37 = .ok (.iaload, 1) := by decide +kernel
theorem dX7_parentOf_38 : decode cX7_parentOf 38 = .ok (.ireturn, 1) := by decide +kernel
theorem dX7_chainLength_0 : decode cX7_chainLength 0 = .ok (.aload_n 0, 1) := by decide +kernel
theorem dX7_chainLength_1 : decode cX7_chainLength 1 = .ok (.iload_n 1, 1) := by decide +kernel
theorem dX7_chainLength_2 : decode cX7_chainLength 2 = .ok (.invokevirtual 242, 3) := by decide +kernel
theorem dX7_chainLength_5 : decode cX7_chainLength 5 = .ok (.ifCond .eq 7, 3) := by decide +kernel
theorem dX7_chainLength_8 : decode cX7_chainLength 8 = .ok (.iconst 0, 1) := by decide +kernel
theorem dX7_chainLength_9 : decode cX7_chainLength 9 = .ok (.goto 8, 3) := by decide +kernel
theorem dX7_chainLength_12 : decode cX7_chainLength 12 = .ok (.aload_n 0, 1) := by decide +kernel
theorem dX7_chainLength_13 : decode cX7_chainLength 13 = .ok (.iload_n 1, 1) := by decide +kernel
theorem dX7_chainLength_14 : decode cX7_chainLength 14 = .ok (.invokevirtual 245, 3) := by decide +kernel
theorem dX7_chainLength_17 : decode cX7_chainLength 17 = .ok (.ireturn, 1) := by decide +kernel
theorem dX7_descendants_0 : decode cX7_descendants 0 = .ok (.aload_n 0, 1) := by decide +kernel
theorem dX7_descendants_1 : decode cX7_descendants 1 = .ok (.iload_n 1, 1) := by decide +kernel
theorem dX7_descendants_2 : decode cX7_descendants 2 = .ok (.invokevirtual 242, 3) := by decide +kernel
theorem dX7_descendants_5 : decode cX7_descendants 5 = .ok (.ifCond .eq 5, 3) := by decide +kernel
theorem dX7_descendants_8 : decode cX7_descendants 8 = .ok (.iconst 0, 1) := by decide +kernel
theorem dX7_descendants_9 : decode cX7_descendants 9 = .ok (.ireturn, 1) := by decide +kernel
theorem dX7_descendants_10 : decode cX7_descendants 10 = .ok (.iconst 0, 1) := by decide +kernel
theorem dX7_descendants_11 : decode cX7_descendants 11 = .ok (.istore_n 2, 1) := by decide +kernel
theorem dX7_descendants_12 : decode cX7_descendants 12 = .ok (.iconst 0, 1) := by decide +kernel
theorem dX7_descendants_13 : decode cX7_descendants 13 = .ok (.istore_n 3, 1) := by decide +kernel
theorem dX7_descendants_14 : decode cX7_descendants 14 = .ok (.iload_n 3, 1) := by decide +kernel
theorem dX7_descendants_15 : decode cX7_descendants 15 = .ok (.aload_n 0, 1) := by decide +kernel
theorem dX7_descendants_16 : decode cX7_descendants 16 = .ok (.getfield 140, 3) := by decide +kernel
theorem dX7_descendants_19 : decode cX7_descendants 19 = .ok (.if_icmp .ge 39, 3) := by decide +kernel
theorem dX7_descendants_22 : decode cX7_descendants 22 = .ok (.iload_n 2, 1) := by decide +kernel
theorem dX7_descendants_23 : decode cX7_descendants 23 = .ok (.iload_n 3, 1) := by decide +kernel
theorem dX7_descendants_24 : decode cX7_descendants 24 = .ok (.iload_n 1, 1) := by decide +kernel
theorem dX7_descendants_25 : decode cX7_descendants 25 = .ok (.if_icmp .eq 24, 3) := by decide +kernel
theorem dX7_descendants_28 : decode cX7_descendants 28 = .ok (.aload_n 0, 1) := by decide +kernel
theorem dX7_descendants_29 : decode cX7_descendants 29 = .ok (.iload_n 3, 1) := by decide +kernel
theorem dX7_descendants_30 : decode cX7_descendants 30 = .ok (.invokevirtual 165, 3) := by decide +kernel
theorem dX7_descendants_33 : decode cX7_descendants 33 = .ok (.ifCond .eq 16, 3) := by decide +kernel
theorem dX7_descendants_36 : decode cX7_descendants 36 = .ok (.aload_n 0, 1) := by decide +kernel
theorem dX7_descendants_37 : decode cX7_descendants 37 = .ok (.iload_n 1, 1) := by decide +kernel
theorem dX7_descendants_38 : decode cX7_descendants 38 = .ok (.iload_n 3, 1) := by decide +kernel
theorem dX7_descendants_39 : decode cX7_descendants 39 = .ok (.invokevirtual 146, 3) := by decide +kernel
theorem dX7_descendants_42 : decode cX7_descendants 42 = .ok (.ifCond .eq 7, 3) := by decide +kernel
theorem dX7_descendants_45 : decode cX7_descendants 45 = .ok (.iconst 1, 1) := by decide +kernel
theorem dX7_descendants_46 : decode cX7_descendants 46 = .ok (.goto 4, 3) := by decide +kernel
theorem dX7_descendants_49 : decode cX7_descendants 49 = .ok (.iconst 0, 1) := by decide +kernel
theorem dX7_descendants_50 : decode cX7_descendants 50 = .ok (.iadd, 1) := by decide +kernel
theorem dX7_descendants_51 : decode cX7_descendants 51 = .ok (.istore_n 2, 1) := by decide +kernel
theorem dX7_descendants_52 : decode cX7_descendants 52 = .ok (.iinc 3 1, 3) := by decide +kernel
theorem dX7_descendants_55 : decode cX7_descendants 55 = .ok (.goto (-41), 3) := by decide +kernel
theorem dX7_descendants_58 : decode cX7_descendants 58 = .ok (.iload_n 2, 1) := by decide +kernel
theorem dX7_descendants_59 : decode cX7_descendants 59 = .ok (.ireturn, 1) := by decide +kernel
theorem dX7_start_0 : decode cX7_start 0 = .ok (.aload_n 0, 1) := by decide +kernel
theorem dX7_start_1 : decode cX7_start 1 = .ok (.iload_n 1, 1) := by decide +kernel
theorem dX7_start_2 : decode cX7_start 2 = .ok (.invokevirtual 242, 3) := by decide +kernel
theorem dX7_start_5 : decode cX7_start 5 = .ok (.ifCond .eq 7, 3) := by decide +kernel
theorem dX7_start_8 : decode cX7_start 8 = .ok (.iconst 0, 1) := by decide +kernel
theorem dX7_start_9 : decode cX7_start 9 = .ok (.goto 9, 3) := by decide +kernel
theorem dX7_start_12 : decode cX7_start 12 = .ok (.aload_n 0, 1) := by decide +kernel
theorem dX7_start_13 : decode cX7_start 13 = .ok (.getfield 57, 3) := by decide +kernel
theorem dX7_start_16 : decode cX7_start 16 = .ok (.iload_n 1, 1) := by decide +kernel
theorem dX7_start_17 : decode cX7_start 17 = .ok (.iaload, 1) := by decide +kernel
theorem dX7_start_18 : decode cX7_start 18 = .ok (.ireturn, 1) := by decide +kernel
theorem dX7_length_0 : decode cX7_length 0 = .ok (.aload_n 0, 1) := by decide +kernel
theorem dX7_length_1 : decode cX7_length 1 = .ok (.iload_n 1, 1) := by decide +kernel
theorem dX7_length_2 : decode cX7_length 2 = .ok (.invokevirtual 242, 3) := by decide +kernel
theorem dX7_length_5 : decode cX7_length 5 = .ok (.ifCond .eq 7, 3) := by decide +kernel
theorem dX7_length_8 : decode cX7_length 8 = .ok (.iconst 0, 1) := by decide +kernel
theorem dX7_length_9 : decode cX7_length 9 = .ok (.goto 9, 3) := by decide +kernel
theorem dX7_length_12 : decode cX7_length 12 = .ok (.aload_n 0, 1) := by decide +kernel
theorem dX7_length_13 : decode cX7_length 13 = .ok (.getfield 60, 3) := by decide +kernel
theorem dX7_length_16 : decode cX7_length 16 = .ok (.iload_n 1, 1) := by decide +kernel
theorem dX7_length_17 : decode cX7_length 17 = .ok (.iaload, 1) := by decide +kernel
theorem dX7_length_18 : decode cX7_length 18 = .ok (.ireturn, 1) := by decide +kernel
theorem dX7_totalLength_0 : decode cX7_totalLength 0 = .ok (.aload_n 0, 1) := by decide +kernel
theorem dX7_totalLength_1 : decode cX7_totalLength 1 = .ok (.iload_n 1, 1) := by decide +kernel
theorem dX7_totalLength_2 : decode cX7_totalLength 2 = .ok (.invokevirtual 242, 3) := by decide +kernel
theorem dX7_totalLength_5 : decode cX7_totalLength 5 = .ok (.ifCond .eq 7, 3) := by decide +kernel
theorem dX7_totalLength_8 : decode cX7_totalLength 8 = .ok (.iconst 0, 1) := by decide +kernel
theorem dX7_totalLength_9 : decode cX7_totalLength 9 = .ok (.goto 9, 3) := by decide +kernel
theorem dX7_totalLength_12 : decode cX7_totalLength 12 = .ok (.aload_n 0, 1) := by decide +kernel
theorem dX7_totalLength_13 : decode cX7_totalLength 13 = .ok (.getfield 69, 3) := by decide +kernel
theorem dX7_totalLength_16 : decode cX7_totalLength 16 = .ok (.iload_n 1, 1) := by decide +kernel
theorem dX7_totalLength_17 : decode cX7_totalLength 17 = .ok (.iaload, 1) := by decide +kernel
theorem dX7_totalLength_18 : decode cX7_totalLength 18 = .ok (.ireturn, 1) := by decide +kernel
theorem dX7_custodialPart_0 : decode cX7_custodialPart 0 = .ok (.aload_n 0, 1) := by decide +kernel
theorem dX7_custodialPart_1 : decode cX7_custodialPart 1 = .ok (.iload_n 1, 1) := by decide +kernel
theorem dX7_custodialPart_2 : decode cX7_custodialPart 2 = .ok (.invokevirtual 242, 3) := by decide +kernel
theorem dX7_custodialPart_5 : decode cX7_custodialPart 5 = .ok (.ifCond .eq 7, 3) := by decide +kernel
theorem dX7_custodialPart_8 : decode cX7_custodialPart 8 = .ok (.iconst 0, 1) := by decide +kernel
theorem dX7_custodialPart_9 : decode cX7_custodialPart 9 = .ok (.goto 9, 3) := by decide +kernel
theorem dX7_custodialPart_12 : decode cX7_custodialPart 12 = .ok (.aload_n 0, 1) := by decide +kernel
theorem dX7_custodialPart_13 : decode cX7_custodialPart 13 = .ok (.getfield 72, 3) := by decide +kernel
theorem dX7_custodialPart_16 : decode cX7_custodialPart 16 = .ok (.iload_n 1, 1) := by decide +kernel
theorem dX7_custodialPart_17 : decode cX7_custodialPart 17 = .ok (.iaload, 1) := by decide +kernel
theorem dX7_custodialPart_18 : decode cX7_custodialPart 18 = .ok (.ireturn, 1) := by decide +kernel
theorem dX7_credit_0 : decode cX7_credit 0 = .ok (.aload_n 0, 1) := by decide +kernel
theorem dX7_credit_1 : decode cX7_credit 1 = .ok (.iload_n 1, 1) := by decide +kernel
theorem dX7_credit_2 : decode cX7_credit 2 = .ok (.invokevirtual 242, 3) := by decide +kernel
theorem dX7_credit_5 : decode cX7_credit 5 = .ok (.ifCond .eq 7, 3) := by decide +kernel
theorem dX7_credit_8 : decode cX7_credit 8 = .ok (.iconst 0, 1) := by decide +kernel
theorem dX7_credit_9 : decode cX7_credit 9 = .ok (.goto 9, 3) := by decide +kernel
theorem dX7_credit_12 : decode cX7_credit 12 = .ok (.aload_n 0, 1) := by decide +kernel
theorem dX7_credit_13 : decode cX7_credit 13 = .ok (.getfield 75, 3) := by decide +kernel
theorem dX7_credit_16 : decode cX7_credit 16 = .ok (.iload_n 1, 1) := by decide +kernel
theorem dX7_credit_17 : decode cX7_credit 17 = .ok (.iaload, 1) := by decide +kernel
theorem dX7_credit_18 : decode cX7_credit 18 = .ok (.ireturn, 1) := by decide +kernel
theorem dX7_creditByMerging_0 : decode cX7_creditByMerging 0 = .ok (.aload_n 0, 1) := by decide +kernel
theorem dX7_creditByMerging_1 : decode cX7_creditByMerging 1 = .ok (.iload_n 1, 1) := by decide +kernel
theorem dX7_creditByMerging_2 : decode cX7_creditByMerging 2 = .ok (.invokevirtual 248, 3) := by decide +kernel
theorem dX7_creditByMerging_5 : decode cX7_creditByMerging 5 = .ok (.ireturn, 1) := by decide +kernel
theorem dX7_addedDays_0 : decode cX7_addedDays 0 = .ok (.aload_n 0, 1) := by decide +kernel
theorem dX7_addedDays_1 : decode cX7_addedDays 1 = .ok (.iload_n 1, 1) := by decide +kernel
theorem dX7_addedDays_2 : decode cX7_addedDays 2 = .ok (.invokevirtual 242, 3) := by decide +kernel
theorem dX7_addedDays_5 : decode cX7_addedDays 5 = .ok (.ifCond .eq 7, 3) := by decide +kernel
theorem dX7_addedDays_8 : decode cX7_addedDays 8 = .ok (.iconst 0, 1) := by decide +kernel
theorem dX7_addedDays_9 : decode cX7_addedDays 9 = .ok (.goto 9, 3) := by decide +kernel
theorem dX7_addedDays_12 : decode cX7_addedDays 12 = .ok (.aload_n 0, 1) := by decide +kernel
theorem dX7_addedDays_13 : decode cX7_addedDays 13 = .ok (.getfield 78, 3) := by decide +kernel
theorem dX7_addedDays_16 : decode cX7_addedDays 16 = .ok (.iload_n 1, 1) := by decide +kernel
theorem dX7_addedDays_17 : decode cX7_addedDays 17 = .ok (.iaload, 1) := by decide +kernel
theorem dX7_addedDays_18 : decode cX7_addedDays 18 = .ok (.ireturn, 1) := by decide +kernel
theorem dX7_releaseDay_0 : decode cX7_releaseDay 0 = .ok (.aload_n 0, 1) := by decide +kernel
theorem dX7_releaseDay_1 : decode cX7_releaseDay 1 = .ok (.iload_n 1, 1) := by decide +kernel
theorem dX7_releaseDay_2 : decode cX7_releaseDay 2 = .ok (.invokevirtual 242, 3) := by decide +kernel
theorem dX7_releaseDay_5 : decode cX7_releaseDay 5 = .ok (.ifCond .eq 7, 3) := by decide +kernel
theorem dX7_releaseDay_8 : decode cX7_releaseDay 8 = .ok (.iconst 0, 1) := by decide +kernel
theorem dX7_releaseDay_9 : decode cX7_releaseDay 9 = .ok (.goto 9, 3) := by decide +kernel
theorem dX7_releaseDay_12 : decode cX7_releaseDay 12 = .ok (.aload_n 0, 1) := by decide +kernel
theorem dX7_releaseDay_13 : decode cX7_releaseDay 13 = .ok (.getfield 81, 3) := by decide +kernel
theorem dX7_releaseDay_16 : decode cX7_releaseDay 16 = .ok (.iload_n 1, 1) := by decide +kernel
theorem dX7_releaseDay_17 : decode cX7_releaseDay 17 = .ok (.iaload, 1) := by decide +kernel
theorem dX7_releaseDay_18 : decode cX7_releaseDay 18 = .ok (.ireturn, 1) := by decide +kernel
theorem dX7_releaseDayByServing_0 : decode cX7_releaseDayByServing 0 = .ok (.aload_n 0, 1) := by decide +kernel
theorem dX7_releaseDayByServing_1 : decode cX7_releaseDayByServing 1 = .ok (.iload_n 1, 1) := by decide +kernel
theorem dX7_releaseDayByServing_2 : decode cX7_releaseDayByServing 2 = .ok (.invokevirtual 251, 3) := by decide +kernel
theorem dX7_releaseDayByServing_5 : decode cX7_releaseDayByServing 5 = .ok (.ireturn, 1) := by decide +kernel
theorem dX7_endDay_0 : decode cX7_endDay 0 = .ok (.aload_n 0, 1) := by decide +kernel
theorem dX7_endDay_1 : decode cX7_endDay 1 = .ok (.iload_n 1, 1) := by decide +kernel
theorem dX7_endDay_2 : decode cX7_endDay 2 = .ok (.invokevirtual 242, 3) := by decide +kernel
theorem dX7_endDay_5 : decode cX7_endDay 5 = .ok (.ifCond .eq 7, 3) := by decide +kernel
theorem dX7_endDay_8 : decode cX7_endDay 8 = .ok (.iconst 0, 1) := by decide +kernel
theorem dX7_endDay_9 : decode cX7_endDay 9 = .ok (.goto 9, 3) := by decide +kernel
theorem dX7_endDay_12 : decode cX7_endDay 12 = .ok (.aload_n 0, 1) := by decide +kernel
theorem dX7_endDay_13 : decode cX7_endDay 13 = .ok (.getfield 84, 3) := by decide +kernel
theorem dX7_endDay_16 : decode cX7_endDay 16 = .ok (.iload_n 1, 1) := by decide +kernel
theorem dX7_endDay_17 : decode cX7_endDay 17 = .ok (.iaload, 1) := by decide +kernel
theorem dX7_endDay_18 : decode cX7_endDay 18 = .ok (.ireturn, 1) := by decide +kernel
theorem dX7_status_0 : decode cX7_status 0 = .ok (.aload_n 0, 1) := by decide +kernel
theorem dX7_status_1 : decode cX7_status 1 = .ok (.iconst 0, 1) := by decide +kernel
theorem dX7_status_2 : decode cX7_status 2 = .ok (.putfield 93, 3) := by decide +kernel
theorem dX7_status_5 : decode cX7_status 5 = .ok (.aload_n 0, 1) := by decide +kernel
theorem dX7_status_6 : decode cX7_status 6 = .ok (.invokevirtual 234, 3) := by decide +kernel
theorem dX7_status_9 : decode cX7_status 9 = .ok (.ireturn, 1) := by decide +kernel
theorem dX7_lastRelease_0 : decode cX7_lastRelease 0 = .ok (.aload_n 0, 1) := by decide +kernel
theorem dX7_lastRelease_1 : decode cX7_lastRelease 1 = .ok (.aload_n 0, 1) := by decide +kernel
theorem dX7_lastRelease_2 : decode cX7_lastRelease 2 = .ok (.invokevirtual 254, 3) := by decide +kernel
theorem dX7_lastRelease_5 : decode cX7_lastRelease 5 = .ok (.ifCond .eq 7, 3) := by decide +kernel
theorem dX7_lastRelease_8 : decode cX7_lastRelease 8 = .ok (.iconst 0, 1) := by decide +kernel
theorem dX7_lastRelease_9 : decode cX7_lastRelease 9 = .ok (.goto 4, 3) := by decide +kernel
theorem dX7_lastRelease_12 : decode cX7_lastRelease 12 = .ok (.iconst 1, 1) := by decide +kernel
theorem dX7_lastRelease_13 : decode cX7_lastRelease 13 = .ok (.invokevirtual 126, 3) := by decide +kernel
theorem dX7_lastRelease_16 : decode cX7_lastRelease 16 = .ok (.ifCond .eq 7, 3) := by decide +kernel
theorem dX7_lastRelease_19 : decode cX7_lastRelease 19 = .ok (.iconst 0, 1) := by decide +kernel
theorem dX7_lastRelease_20 : decode cX7_lastRelease 20 = .ok (.goto 7, 3) := by decide +kernel
theorem dX7_lastRelease_23 : decode cX7_lastRelease 23 = .ok (.aload_n 0, 1) := by decide +kernel
theorem dX7_lastRelease_24 : decode cX7_lastRelease 24 = .ok (.invokevirtual 190, 3) := by decide +kernel
theorem dX7_lastRelease_27 : decode cX7_lastRelease 27 = .ok (.ireturn, 1) := by decide +kernel
theorem dX7_lastEnd_0 : decode cX7_lastEnd 0 = .ok (.aload_n 0, 1) := by decide +kernel
theorem dX7_lastEnd_1 : decode cX7_lastEnd 1 = .ok (.aload_n 0, 1) := by decide +kernel
theorem dX7_lastEnd_2 : decode cX7_lastEnd 2 = .ok (.invokevirtual 254, 3) := by decide +kernel
theorem dX7_lastEnd_5 : decode cX7_lastEnd 5 = .ok (.ifCond .eq 7, 3) := by decide +kernel
theorem dX7_lastEnd_8 : decode cX7_lastEnd 8 = .ok (.iconst 0, 1) := by decide +kernel
theorem dX7_lastEnd_9 : decode cX7_lastEnd 9 = .ok (.goto 4, 3) := by decide +kernel
theorem dX7_lastEnd_12 : decode cX7_lastEnd 12 = .ok (.iconst 1, 1) := by decide +kernel
theorem dX7_lastEnd_13 : decode cX7_lastEnd 13 = .ok (.invokevirtual 126, 3) := by decide +kernel
theorem dX7_lastEnd_16 : decode cX7_lastEnd 16 = .ok (.ifCond .eq 7, 3) := by decide +kernel
theorem dX7_lastEnd_19 : decode cX7_lastEnd 19 = .ok (.iconst 0, 1) := by decide +kernel
theorem dX7_lastEnd_20 : decode cX7_lastEnd 20 = .ok (.goto 7, 3) := by decide +kernel
theorem dX7_lastEnd_23 : decode cX7_lastEnd 23 = .ok (.aload_n 0, 1) := by decide +kernel
theorem dX7_lastEnd_24 : decode cX7_lastEnd 24 = .ok (.invokevirtual 197, 3) := by decide +kernel
theorem dX7_lastEnd_27 : decode cX7_lastEnd 27 = .ok (.ireturn, 1) := by decide +kernel
theorem dX7_decidingTerm_0 : decode cX7_decidingTerm 0 = .ok (.aload_n 0, 1) := by decide +kernel
theorem dX7_decidingTerm_1 : decode cX7_decidingTerm 1 = .ok (.aload_n 0, 1) := by decide +kernel
theorem dX7_decidingTerm_2 : decode cX7_decidingTerm 2 = .ok (.invokevirtual 254, 3) := by decide +kernel
theorem dX7_decidingTerm_5 : decode cX7_decidingTerm 5 = .ok (.ifCond .eq 7, 3) := by decide +kernel
theorem dX7_decidingTerm_8 : decode cX7_decidingTerm 8 = .ok (.iconst 0, 1) := by decide +kernel
theorem dX7_decidingTerm_9 : decode cX7_decidingTerm 9 = .ok (.goto 4, 3) := by decide +kernel
theorem dX7_decidingTerm_12 : decode cX7_decidingTerm 12 = .ok (.iconst 1, 1) := by decide +kernel
theorem dX7_decidingTerm_13 : decode cX7_decidingTerm 13 = .ok (.invokevirtual 126, 3) := by decide +kernel
theorem dX7_decidingTerm_16 : decode cX7_decidingTerm 16 = .ok (.ifCond .eq 5, 3) := by decide +kernel
theorem dX7_decidingTerm_19 : decode cX7_decidingTerm 19 = .ok (.iconst 0, 1) := by decide +kernel
theorem dX7_decidingTerm_20 : decode cX7_decidingTerm 20 = .ok (.ireturn, 1) := by decide +kernel
theorem dX7_decidingTerm_21 : decode cX7_decidingTerm 21 = .ok (.iconst 0, 1) := by decide +kernel
theorem dX7_decidingTerm_22 : decode cX7_decidingTerm 22 = .ok (.istore_n 1, 1) := by decide +kernel
theorem dX7_decidingTerm_23 : decode cX7_decidingTerm 23 = .ok (.aload_n 0, 1) := by decide +kernel
theorem dX7_decidingTerm_24 : decode cX7_decidingTerm 24 = .ok (.iload_n 1, 1) := by decide +kernel
theorem dX7_decidingTerm_25 : decode cX7_decidingTerm 25 = .ok (.invokevirtual 165, 3) := by decide +kernel
theorem dX7_decidingTerm_28 : decode cX7_decidingTerm 28 = .ok (.ifCond .eq 16, 3) := by decide +kernel
theorem dX7_decidingTerm_31 : decode cX7_decidingTerm 31 = .ok (.aload_n 0, 1) := by decide +kernel
theorem dX7_decidingTerm_32 : decode cX7_decidingTerm 32 = .ok (.getfield 81, 3) := by decide +kernel
theorem dX7_decidingTerm_35 : decode cX7_decidingTerm 35 = .ok (.iload_n 1, 1) := by decide +kernel
theorem dX7_decidingTerm_36 : decode cX7_decidingTerm 36 = .ok (.iaload, 1) := by decide +kernel
theorem dX7_decidingTerm_37 : decode cX7_decidingTerm 37 = .ok (.aload_n 0, 1) := by decide +kernel
theorem dX7_decidingTerm_38 : decode cX7_decidingTerm 38 = .ok (.invokevirtual 190, 3) := by decide +kernel
theorem dX7_decidingTerm_41 : decode cX7_decidingTerm 41 = .ok (.if_icmp .ge 9, 3) := by decide +kernel
theorem dX7_decidingTerm_44 : decode cX7_decidingTerm 44 = .ok (.iinc 1 1, 3) := by decide +kernel
theorem dX7_decidingTerm_47 : decode cX7_decidingTerm 47 = .ok (.goto (-24), 3) := by decide +kernel
theorem dX7_decidingTerm_50 : decode cX7_decidingTerm 50 = .ok (.iload_n 1, 1) := by decide +kernel
theorem dX7_decidingTerm_51 : decode cX7_decidingTerm 51 = .ok (.ireturn, 1) := by decide +kernel
theorem dX7_isAhead_0 : decode cX7_isAhead 0 = .ok (.aload_n 0, 1) := by decide +kernel
theorem dX7_isAhead_1 : decode cX7_isAhead 1 = .ok (.getfield 81, 3) := by decide +kernel
theorem dX7_isAhead_4 : decode cX7_isAhead 4 = .ok (.iload_n 1, 1) := by decide +kernel
theorem dX7_isAhead_5 : decode cX7_isAhead 5 = .ok (.iaload, 1) := by decide +kernel
theorem dX7_isAhead_6 : decode cX7_isAhead 6 = .ok (.aload_n 0, 1) := by decide +kernel
theorem dX7_isAhead_7 : decode cX7_isAhead 7 = .ok (.getfield 81, 3) := by decide +kernel
theorem dX7_isAhead_10 : decode cX7_isAhead 10 = .ok (.iload_n 2, 1) := by decide +kernel
theorem dX7_isAhead_11 : decode cX7_isAhead 11 = .ok (.iaload, 1) := by decide +kernel
theorem dX7_isAhead_12 : decode cX7_isAhead 12 = .ok (.isub, 1) := by decide +kernel
theorem dX7_isAhead_13 : decode cX7_isAhead 13 = .ok (.istore_n 3, 1) := by decide +kernel
theorem dX7_isAhead_14 : decode cX7_isAhead 14 = .ok (.iload_n 3, 1) := by decide +kernel
theorem dX7_isAhead_15 : decode cX7_isAhead 15 = .ok (.ifCond .ne 19, 3) := by decide +kernel
theorem dX7_isAhead_18 : decode cX7_isAhead 18 = .ok (.aload_n 0, 1) := by decide +kernel
theorem dX7_isAhead_19 : decode cX7_isAhead 19 = .ok (.getfield 84, 3) := by decide +kernel
theorem dX7_isAhead_22 : decode cX7_isAhead 22 = .ok (.iload_n 1, 1) := by decide +kernel
theorem dX7_isAhead_23 : decode cX7_isAhead 23 = .ok (.iaload, 1) := by decide +kernel
theorem dX7_isAhead_24 : decode cX7_isAhead 24 = .ok (.aload_n 0, 1) := by decide +kernel
theorem dX7_isAhead_25 : decode cX7_isAhead 25 = .ok (.getfield 84, 3) := by decide +kernel
theorem dX7_isAhead_28 : decode cX7_isAhead 28 = .ok (.iload_n 2, 1) := by decide +kernel
theorem dX7_isAhead_29 : decode cX7_isAhead 29 = .ok (.iaload, 1) := by decide +kernel
theorem dX7_isAhead_30 : decode cX7_isAhead 30 = .ok (.isub, 1) := by decide +kernel
theorem dX7_isAhead_31 : decode cX7_isAhead 31 = .ok (.goto 4, 3) := by decide +kernel
theorem dX7_isAhead_34 : decode cX7_isAhead 34 = .ok (.iload_n 3, 1) := by decide +kernel
theorem dX7_isAhead_35 : decode cX7_isAhead 35 = .ok (.istore_n 3, 1) := by decide +kernel
theorem dX7_isAhead_36 : decode cX7_isAhead 36 = .ok (.iload_n 3, 1) := by decide +kernel
theorem dX7_isAhead_37 : decode cX7_isAhead 37 = .ok (.ifCond .lt 12, 3) := by decide +kernel
theorem dX7_isAhead_40 : decode cX7_isAhead 40 = .ok (.iload_n 3, 1) := by decide +kernel
theorem dX7_isAhead_41 : decode cX7_isAhead 41 = .ok (.ifCond .ne 12, 3) := by decide +kernel
theorem dX7_isAhead_44 : decode cX7_isAhead 44 = .ok (.iload_n 1, 1) := by decide +kernel
theorem dX7_isAhead_45 : decode cX7_isAhead 45 = .ok (.iload_n 2, 1) := by decide +kernel
theorem dX7_isAhead_46 : decode cX7_isAhead 46 = .ok (.if_icmp .ge 7, 3) := by decide +kernel
theorem dX7_isAhead_49 : decode cX7_isAhead 49 = .ok (.iconst 1, 1) := by decide +kernel
theorem dX7_isAhead_50 : decode cX7_isAhead 50 = .ok (.goto 4, 3) := by decide +kernel
theorem dX7_isAhead_53 : decode cX7_isAhead 53 = .ok (.iconst 0, 1) := by decide +kernel
theorem dX7_isAhead_54 : decode cX7_isAhead 54 = .ok (.ireturn, 1) := by decide +kernel
theorem dX7_rank_0 : decode cX7_rank 0 = .ok (.iconst 0, 1) := by decide +kernel
theorem dX7_rank_1 : decode cX7_rank 1 = .ok (.istore_n 2, 1) := by decide +kernel
theorem dX7_rank_2 : decode cX7_rank 2 = .ok (.iconst 0, 1) := by decide +kernel
theorem dX7_rank_3 : decode cX7_rank 3 = .ok (.istore_n 3, 1) := by decide +kernel
theorem dX7_rank_4 : decode cX7_rank 4 = .ok (.iload_n 3, 1) := by decide +kernel
theorem dX7_rank_5 : decode cX7_rank 5 = .ok (.aload_n 0, 1) := by decide +kernel
theorem dX7_rank_6 : decode cX7_rank 6 = .ok (.getfield 140, 3) := by decide +kernel
theorem dX7_rank_9 : decode cX7_rank 9 = .ok (.if_icmp .ge 34, 3) := by decide +kernel
theorem dX7_rank_12 : decode cX7_rank 12 = .ok (.iload_n 2, 1) := by decide +kernel
theorem dX7_rank_13 : decode cX7_rank 13 = .ok (.aload_n 0, 1) := by decide +kernel
theorem dX7_rank_14 : decode cX7_rank 14 = .ok (.iload_n 3, 1) := by decide +kernel
theorem dX7_rank_15 : decode cX7_rank 15 = .ok (.invokevirtual 165, 3) := by decide +kernel
theorem dX7_rank_18 : decode cX7_rank 18 = .ok (.ifCond .eq 16, 3) := by decide +kernel
theorem dX7_rank_21 : decode cX7_rank 21 = .ok (.aload_n 0, 1) := by decide +kernel
theorem dX7_rank_22 : decode cX7_rank 22 = .ok (.iload_n 3, 1) := by decide +kernel
theorem dX7_rank_23 : decode cX7_rank 23 = .ok (.iload_n 1, 1) := by decide +kernel
theorem dX7_rank_24 : decode cX7_rank 24 = .ok (.invokevirtual 257, 3) := by decide +kernel
theorem dX7_rank_27 : decode cX7_rank 27 = .ok (.ifCond .eq 7, 3) := by decide +kernel
theorem dX7_rank_30 : decode cX7_rank 30 = .ok (.iconst 1, 1) := by decide +kernel
theorem dX7_rank_31 : decode cX7_rank 31 = .ok (.goto 4, 3) := by decide +kernel
theorem dX7_rank_34 : decode cX7_rank 34 = .ok (.iconst 0, 1) := by decide +kernel
theorem dX7_rank_35 : decode cX7_rank 35 = .ok (.iadd, 1) := by decide +kernel
theorem dX7_rank_36 : decode cX7_rank 36 = .ok (.istore_n 2, 1) := by decide +kernel
theorem dX7_rank_37 : decode cX7_rank 37 = .ok (.iinc 3 1, 3) := by decide +kernel
theorem dX7_rank_40 : decode cX7_rank 40 = .ok (.goto (-36), 3) := by decide +kernel
theorem dX7_rank_43 : decode cX7_rank 43 = .ok (.iload_n 2, 1) := by decide +kernel
theorem dX7_rank_44 : decode cX7_rank 44 = .ok (.ireturn, 1) := by decide +kernel
theorem dX7_termByRelease_0 : decode cX7_termByRelease 0 = .ok (.iconst (-1), 1) := by decide +kernel
theorem dX7_termByRelease_1 : decode cX7_termByRelease 1 = .ok (.istore_n 2, 1) := by decide +kernel
theorem dX7_termByRelease_2 : decode cX7_termByRelease 2 = .ok (.iconst 0, 1) := by decide +kernel
theorem dX7_termByRelease_3 : decode cX7_termByRelease 3 = .ok (.istore_n 3, 1) := by decide +kernel
theorem dX7_termByRelease_4 : decode cX7_termByRelease 4 = .ok (.iload_n 3, 1) := by decide +kernel
theorem dX7_termByRelease_5 : decode cX7_termByRelease 5 = .ok (.aload_n 0, 1) := by decide +kernel
theorem dX7_termByRelease_6 : decode cX7_termByRelease 6 = .ok (.getfield 140, 3) := by decide +kernel
theorem dX7_termByRelease_9 : decode cX7_termByRelease 9 = .ok (.if_icmp .ge 36, 3) := by decide +kernel
theorem dX7_termByRelease_12 : decode cX7_termByRelease 12 = .ok (.iload_n 1, 1) := by decide +kernel
theorem dX7_termByRelease_13 : decode cX7_termByRelease 13 = .ok (.ifCond .lt 32, 3) := by decide +kernel
theorem dX7_termByRelease_16 : decode cX7_termByRelease 16 = .ok (.aload_n 0, 1) := by decide +kernel
theorem dX7_termByRelease_17 : decode cX7_termByRelease 17 = .ok (.iload_n 3, 1) := by decide +kernel
theorem dX7_termByRelease_18 : decode cX7_termByRelease 18 = .ok (.invokevirtual 165, 3) := by decide +kernel
theorem dX7_termByRelease_21 : decode cX7_termByRelease 21 = .ok (.ifCond .eq 16, 3) := by decide +kernel
theorem dX7_termByRelease_24 : decode cX7_termByRelease 24 = .ok (.aload_n 0, 1) := by decide +kernel
theorem dX7_termByRelease_25 : decode cX7_termByRelease 25 = .ok (.iload_n 3, 1) := by decide +kernel
theorem dX7_termByRelease_26 : decode cX7_termByRelease 26 = .ok (.invokevirtual 260, 3) := by decide +kernel
theorem dX7_termByRelease_29 : decode cX7_termByRelease 29 = .ok (.iload_n 1, 1) := by decide +kernel
theorem dX7_termByRelease_30 : decode cX7_termByRelease 30 = .ok (.if_icmp .ne 7, 3) := by decide +kernel
theorem dX7_termByRelease_33 : decode cX7_termByRelease 33 = .ok (.iload_n 3, 1) := by decide +kernel
theorem dX7_termByRelease_34 : decode cX7_termByRelease 34 = .ok (.goto 4, 3) := by decide +kernel
theorem dX7_termByRelease_37 : decode cX7_termByRelease 37 = .ok (.iload_n 2, 1) := by decide +kernel
theorem dX7_termByRelease_38 : decode cX7_termByRelease 38 = .ok (.istore_n 2, 1) := by decide +kernel
theorem dX7_termByRelease_39 : decode cX7_termByRelease 39 = .ok (.iinc 3 1, 3) := by decide +kernel
theorem dX7_termByRelease_42 : decode cX7_termByRelease 42 = .ok (.goto (-38), 3) := by decide +kernel
theorem dX7_termByRelease_45 : decode cX7_termByRelease 45 = .ok (.aload_n 0, 1) := by decide +kernel
theorem dX7_termByRelease_46 : decode cX7_termByRelease 46 = .ok (.iload_n 2, 1) := by decide +kernel
theorem dX7_termByRelease_47 : decode cX7_termByRelease 47 = .ok (.iconst (-1), 1) := by decide +kernel
theorem dX7_termByRelease_48 : decode cX7_termByRelease 48 = .ok (.if_icmp .ne 7, 3) := by decide +kernel
theorem dX7_termByRelease_51 : decode cX7_termByRelease 51 = .ok (.iconst 1, 1) := by decide +kernel
theorem dX7_termByRelease_52 : decode cX7_termByRelease 52 = .ok (.goto 4, 3) := by decide +kernel
theorem dX7_termByRelease_55 : decode cX7_termByRelease 55 = .ok (.iconst 0, 1) := by decide +kernel
theorem dX7_termByRelease_56 : decode cX7_termByRelease 56 = .ok (.invokevirtual 126, 3) := by decide +kernel
theorem dX7_termByRelease_59 : decode cX7_termByRelease 59 = .ok (.ifCond .eq 7, 3) := by decide +kernel
theorem dX7_termByRelease_62 : decode cX7_termByRelease 62 = .ok (.iconst 0, 1) := by decide +kernel
theorem dX7_termByRelease_63 : decode cX7_termByRelease 63 = .ok (.goto 4, 3) := by decide +kernel
theorem dX7_termByRelease_66 : decode cX7_termByRelease 66 = .ok (.iload_n 2, 1) := by decide +kernel
theorem dX7_termByRelease_67 : decode cX7_termByRelease 67 = .ok (.ireturn, 1) := by decide +kernel
theorem dX7_daysInCustodyLeft_0 : decode cX7_daysInCustodyLeft 0 = .ok (.aload_n 0, 1) := by decide +kernel
theorem dX7_daysInCustodyLeft_1 : decode cX7_daysInCustodyLeft 1 = .ok (.iconst 0, 1) := by decide +kernel
theorem dX7_daysInCustodyLeft_2 : decode cX7_daysInCustodyLeft 2 = .ok (.putfield 93, 3) := by decide +kernel
theorem dX7_daysInCustodyLeft_5 : decode cX7_daysInCustodyLeft 5 = .ok (.aload_n 0, 1) := by decide +kernel
theorem dX7_daysInCustodyLeft_6 : decode cX7_daysInCustodyLeft 6 = .ok (.invokevirtual 190, 3) := by decide +kernel
theorem dX7_daysInCustodyLeft_9 : decode cX7_daysInCustodyLeft 9 = .ok (.istore_n 1, 1) := by decide +kernel
theorem dX7_daysInCustodyLeft_10 : decode cX7_daysInCustodyLeft 10 = .ok (.aload_n 0, 1) := by decide +kernel
theorem dX7_daysInCustodyLeft_11 : decode cX7_daysInCustodyLeft 11 = .ok (.invokevirtual 183, 3) := by decide +kernel
theorem dX7_daysInCustodyLeft_14 : decode cX7_daysInCustodyLeft 14 = .ok (.istore_n 2, 1) := by decide +kernel
theorem dX7_daysInCustodyLeft_15 : decode cX7_daysInCustodyLeft 15 = .ok (.iload_n 1, 1) := by decide +kernel
theorem dX7_daysInCustodyLeft_16 : decode cX7_daysInCustodyLeft 16 = .ok (.iload_n 2, 1) := by decide +kernel
theorem dX7_daysInCustodyLeft_17 : decode cX7_daysInCustodyLeft 17 = .ok (.if_icmp .le 7, 3) := by decide +kernel
theorem dX7_daysInCustodyLeft_20 : decode cX7_daysInCustodyLeft 20 = .ok (.iload_n 1, 1) := by decide +kernel
theorem dX7_daysInCustodyLeft_21 : decode cX7_daysInCustodyLeft 21 = .ok (.goto 4, 3) := by decide +kernel
theorem dX7_daysInCustodyLeft_24 : decode cX7_daysInCustodyLeft 24 = .ok (.iload_n 2, 1) := by decide +kernel
theorem dX7_daysInCustodyLeft_25 : decode cX7_daysInCustodyLeft 25 = .ok (.istore_n 3, 1) := by decide +kernel
theorem dX7_daysInCustodyLeft_26 : decode cX7_daysInCustodyLeft 26 = .ok (.iload_n 3, 1) := by decide +kernel
theorem dX7_daysInCustodyLeft_27 : decode cX7_daysInCustodyLeft 27 = .ok (.aload_n 0, 1) := by decide +kernel
theorem dX7_daysInCustodyLeft_28 : decode cX7_daysInCustodyLeft 28 = .ok (.getfield 187, 3) := by decide +kernel
theorem dX7_daysInCustodyLeft_31 : decode cX7_daysInCustodyLeft 31 = .ok (.if_icmp .le 12, 3) := by decide +kernel
theorem dX7_daysInCustodyLeft_34 : decode cX7_daysInCustodyLeft 34 = .ok (.iload_n 3, 1) := by decide +kernel
theorem dX7_daysInCustodyLeft_35 : decode cX7_daysInCustodyLeft 35 = .ok (.aload_n 0, 1) := by decide +kernel
theorem dX7_daysInCustodyLeft_36 : decode cX7_daysInCustodyLeft 36 = .ok (.getfield 187, 3) := by decide +kernel
theorem dX7_daysInCustodyLeft_39 : decode cX7_daysInCustodyLeft 39 = .ok (.isub, 1) := by decide +kernel
theorem dX7_daysInCustodyLeft_40 : decode cX7_daysInCustodyLeft 40 = .ok (.goto 4, 3) := by decide +kernel
theorem dX7_daysInCustodyLeft_43 : decode cX7_daysInCustodyLeft 43 = .ok (.iconst 0, 1) := by decide +kernel
theorem dX7_daysInCustodyLeft_44 : decode cX7_daysInCustodyLeft 44 = .ok (.ireturn, 1) := by decide +kernel
theorem dX7_recallCount_0 : decode cX7_recallCount 0 = .ok (.aload_n 0, 1) := by decide +kernel
theorem dX7_recallCount_1 : decode cX7_recallCount 1 = .ok (.iconst 0, 1) := by decide +kernel
theorem dX7_recallCount_2 : decode cX7_recallCount 2 = .ok (.putfield 93, 3) := by decide +kernel
theorem dX7_recallCount_5 : decode cX7_recallCount 5 = .ok (.aload_n 0, 1) := by decide +kernel
theorem dX7_recallCount_6 : decode cX7_recallCount 6 = .ok (.getfield 171, 3) := by decide +kernel
theorem dX7_recallCount_9 : decode cX7_recallCount 9 = .ok (.ireturn, 1) := by decide +kernel
theorem dX7_recallEnd_0 : decode cX7_recallEnd 0 = .ok (.aload_n 0, 1) := by decide +kernel
theorem dX7_recallEnd_1 : decode cX7_recallEnd 1 = .ok (.aload_n 0, 1) := by decide +kernel
theorem dX7_recallEnd_2 : decode cX7_recallEnd 2 = .ok (.invokevirtual 193, 3) := by decide +kernel
theorem dX7_recallEnd_5 : decode cX7_recallEnd 5 = .ok (.ifCond .eq 7, 3) := by decide +kernel
theorem dX7_recallEnd_8 : decode cX7_recallEnd 8 = .ok (.iconst 0, 1) := by decide +kernel
theorem dX7_recallEnd_9 : decode cX7_recallEnd 9 = .ok (.goto 4, 3) := by decide +kernel
theorem dX7_recallEnd_12 : decode cX7_recallEnd 12 = .ok (.iconst 1, 1) := by decide +kernel
theorem dX7_recallEnd_13 : decode cX7_recallEnd 13 = .ok (.invokevirtual 126, 3) := by decide +kernel
theorem dX7_recallEnd_16 : decode cX7_recallEnd 16 = .ok (.ifCond .eq 7, 3) := by decide +kernel
theorem dX7_recallEnd_19 : decode cX7_recallEnd 19 = .ok (.iconst 0, 1) := by decide +kernel
theorem dX7_recallEnd_20 : decode cX7_recallEnd 20 = .ok (.goto 7, 3) := by decide +kernel
theorem dX7_recallEnd_23 : decode cX7_recallEnd 23 = .ok (.aload_n 0, 1) := by decide +kernel
theorem dX7_recallEnd_24 : decode cX7_recallEnd 24 = .ok (.invokevirtual 183, 3) := by decide +kernel
theorem dX7_recallEnd_27 : decode cX7_recallEnd 27 = .ok (.ireturn, 1) := by decide +kernel
theorem dX7_awardDays_0 : decode cX7_awardDays 0 = .ok (.aload_n 0, 1) := by decide +kernel
theorem dX7_awardDays_1 : decode cX7_awardDays 1 = .ok (.aload_n 0, 1) := by decide +kernel
theorem dX7_awardDays_2 : decode cX7_awardDays 2 = .ok (.iload_n 1, 1) := by decide +kernel
theorem dX7_awardDays_3 : decode cX7_awardDays 3 = .ok (.invokevirtual 239, 3) := by decide +kernel
theorem dX7_awardDays_6 : decode cX7_awardDays 6 = .ok (.ifCond .eq 7, 3) := by decide +kernel
theorem dX7_awardDays_9 : decode cX7_awardDays 9 = .ok (.iconst 0, 1) := by decide +kernel
theorem dX7_awardDays_10 : decode cX7_awardDays 10 = .ok (.goto 4, 3) := by decide +kernel
theorem dX7_awardDays_13 : decode cX7_awardDays 13 = .ok (.iconst 1, 1) := by decide +kernel
theorem dX7_awardDays_14 : decode cX7_awardDays 14 = .ok (.invokevirtual 126, 3) := by decide +kernel
theorem dX7_awardDays_17 : decode cX7_awardDays 17 = .ok (.ifCond .eq 7, 3) := by decide +kernel
theorem dX7_awardDays_20 : decode cX7_awardDays 20 = .ok (.iconst 0, 1) := by decide +kernel
theorem dX7_awardDays_21 : decode cX7_awardDays 21 = .ok (.goto 9, 3) := by decide +kernel
theorem dX7_awardDays_24 : decode cX7_awardDays 24 = .ok (.aload_n 0, 1) := by decide +kernel
theorem dX7_awardDays_25 : decode cX7_awardDays 25 = .ok (.getfield 48, 3) := by decide +kernel
theorem dX7_awardDays_28 : decode cX7_awardDays 28 = .ok (.iload_n 1, 1) := by decide +kernel
theorem dX7_awardDays_29 : decode cX7_awardDays 29 = .ok (.iaload, 1) := by decide +kernel
theorem dX7_awardDays_30 : decode cX7_awardDays 30 = .ok (.ireturn, 1) := by decide +kernel
theorem dX7_concerns_0 : decode cX7_concerns 0 = .ok (.aload_n 0, 1) := by decide +kernel
theorem dX7_concerns_1 : decode cX7_concerns 1 = .ok (.aload_n 0, 1) := by decide +kernel
theorem dX7_concerns_2 : decode cX7_concerns 2 = .ok (.iload_n 1, 1) := by decide +kernel
theorem dX7_concerns_3 : decode cX7_concerns 3 = .ok (.invokevirtual 239, 3) := by decide +kernel
theorem dX7_concerns_6 : decode cX7_concerns 6 = .ok (.ifCond .eq 15, 3) := by decide +kernel
theorem dX7_concerns_9 : decode cX7_concerns 9 = .ok (.aload_n 0, 1) := by decide +kernel
theorem dX7_concerns_10 : decode cX7_concerns 10 = .ok (.iload_n 2, 1) := by decide +kernel
theorem dX7_concerns_11 : decode cX7_concerns 11 = .ok (.invokevirtual 216, 3) := by decide +kernel
theorem dX7_concerns_14 : decode cX7_concerns 14 = .ok (.ifCond .eq 7, 3) := by decide +kernel
theorem dX7_concerns_17 : decode cX7_concerns 17 = .ok (.iconst 0, 1) := by decide +kernel
theorem dX7_concerns_18 : decode cX7_concerns 18 = .ok (.goto 4, 3) := by decide +kernel
theorem dX7_concerns_21 : decode cX7_concerns 21 = .ok (.iconst 1, 1) := by decide +kernel
theorem dX7_concerns_22 : decode cX7_concerns 22 = .ok (.invokevirtual 126, 3) := by decide +kernel
theorem dX7_concerns_25 : decode cX7_concerns 25 = .ok (.ifCond .ne 21, 3) := by decide +kernel
theorem dX7_concerns_28 : decode cX7_concerns 28 = .ok (.aload_n 0, 1) := by decide +kernel
theorem dX7_concerns_29 : decode cX7_concerns 29 = .ok (.getfield 51, 3) := by decide +kernel
theorem dX7_concerns_32 : decode cX7_concerns 32 = .ok (.iload_n 1, 1) := by decide +kernel
theorem dX7_concerns_33 : decode cX7_concerns 33 = .ok (.iaload, 1) := by decide +kernel
theorem dX7_concerns_34 : decode cX7_concerns 34 = .ok (.iload_n 2, 1) := by decide +kernel
theorem dX7_concerns_35 : decode cX7_concerns 35 = .ok (.ishr, 1) := by decide +kernel
theorem dX7_concerns_36 : decode cX7_concerns 36 = .ok (.iconst 1, 1) := by decide +kernel
theorem dX7_concerns_37 : decode cX7_concerns 37 = .ok (.iand, 1) := by decide +kernel
theorem dX7_concerns_38 : decode cX7_concerns 38 = .ok (.iconst 1, 1) := by decide +kernel
theorem dX7_concerns_39 : decode cX7_concerns 39 = .ok (.if_icmp .ne 7, 3) := by decide +kernel
theorem dX7_concerns_42 : decode cX7_concerns 42 = .ok (.iconst 1, 1) := by decide +kernel
theorem dX7_concerns_43 : decode cX7_concerns 43 = .ok (.goto 4, 3) := by decide +kernel
theorem dX7_concerns_46 : decode cX7_concerns 46 = .ok (.iconst 0, 1) := by decide +kernel
theorem dX7_concerns_47 : decode cX7_concerns 47 = .ok (.ireturn, 1) := by decide +kernel
theorem dX7_lastReleaseWithAward_0 : decode cX7_lastReleaseWithAward 0 = .ok (.aload_n 0, 1) := by decide +kernel
theorem dX7_lastReleaseWithAward_1 : decode cX7_lastReleaseWithAward 1 = .ok (.iload_n 1, 1) := by decide +kernel
theorem dX7_lastReleaseWithAward_2 : decode cX7_lastReleaseWithAward 2 = .ok (.iconst 1, 1) := by decide +kernel
theorem dX7_lastReleaseWithAward_3 : decode cX7_lastReleaseWithAward 3 = .ok (.bipush 42, 2) := by decide +kernel
theorem dX7_lastReleaseWithAward_5 : decode cX7_lastReleaseWithAward 5 = .ok (.invokestatic 122, 3) := by decide +kernel
theorem dX7_lastReleaseWithAward_8 : decode cX7_lastReleaseWithAward 8 = .ok (.ifCond .ne 7, 3) := by decide +kernel
theorem dX7_lastReleaseWithAward_11 : decode cX7_lastReleaseWithAward 11 = .ok (.iconst 1, 1) := by decide +kernel
theorem dX7_lastReleaseWithAward_12 : decode cX7_lastReleaseWithAward 12 = .ok (.goto 16, 3) := by decide +kernel
theorem dX7_lastReleaseWithAward_15 : decode cX7_lastReleaseWithAward 15 = .ok (.aload_n 0, 1) := by decide +kernel
theorem dX7_lastReleaseWithAward_16 : decode cX7_lastReleaseWithAward 16 = .ok (.invokevirtual 234, 3) := by decide +kernel
theorem dX7_lastReleaseWithAward_19 : decode cX7_lastReleaseWithAward 19 = .ok (.iconst 2, 1) := by decide +kernel
theorem dX7_lastReleaseWithAward_20 : decode cX7_lastReleaseWithAward 20 = .ok (.if_icmp .ne 7, 3) := by decide +kernel
theorem dX7_lastReleaseWithAward_23 : decode cX7_lastReleaseWithAward 23 = .ok (.iconst 0, 1) := by decide +kernel
theorem dX7_lastReleaseWithAward_24 : decode cX7_lastReleaseWithAward 24 = .ok (.goto 4, 3) := by decide +kernel
theorem dX7_lastReleaseWithAward_27 : decode cX7_lastReleaseWithAward 27 = .ok (.iconst 2, 1) := by decide +kernel
theorem dX7_lastReleaseWithAward_28 : decode cX7_lastReleaseWithAward 28 = .ok (.invokevirtual 126, 3) := by decide +kernel
theorem dX7_lastReleaseWithAward_31 : decode cX7_lastReleaseWithAward 31 = .ok (.ifCond .eq 5, 3) := by decide +kernel
theorem dX7_lastReleaseWithAward_34 : decode cX7_lastReleaseWithAward 34 = .ok (.iconst 0, 1) := by decide +kernel
theorem dX7_lastReleaseWithAward_35 : decode cX7_lastReleaseWithAward 35 = .ok (.ireturn, 1) := by decide +kernel
theorem dX7_lastReleaseWithAward_36 : decode cX7_lastReleaseWithAward 36 = .ok (.iconst 0, 1) := by decide +kernel
theorem dX7_lastReleaseWithAward_37 : decode cX7_lastReleaseWithAward 37 = .ok (.istore_n 2, 1) := by decide +kernel
theorem dX7_lastReleaseWithAward_38 : decode cX7_lastReleaseWithAward 38 = .ok (.iconst 0, 1) := by decide +kernel
theorem dX7_lastReleaseWithAward_39 : decode cX7_lastReleaseWithAward 39 = .ok (.istore_n 3, 1) := by decide +kernel
theorem dX7_lastReleaseWithAward_40 : decode cX7_lastReleaseWithAward 40 = .ok (.iload_n 3, 1) := by decide +kernel
theorem dX7_lastReleaseWithAward_41 : decode cX7_lastReleaseWithAward 41 = .ok (.aload_n 0, 1) := by decide +kernel
theorem dX7_lastReleaseWithAward_42 : decode cX7_lastReleaseWithAward 42 = .ok (.getfield 140, 3) := by decide +kernel
theorem dX7_lastReleaseWithAward_45 : decode cX7_lastReleaseWithAward 45 = .ok (.if_icmp .ge 40, 3) := by decide +kernel
theorem dX7_lastReleaseWithAward_48 : decode cX7_lastReleaseWithAward 48 = .ok (.iload_n 2, 1) := by decide +kernel
theorem dX7_lastReleaseWithAward_49 : decode cX7_lastReleaseWithAward 49 = .ok (.aload_n 0, 1) := by decide +kernel
theorem dX7_lastReleaseWithAward_50 : decode cX7_lastReleaseWithAward 50 = .ok (.iload_n 3, 1) := by decide +kernel
theorem dX7_lastReleaseWithAward_51 : decode cX7_lastReleaseWithAward 51 = .ok (.invokevirtual 165, 3) := by decide +kernel
theorem dX7_lastReleaseWithAward_54 : decode cX7_lastReleaseWithAward 54 = .ok (.ifCond .eq 22, 3) := by decide +kernel
theorem dX7_lastReleaseWithAward_57 : decode cX7_lastReleaseWithAward 57 = .ok (.aload_n 0, 1) := by decide +kernel
theorem dX7_lastReleaseWithAward_58 : decode cX7_lastReleaseWithAward 58 = .ok (.getfield 81, 3) := by decide +kernel
theorem dX7_lastReleaseWithAward_61 : decode cX7_lastReleaseWithAward 61 = .ok (.iload_n 3, 1) := by decide +kernel
theorem dX7_lastReleaseWithAward_62 : decode cX7_lastReleaseWithAward 62 = .ok (.iaload, 1) := by decide +kernel
theorem dX7_lastReleaseWithAward_63 : decode cX7_lastReleaseWithAward 63 = .ok (.aload_n 0, 1) := by decide +kernel
theorem dX7_lastReleaseWithAward_64 : decode cX7_lastReleaseWithAward 64 = .ok (.getfield 187, 3) := by decide +kernel
theorem dX7_lastReleaseWithAward_67 : decode cX7_lastReleaseWithAward 67 = .ok (.if_icmp .le 9, 3) := by decide +kernel
theorem dX7_lastReleaseWithAward_70 : decode cX7_lastReleaseWithAward 70 = .ok (.iconst 1, 1) := by decide +kernel
theorem dX7_lastReleaseWithAward_71 : decode cX7_lastReleaseWithAward 71 = .ok (.iload_n 3, 1) := by decide +kernel
theorem dX7_lastReleaseWithAward_72 : decode cX7_lastReleaseWithAward 72 = .ok (.ishl, 1) := by decide +kernel
theorem dX7_lastReleaseWithAward_73 : decode cX7_lastReleaseWithAward 73 = .ok (.goto 4, 3) := by decide +kernel
theorem dX7_lastReleaseWithAward_76 : decode cX7_lastReleaseWithAward 76 = .ok (.iconst 0, 1) := by decide +kernel
theorem dX7_lastReleaseWithAward_77 : decode cX7_lastReleaseWithAward 77 = .ok (.ior, 1) := by decide +kernel
theorem dX7_lastReleaseWithAward_78 : decode cX7_lastReleaseWithAward 78 = .ok (.istore_n 2, 1) := by decide +kernel
theorem dX7_lastReleaseWithAward_79 : decode cX7_lastReleaseWithAward 79 = .ok (.iinc 3 1, 3) := by decide +kernel
theorem dX7_lastReleaseWithAward_82 : decode cX7_lastReleaseWithAward 82 = .ok (.goto (-42), 3) := by decide +kernel
theorem dX7_lastReleaseWithAward_85 : decode cX7_lastReleaseWithAward 85 = .ok (.iconst 0, 1) := by decide +kernel
theorem dX7_lastReleaseWithAward_86 : decode cX7_lastReleaseWithAward 86 = .ok (.istore_n 3, 1) := by decide +kernel
theorem dX7_lastReleaseWithAward_87 : decode cX7_lastReleaseWithAward 87 = .ok (.iconst 0, 1) := by decide +kernel
theorem dX7_lastReleaseWithAward_88 : decode cX7_lastReleaseWithAward 88 = .ok (.istore 4, 2) := by decide +kernel
theorem dX7_lastReleaseWithAward_90 : decode cX7_lastReleaseWithAward 90 = .ok (.iload 4, 2) := by decide +kernel
theorem dX7_lastReleaseWithAward_92 : decode cX7_lastReleaseWithAward 92 = .ok (.aload_n 0, 1) := by decide +kernel
theorem dX7_lastReleaseWithAward_93 : decode cX7_lastReleaseWithAward 93 = .ok (.getfield 140, 3) := by decide +kernel
theorem dX7_lastReleaseWithAward_96 : decode cX7_lastReleaseWithAward 96 = .ok (.if_icmp .ge 137, 3) := by decide +kernel
theorem dX7_lastReleaseWithAward_99 : decode cX7_lastReleaseWithAward 99 = .ok (.iconst 0, 1) := by decide +kernel
theorem dX7_lastReleaseWithAward_100 : decode cX7_lastReleaseWithAward 100 = .ok (.istore 5, 2) := by decide +kernel
theorem dX7_lastReleaseWithAward_102 : decode cX7_lastReleaseWithAward 102 = .ok (.iload 4, 2) := by decide +kernel
theorem dX7_lastReleaseWithAward_104 : decode cX7_lastReleaseWithAward 104 = .ok (.istore 6, 2) := by decide +kernel
theorem dX7_lastReleaseWithAward_106 : decode cX7_lastReleaseWithAward 106 = .ok (.iload 6, 2) := by decide +kernel
theorem dX7_lastReleaseWithAward_108 : decode cX7_lastReleaseWithAward 108 = .ok (.iconst (-1), 1) := by decide +kernel
theorem dX7_lastReleaseWithAward_109 : decode cX7_lastReleaseWithAward 109 = .ok (.if_icmp .eq 37, 3) := by decide +kernel
theorem dX7_lastReleaseWithAward_112 : decode cX7_lastReleaseWithAward 112 = .ok (.iload 5, 2) := by decide +kernel
theorem dX7_lastReleaseWithAward_114 : decode cX7_lastReleaseWithAward 114 = .ok (.ifCond .ne 13, 3) := by decide +kernel
theorem dX7_lastReleaseWithAward_117 : decode cX7_lastReleaseWithAward 117 = .ok (.iload_n 2, 1) := by decide +kernel
theorem dX7_lastReleaseWithAward_118 : decode cX7_lastReleaseWithAward 118 = .ok (.iload 6, 2) := by decide +kernel
theorem dX7_lastReleaseWithAward_120 : decode cX7_lastReleaseWithAward 120 = .ok (.ishr, 1) := by decide +kernel
theorem dX7_lastReleaseWithAward_121 : decode cX7_lastReleaseWithAward 121 = .ok (.iconst 1, 1) := by decide +kernel
theorem dX7_lastReleaseWithAward_122 : decode cX7_lastReleaseWithAward 122 = .ok (.iand, 1) := by decide +kernel
theorem dX7_lastReleaseWithAward_123 : decode cX7_lastReleaseWithAward 123 = .ok (.iconst 1, 1) := by decide +kernel
theorem dX7_lastReleaseWithAward_124 : decode cX7_lastReleaseWithAward 124 = .ok (.if_icmp .ne 7, 3) := by decide +kernel
theorem dX7_lastReleaseWithAward_127 : decode cX7_lastReleaseWithAward 127 = .ok (.iconst 1, 1) := by decide +kernel
theorem dX7_lastReleaseWithAward_128 : decode cX7_lastReleaseWithAward 128 = .ok (.goto 4, 3) := by decide +kernel
theorem dX7_lastReleaseWithAward_131 : decode cX7_lastReleaseWithAward 131 = .ok (.iconst 0, 1) := by decide +kernel
theorem dX7_lastReleaseWithAward_132 : decode cX7_lastReleaseWithAward 132 = .ok (.istore 5, 2) := by decide +kernel
theorem dX7_lastReleaseWithAward_134 : decode cX7_lastReleaseWithAward 134 = .ok (.aload_n 0, 1) := by decide +kernel
theorem dX7_lastReleaseWithAward_135 : decode cX7_lastReleaseWithAward 135 = .ok (.getfield 32, 3) := by decide +kernel
theorem dX7_lastReleaseWithAward_138 : decode cX7_lastReleaseWithAward 138 = .ok (.iload 6, 2) := by decide +kernel
theorem dX7_lastReleaseWithAward_140 : decode cX7_lastReleaseWithAward 140 = .ok (.iaload, 1) := by decide +kernel
theorem dX7_lastReleaseWithAward_141 : decode cX7_lastReleaseWithAward 141 = .ok (.istore 6, 2) := by decide +kernel
theorem dX7_lastReleaseWithAward_143 : decode cX7_lastReleaseWithAward 143 = .ok (.goto (-37), 3) := by decide +kernel
theorem dX7_lastReleaseWithAward_146 : decode cX7_lastReleaseWithAward 146 = .ok (.aload_n 0, 1) := by decide +kernel
theorem dX7_lastReleaseWithAward_147 : decode cX7_lastReleaseWithAward 147 = .ok (.iload 4, 2) := by decide +kernel
theorem dX7_lastReleaseWithAward_149 : decode cX7_lastReleaseWithAward 149 = .ok (.invokevirtual 165, 3) := by decide +kernel
theorem dX7_lastReleaseWithAward_152 : decode cX7_lastReleaseWithAward 152 = .ok (.ifCond .eq 24, 3) := by decide +kernel
theorem dX7_lastReleaseWithAward_155 : decode cX7_lastReleaseWithAward 155 = .ok (.aload_n 0, 1) := by decide +kernel
theorem dX7_lastReleaseWithAward_156 : decode cX7_lastReleaseWithAward 156 = .ok (.getfield 81, 3) := by decide +kernel
theorem dX7_lastReleaseWithAward_159 : decode cX7_lastReleaseWithAward 159 = .ok (.iload 4, 2) := by decide +kernel
theorem dX7_lastReleaseWithAward_161 : decode cX7_lastReleaseWithAward 161 = .ok (.iaload, 1) := by decide +kernel
theorem dX7_lastReleaseWithAward_162 : decode cX7_lastReleaseWithAward 162 = .ok (.iload 5, 2) := by decide +kernel
theorem dX7_lastReleaseWithAward_164 : decode cX7_lastReleaseWithAward 164 = .ok (.ifCond .eq 7, 3) := by decide +kernel
theorem dX7_lastReleaseWithAward_167 : decode cX7_lastReleaseWithAward 167 = .ok (.iload_n 1, 1) := by decide +kernel
theorem dX7_lastReleaseWithAward_168 : decode cX7_lastReleaseWithAward 168 = .ok (.goto 4, 3) := by decide +kernel
theorem dX7_lastReleaseWithAward_171 : decode cX7_lastReleaseWithAward 171 = .ok (.iconst 0, 1) := by decide +kernel
theorem dX7_lastReleaseWithAward_172 : decode cX7_lastReleaseWithAward 172 = .ok (.iadd, 1) := by decide +kernel
theorem dX7_lastReleaseWithAward_173 : decode cX7_lastReleaseWithAward 173 = .ok (.goto 4, 3) := by decide +kernel
theorem dX7_lastReleaseWithAward_176 : decode cX7_lastReleaseWithAward 176 = .ok (.iconst 0, 1) := by decide +kernel
theorem dX7_lastReleaseWithAward_177 : decode cX7_lastReleaseWithAward 177 = .ok (.istore 6, 2) := by decide +kernel
theorem dX7_lastReleaseWithAward_179 : decode cX7_lastReleaseWithAward 179 = .ok (.aload_n 0, 1) := by decide +kernel
theorem dX7_lastReleaseWithAward_180 : decode cX7_lastReleaseWithAward 180 = .ok (.iload 4, 2) := by decide +kernel
theorem dX7_lastReleaseWithAward_182 : decode cX7_lastReleaseWithAward 182 = .ok (.invokevirtual 165, 3) := by decide +kernel
theorem dX7_lastReleaseWithAward_185 : decode cX7_lastReleaseWithAward 185 = .ok (.ifCond .eq 25, 3) := by decide +kernel
theorem dX7_lastReleaseWithAward_188 : decode cX7_lastReleaseWithAward 188 = .ok (.iload 6, 2) := by decide +kernel
theorem dX7_lastReleaseWithAward_190 : decode cX7_lastReleaseWithAward 190 = .ok (.aload_n 0, 1) := by decide +kernel
theorem dX7_lastReleaseWithAward_191 : decode cX7_lastReleaseWithAward 191 = .ok (.getfield 84, 3) := by decide +kernel
theorem dX7_lastReleaseWithAward_194 : decode cX7_lastReleaseWithAward 194 = .ok (.iload 4, 2) := by decide +kernel
theorem dX7_lastReleaseWithAward_196 : decode cX7_lastReleaseWithAward 196 = .ok (.iaload, 1) := by decide +kernel
theorem dX7_lastReleaseWithAward_197 : decode cX7_lastReleaseWithAward 197 = .ok (.if_icmp .le 13, 3) := by decide +kernel
theorem dX7_lastReleaseWithAward_200 : decode cX7_lastReleaseWithAward 200 = .ok (.aload_n 0, 1) := by decide +kernel
theorem dX7_lastReleaseWithAward_201 : decode cX7_lastReleaseWithAward 201 = .ok (.getfield 84, 3) := by decide +kernel
theorem dX7_lastReleaseWithAward_204 : decode cX7_lastReleaseWithAward 204 = .ok (.iload 4, 2) := by decide +kernel
theorem dX7_lastReleaseWithAward_206 : decode cX7_lastReleaseWithAward 206 = .ok (.iaload, 1) := by decide +kernel
theorem dX7_lastReleaseWithAward_207 : decode cX7_lastReleaseWithAward 207 = .ok (.goto 5, 3) := by decide +kernel
theorem dX7_lastReleaseWithAward_210 : decode cX7_lastReleaseWithAward 210 = .ok (.iload 6, 2) := by decide +kernel
theorem dX7_lastReleaseWithAward_212 : decode cX7_lastReleaseWithAward 212 = .ok (.istore 6, 2) := by decide +kernel
theorem dX7_lastReleaseWithAward_214 : decode cX7_lastReleaseWithAward 214 = .ok (.iload 6, 2) := by decide +kernel
theorem dX7_lastReleaseWithAward_216 : decode cX7_lastReleaseWithAward 216 = .ok (.iload_n 3, 1) := by decide +kernel
theorem dX7_lastReleaseWithAward_217 : decode cX7_lastReleaseWithAward 217 = .ok (.if_icmp .le 8, 3) := by decide +kernel
theorem dX7_lastReleaseWithAward_220 : decode cX7_lastReleaseWithAward 220 = .ok (.iload 6, 2) := by decide +kernel
theorem dX7_lastReleaseWithAward_222 : decode cX7_lastReleaseWithAward 222 = .ok (.goto 4, 3) := by decide +kernel
theorem dX7_lastReleaseWithAward_225 : decode cX7_lastReleaseWithAward 225 = .ok (.iload_n 3, 1) := by decide +kernel
theorem dX7_lastReleaseWithAward_226 : decode cX7_lastReleaseWithAward 226 = .ok (.istore_n 3, 1) := by decide +kernel
theorem dX7_lastReleaseWithAward_227 : decode cX7_lastReleaseWithAward 227 = .ok (.iinc 4 1, 3) := by decide +kernel
theorem dX7_lastReleaseWithAward_230 : decode cX7_lastReleaseWithAward 230 = .ok (.goto (-140), 3) := by decide +kernel
theorem dX7_lastReleaseWithAward_233 : decode cX7_lastReleaseWithAward 233 = .ok (.iload_n 3, 1) := by decide +kernel
theorem dX7_lastReleaseWithAward_234 : decode cX7_lastReleaseWithAward 234 = .ok (.ireturn, 1) := by decide +kernel
theorem dX7_lastReleaseWithout_0 : decode cX7_lastReleaseWithout 0 = .ok (.aload_n 0, 1) := by decide +kernel
theorem dX7_lastReleaseWithout_1 : decode cX7_lastReleaseWithout 1 = .ok (.iload_n 1, 1) := by decide +kernel
theorem dX7_lastReleaseWithout_2 : decode cX7_lastReleaseWithout 2 = .ok (.invokevirtual 242, 3) := by decide +kernel
theorem dX7_lastReleaseWithout_5 : decode cX7_lastReleaseWithout 5 = .ok (.ifCond .eq 5, 3) := by decide +kernel
theorem dX7_lastReleaseWithout_8 : decode cX7_lastReleaseWithout 8 = .ok (.iconst 0, 1) := by decide +kernel
theorem dX7_lastReleaseWithout_9 : decode cX7_lastReleaseWithout 9 = .ok (.ireturn, 1) := by decide +kernel
theorem dX7_lastReleaseWithout_10 : decode cX7_lastReleaseWithout 10 = .ok (.iconst 0, 1) := by decide +kernel
theorem dX7_lastReleaseWithout_11 : decode cX7_lastReleaseWithout 11 = .ok (.istore_n 2, 1) := by decide +kernel
theorem dX7_lastReleaseWithout_12 : decode cX7_lastReleaseWithout 12 = .ok (.iload_n 2, 1) := by decide +kernel
theorem dX7_lastReleaseWithout_13 : decode cX7_lastReleaseWithout 13 = .ok (.bipush 10, 2) := by decide +kernel
theorem dX7_lastReleaseWithout_15 : decode cX7_lastReleaseWithout 15 = .ok (.if_icmp .ge 33, 3) := by decide +kernel
theorem dX7_lastReleaseWithout_18 : decode cX7_lastReleaseWithout 18 = .ok (.aload_n 0, 1) := by decide +kernel
theorem dX7_lastReleaseWithout_19 : decode cX7_lastReleaseWithout 19 = .ok (.getfield 87, 3) := by decide +kernel
theorem dX7_lastReleaseWithout_22 : decode cX7_lastReleaseWithout 22 = .ok (.iload_n 2, 1) := by decide +kernel
theorem dX7_lastReleaseWithout_23 : decode cX7_lastReleaseWithout 23 = .ok (.aload_n 0, 1) := by decide +kernel
theorem dX7_lastReleaseWithout_24 : decode cX7_lastReleaseWithout 24 = .ok (.getfield 32, 3) := by decide +kernel
theorem dX7_lastReleaseWithout_27 : decode cX7_lastReleaseWithout 27 = .ok (.iload_n 2, 1) := by decide +kernel
theorem dX7_lastReleaseWithout_28 : decode cX7_lastReleaseWithout 28 = .ok (.iaload, 1) := by decide +kernel
theorem dX7_lastReleaseWithout_29 : decode cX7_lastReleaseWithout 29 = .ok (.iastore, 1) := by decide +kernel
theorem dX7_lastReleaseWithout_30 : decode cX7_lastReleaseWithout 30 = .ok (.aload_n 0, 1) := by decide +kernel
theorem dX7_lastReleaseWithout_31 : decode cX7_lastReleaseWithout 31 = .ok (.getfield 90, 3) := by decide +kernel
theorem dX7_lastReleaseWithout_34 : decode cX7_lastReleaseWithout 34 = .ok (.iload_n 2, 1) := by decide +kernel
theorem dX7_lastReleaseWithout_35 : decode cX7_lastReleaseWithout 35 = .ok (.aload_n 0, 1) := by decide +kernel
theorem dX7_lastReleaseWithout_36 : decode cX7_lastReleaseWithout 36 = .ok (.getfield 29, 3) := by decide +kernel
theorem dX7_lastReleaseWithout_39 : decode cX7_lastReleaseWithout 39 = .ok (.iload_n 2, 1) := by decide +kernel
theorem dX7_lastReleaseWithout_40 : decode cX7_lastReleaseWithout 40 = .ok (.iaload, 1) := by decide +kernel
theorem dX7_lastReleaseWithout_41 : decode cX7_lastReleaseWithout 41 = .ok (.iastore, 1) := by decide +kernel
theorem dX7_lastReleaseWithout_42 : decode cX7_lastReleaseWithout 42 = .ok (.iinc 2 1, 3) := by decide +kernel
theorem dX7_lastReleaseWithout_45 : decode cX7_lastReleaseWithout 45 = .ok (.goto (-33), 3) := by decide +kernel
theorem dX7_lastReleaseWithout_48 : decode cX7_lastReleaseWithout 48 = .ok (.aload_n 0, 1) := by decide +kernel
theorem dX7_lastReleaseWithout_49 : decode cX7_lastReleaseWithout 49 = .ok (.iload_n 1, 1) := by decide +kernel
theorem dX7_lastReleaseWithout_50 : decode cX7_lastReleaseWithout 50 = .ok (.invokevirtual 231, 3) := by decide +kernel
theorem dX7_lastReleaseWithout_53 : decode cX7_lastReleaseWithout 53 = .ok (.istore_n 2, 1) := by decide +kernel
theorem dX7_lastReleaseWithout_54 : decode cX7_lastReleaseWithout 54 = .ok (.aload_n 0, 1) := by decide +kernel
theorem dX7_lastReleaseWithout_55 : decode cX7_lastReleaseWithout 55 = .ok (.invokevirtual 254, 3) := by decide +kernel
theorem dX7_lastReleaseWithout_58 : decode cX7_lastReleaseWithout 58 = .ok (.istore_n 3, 1) := by decide +kernel
theorem dX7_lastReleaseWithout_59 : decode cX7_lastReleaseWithout 59 = .ok (.aload_n 0, 1) := by decide +kernel
theorem dX7_lastReleaseWithout_60 : decode cX7_lastReleaseWithout 60 = .ok (.invokevirtual 190, 3) := by decide +kernel
theorem dX7_lastReleaseWithout_63 : decode cX7_lastReleaseWithout 63 = .ok (.istore 4, 2) := by decide +kernel
theorem dX7_lastReleaseWithout_65 : decode cX7_lastReleaseWithout 65 = .ok (.aload_n 0, 1) := by decide +kernel
theorem dX7_lastReleaseWithout_66 : decode cX7_lastReleaseWithout 66 = .ok (.getfield 35, 3) := by decide +kernel
theorem dX7_lastReleaseWithout_69 : decode cX7_lastReleaseWithout 69 = .ok (.iload_n 1, 1) := by decide +kernel
theorem dX7_lastReleaseWithout_70 : decode cX7_lastReleaseWithout 70 = .ok (.iconst 0, 1) := by decide +kernel
theorem dX7_lastReleaseWithout_71 : decode cX7_lastReleaseWithout 71 = .ok (.bastore, 1) := by decide +kernel
theorem dX7_lastReleaseWithout_72 : decode cX7_lastReleaseWithout 72 = .ok (.iconst 0, 1) := by decide +kernel
theorem dX7_lastReleaseWithout_73 : decode cX7_lastReleaseWithout 73 = .ok (.istore 5, 2) := by decide +kernel
theorem dX7_lastReleaseWithout_75 : decode cX7_lastReleaseWithout 75 = .ok (.iload 5, 2) := by decide +kernel
theorem dX7_lastReleaseWithout_77 : decode cX7_lastReleaseWithout 77 = .ok (.bipush 10, 2) := by decide +kernel
theorem dX7_lastReleaseWithout_79 : decode cX7_lastReleaseWithout 79 = .ok (.if_icmp .ge 37, 3) := by decide +kernel
theorem dX7_lastReleaseWithout_82 : decode cX7_lastReleaseWithout 82 = .ok (.aload_n 0, 1) := by decide +kernel
theorem dX7_lastReleaseWithout_83 : decode cX7_lastReleaseWithout 83 = .ok (.getfield 32, 3) := by decide +kernel
theorem dX7_lastReleaseWithout_86 : decode cX7_lastReleaseWithout 86 = .ok (.iload 5, 2) := by decide +kernel
theorem dX7_lastReleaseWithout_88 : decode cX7_lastReleaseWithout 88 = .ok (.aload_n 0, 1) := by decide +kernel
theorem dX7_lastReleaseWithout_89 : decode cX7_lastReleaseWithout 89 = .ok (.getfield 87, 3) := by decide +kernel
theorem dX7_lastReleaseWithout_92 : decode cX7_lastReleaseWithout 92 = .ok (.iload 5, 2) := by decide +kernel
theorem dX7_lastReleaseWithout_94 : decode cX7_lastReleaseWithout 94 = .ok (.iaload, 1) := by decide +kernel
theorem dX7_lastReleaseWithout_95 : decode cX7_lastReleaseWithout 95 = .ok (.iastore, 1) := by decide +kernel
theorem dX7_lastReleaseWithout_96 : decode cX7_lastReleaseWithout 96 = .ok (.aload_n 0, 1) := by decide +kernel
theorem dX7_lastReleaseWithout_97 : decode cX7_lastReleaseWithout 97 = .ok (.getfield 29, 3) := by decide +kernel
theorem dX7_lastReleaseWithout_100 : decode cX7_lastReleaseWithout 100 = .ok (.iload 5, 2) := by decide +kernel
theorem dX7_lastReleaseWithout_102 : decode cX7_lastReleaseWithout 102 = .ok (.aload_n 0, 1) := by decide +kernel
theorem dX7_lastReleaseWithout_103 : decode cX7_lastReleaseWithout 103 = .ok (.getfield 90, 3) := by decide +kernel
theorem dX7_lastReleaseWithout_106 : decode cX7_lastReleaseWithout 106 = .ok (.iload 5, 2) := by decide +kernel
theorem dX7_lastReleaseWithout_108 : decode cX7_lastReleaseWithout 108 = .ok (.iaload, 1) := by decide +kernel
theorem dX7_lastReleaseWithout_109 : decode cX7_lastReleaseWithout 109 = .ok (.iastore, 1) := by decide +kernel
theorem dX7_lastReleaseWithout_110 : decode cX7_lastReleaseWithout 110 = .ok (.iinc 5 1, 3) := by decide +kernel
theorem dX7_lastReleaseWithout_113 : decode cX7_lastReleaseWithout 113 = .ok (.goto (-38), 3) := by decide +kernel
theorem dX7_lastReleaseWithout_116 : decode cX7_lastReleaseWithout 116 = .ok (.aload_n 0, 1) := by decide +kernel
theorem dX7_lastReleaseWithout_117 : decode cX7_lastReleaseWithout 117 = .ok (.invokevirtual 206, 3) := by decide +kernel
theorem dX7_lastReleaseWithout_120 : decode cX7_lastReleaseWithout 120 = .ok (.aload_n 0, 1) := by decide +kernel
theorem dX7_lastReleaseWithout_121 : decode cX7_lastReleaseWithout 121 = .ok (.iload_n 3, 1) := by decide +kernel
theorem dX7_lastReleaseWithout_122 : decode cX7_lastReleaseWithout 122 = .ok (.ifCond .eq 7, 3) := by decide +kernel
theorem dX7_lastReleaseWithout_125 : decode cX7_lastReleaseWithout 125 = .ok (.iconst 0, 1) := by decide +kernel
theorem dX7_lastReleaseWithout_126 : decode cX7_lastReleaseWithout 126 = .ok (.goto 4, 3) := by decide +kernel
theorem dX7_lastReleaseWithout_129 : decode cX7_lastReleaseWithout 129 = .ok (.iconst 3, 1) := by decide +kernel
theorem dX7_lastReleaseWithout_130 : decode cX7_lastReleaseWithout 130 = .ok (.invokevirtual 126, 3) := by decide +kernel
theorem dX7_lastReleaseWithout_133 : decode cX7_lastReleaseWithout 133 = .ok (.ifCond .eq 7, 3) := by decide +kernel
theorem dX7_lastReleaseWithout_136 : decode cX7_lastReleaseWithout 136 = .ok (.iconst 0, 1) := by decide +kernel
theorem dX7_lastReleaseWithout_137 : decode cX7_lastReleaseWithout 137 = .ok (.goto 5, 3) := by decide +kernel
theorem dX7_lastReleaseWithout_140 : decode cX7_lastReleaseWithout 140 = .ok (.iload 4, 2) := by decide +kernel
theorem dX7_lastReleaseWithout_142 : decode cX7_lastReleaseWithout 142 = .ok (.ireturn, 1) := by decide +kernel
theorem dX7_servedDays_0 : decode cX7_servedDays 0 = .ok (.aload_n 0, 1) := by decide +kernel
theorem dX7_servedDays_1 : decode cX7_servedDays 1 = .ok (.iconst 0, 1) := by decide +kernel
theorem dX7_servedDays_2 : decode cX7_servedDays 2 = .ok (.putfield 93, 3) := by decide +kernel
theorem dX7_servedDays_5 : decode cX7_servedDays 5 = .ok (.aload_n 0, 1) := by decide +kernel
theorem dX7_servedDays_6 : decode cX7_servedDays 6 = .ok (.getfield 203, 3) := by decide +kernel
theorem dX7_servedDays_9 : decode cX7_servedDays 9 = .ok (.ireturn, 1) := by decide +kernel
theorem dX7_licenceDays_0 : decode cX7_licenceDays 0 = .ok (.aload_n 0, 1) := by decide +kernel
theorem dX7_licenceDays_1 : decode cX7_licenceDays 1 = .ok (.iconst 0, 1) := by decide +kernel
theorem dX7_licenceDays_2 : decode cX7_licenceDays 2 = .ok (.putfield 93, 3) := by decide +kernel
theorem dX7_licenceDays_5 : decode cX7_licenceDays 5 = .ok (.aload_n 0, 1) := by decide +kernel
theorem dX7_licenceDays_6 : decode cX7_licenceDays 6 = .ok (.getfield 200, 3) := by decide +kernel
theorem dX7_licenceDays_9 : decode cX7_licenceDays 9 = .ok (.ireturn, 1) := by decide +kernel
theorem dX7_statusOn_0 : decode cX7_statusOn 0 = .ok (.aload_n 0, 1) := by decide +kernel
theorem dX7_statusOn_1 : decode cX7_statusOn 1 = .ok (.iload_n 1, 1) := by decide +kernel
theorem dX7_statusOn_2 : decode cX7_statusOn 2 = .ok (.iconst 0, 1) := by decide +kernel
theorem dX7_statusOn_3 : decode cX7_statusOn 3 = .ok (.aload_n 0, 1) := by decide +kernel
theorem dX7_statusOn_4 : decode cX7_statusOn 4 = .ok (.getfield 187, 3) := by decide +kernel
theorem dX7_statusOn_7 : decode cX7_statusOn 7 = .ok (.iconst 1, 1) := by decide +kernel
theorem dX7_statusOn_8 : decode cX7_statusOn 8 = .ok (.isub, 1) := by decide +kernel
theorem dX7_statusOn_9 : decode cX7_statusOn 9 = .ok (.invokestatic 122, 3) := by decide +kernel
theorem dX7_statusOn_12 : decode cX7_statusOn 12 = .ok (.ifCond .eq 7, 3) := by decide +kernel
theorem dX7_statusOn_15 : decode cX7_statusOn 15 = .ok (.iconst 0, 1) := by decide +kernel
theorem dX7_statusOn_16 : decode cX7_statusOn 16 = .ok (.goto 4, 3) := by decide +kernel
theorem dX7_statusOn_19 : decode cX7_statusOn 19 = .ok (.iconst 1, 1) := by decide +kernel
theorem dX7_statusOn_20 : decode cX7_statusOn 20 = .ok (.invokevirtual 126, 3) := by decide +kernel
theorem dX7_statusOn_23 : decode cX7_statusOn 23 = .ok (.ifCond .eq 7, 3) := by decide +kernel
theorem dX7_statusOn_26 : decode cX7_statusOn 26 = .ok (.iconst 0, 1) := by decide +kernel
theorem dX7_statusOn_27 : decode cX7_statusOn 27 = .ok (.goto 9, 3) := by decide +kernel
theorem dX7_statusOn_30 : decode cX7_statusOn 30 = .ok (.aload_n 0, 1) := by decide +kernel
theorem dX7_statusOn_31 : decode cX7_statusOn 31 = .ok (.getfield 9, 3) := by decide +kernel
theorem dX7_statusOn_34 : decode cX7_statusOn 34 = .ok (.iload_n 1, 1) := by decide +kernel
theorem dX7_statusOn_35 : decode cX7_statusOn 35 = .ok (.baload, 1) := by decide +kernel
theorem dX7_statusOn_36 : decode cX7_statusOn 36 = .ok (.ireturn, 1) := by decide +kernel
theorem dX7_figures_0 : decode cX7_figures 0 = .ok (.iconst 1, 1) := by decide +kernel
theorem dX7_figures_1 : decode cX7_figures 1 = .ok (.istore_n 1, 1) := by decide +kernel
theorem dX7_figures_2 : decode cX7_figures 2 = .ok (.iload_n 0, 1) := by decide +kernel
theorem dX7_figures_3 : decode cX7_figures 3 = .ok (.istore_n 2, 1) := by decide +kernel
theorem dX7_figures_4 : decode cX7_figures 4 = .ok (.iload_n 2, 1) := by decide +kernel
theorem dX7_figures_5 : decode cX7_figures 5 = .ok (.bipush 9, 2) := by decide +kernel
theorem dX7_figures_7 : decode cX7_figures 7 = .ok (.if_icmp .le 14, 3) := by decide +kernel
theorem dX7_figures_10 : decode cX7_figures 10 = .ok (.iinc 1 1, 3) := by decide +kernel
theorem dX7_figures_13 : decode cX7_figures 13 = .ok (.iload_n 2, 1) := by decide +kernel
theorem dX7_figures_14 : decode cX7_figures 14 = .ok (.bipush 10, 2) := by decide +kernel
theorem dX7_figures_16 : decode cX7_figures 16 = .ok (.idiv, 1) := by decide +kernel
theorem dX7_figures_17 : decode cX7_figures 17 = .ok (.istore_n 2, 1) := by decide +kernel
theorem dX7_figures_18 : decode cX7_figures 18 = .ok (.goto (-14), 3) := by decide +kernel
theorem dX7_figures_21 : decode cX7_figures 21 = .ok (.iload_n 1, 1) := by decide +kernel
theorem dX7_figures_22 : decode cX7_figures 22 = .ok (.ireturn, 1) := by decide +kernel
theorem dX7_runFrom_0 : decode cX7_runFrom 0 = .ok (.iload_n 1, 1) := by decide +kernel
theorem dX7_runFrom_1 : decode cX7_runFrom 1 = .ok (.istore_n 2, 1) := by decide +kernel
theorem dX7_runFrom_2 : decode cX7_runFrom 2 = .ok (.iload_n 2, 1) := by decide +kernel
theorem dX7_runFrom_3 : decode cX7_runFrom 3 = .ok (.aload_n 0, 1) := by decide +kernel
theorem dX7_runFrom_4 : decode cX7_runFrom 4 = .ok (.getfield 263, 3) := by decide +kernel
theorem dX7_runFrom_7 : decode cX7_runFrom 7 = .ok (.if_icmp .ge 24, 3) := by decide +kernel
theorem dX7_runFrom_10 : decode cX7_runFrom 10 = .ok (.aload_n 0, 1) := by decide +kernel
theorem dX7_runFrom_11 : decode cX7_runFrom 11 = .ok (.getfield 9, 3) := by decide +kernel
theorem dX7_runFrom_14 : decode cX7_runFrom 14 = .ok (.iload_n 2, 1) := by decide +kernel
theorem dX7_runFrom_15 : decode cX7_runFrom 15 = .ok (.baload, 1) := by decide +kernel
theorem dX7_runFrom_16 : decode cX7_runFrom 16 = .ok (.aload_n 0, 1) := by decide +kernel
theorem dX7_runFrom_17 : decode cX7_runFrom 17 = .ok (.getfield 9, 3) := by decide +kernel
theorem dX7_runFrom_20 : decode cX7_runFrom 20 = .ok (.iload_n 1, 1) := by decide +kernel
theorem dX7_runFrom_21 : decode cX7_runFrom 21 = .ok (.baload, 1) := by decide +kernel
theorem dX7_runFrom_22 : decode cX7_runFrom 22 = .ok (.if_icmp .ne 9, 3) := by decide +kernel
theorem dX7_runFrom_25 : decode cX7_runFrom 25 = .ok (.iinc 2 1, 3) := by decide +kernel
theorem dX7_runFrom_28 : decode cX7_runFrom 28 = .ok (.goto (-26), 3) := by decide +kernel
theorem dX7_runFrom_31 : decode cX7_runFrom 31 = .ok (.iload_n 2, 1) := by decide +kernel
theorem dX7_runFrom_32 : decode cX7_runFrom 32 = .ok (.iload_n 1, 1) := by decide +kernel
theorem dX7_runFrom_33 : decode cX7_runFrom 33 = .ok (.isub, 1) := by decide +kernel
theorem dX7_runFrom_34 : decode cX7_runFrom 34 = .ok (.ireturn, 1) := by decide +kernel
theorem dX7_sizeToTold_0 : decode cX7_sizeToTold 0 = .ok (.iconst 0, 1) := by decide +kernel
theorem dX7_sizeToTold_1 : decode cX7_sizeToTold 1 = .ok (.istore_n 1, 1) := by decide +kernel
theorem dX7_sizeToTold_2 : decode cX7_sizeToTold 2 = .ok (.iconst 0, 1) := by decide +kernel
theorem dX7_sizeToTold_3 : decode cX7_sizeToTold 3 = .ok (.istore_n 2, 1) := by decide +kernel
theorem dX7_sizeToTold_4 : decode cX7_sizeToTold 4 = .ok (.iload_n 2, 1) := by decide +kernel
theorem dX7_sizeToTold_5 : decode cX7_sizeToTold 5 = .ok (.aload_n 0, 1) := by decide +kernel
theorem dX7_sizeToTold_6 : decode cX7_sizeToTold 6 = .ok (.getfield 263, 3) := by decide +kernel
theorem dX7_sizeToTold_9 : decode cX7_sizeToTold 9 = .ok (.if_icmp .ge 33, 3) := by decide +kernel
theorem dX7_sizeToTold_12 : decode cX7_sizeToTold 12 = .ok (.aload_n 0, 1) := by decide +kernel
theorem dX7_sizeToTold_13 : decode cX7_sizeToTold 13 = .ok (.iload_n 2, 1) := by decide +kernel
theorem dX7_sizeToTold_14 : decode cX7_sizeToTold 14 = .ok (.invokevirtual 266, 3) := by decide +kernel
theorem dX7_sizeToTold_17 : decode cX7_sizeToTold 17 = .ok (.istore_n 3, 1) := by decide +kernel
theorem dX7_sizeToTold_18 : decode cX7_sizeToTold 18 = .ok (.iload_n 1, 1) := by decide +kernel
theorem dX7_sizeToTold_19 : decode cX7_sizeToTold 19 = .ok (.iload_n 2, 1) := by decide +kernel
theorem dX7_sizeToTold_20 : decode cX7_sizeToTold 20 = .ok (.ifCond .le 7, 3) := by decide +kernel
theorem dX7_sizeToTold_23 : decode cX7_sizeToTold 23 = .ok (.iconst 2, 1) := by decide +kernel
theorem dX7_sizeToTold_24 : decode cX7_sizeToTold 24 = .ok (.goto 4, 3) := by decide +kernel
theorem dX7_sizeToTold_27 : decode cX7_sizeToTold 27 = .ok (.iconst 1, 1) := by decide +kernel
theorem dX7_sizeToTold_28 : decode cX7_sizeToTold 28 = .ok (.iload_n 3, 1) := by decide +kernel
theorem dX7_sizeToTold_29 : decode cX7_sizeToTold 29 = .ok (.invokestatic 269, 3) := by decide +kernel
theorem dX7_sizeToTold_32 : decode cX7_sizeToTold 32 = .ok (.iadd, 1) := by decide +kernel
theorem dX7_sizeToTold_33 : decode cX7_sizeToTold 33 = .ok (.iadd, 1) := by decide +kernel
theorem dX7_sizeToTold_34 : decode cX7_sizeToTold 34 = .ok (.istore_n 1, 1) := by decide +kernel
theorem dX7_sizeToTold_35 : decode cX7_sizeToTold 35 = .ok (.iload_n 2, 1) := by decide +kernel
theorem dX7_sizeToTold_36 : decode cX7_sizeToTold 36 = .ok (.iload_n 3, 1) := by decide +kernel
theorem dX7_sizeToTold_37 : decode cX7_sizeToTold 37 = .ok (.iadd, 1) := by decide +kernel
theorem dX7_sizeToTold_38 : decode cX7_sizeToTold 38 = .ok (.istore_n 2, 1) := by decide +kernel
theorem dX7_sizeToTold_39 : decode cX7_sizeToTold 39 = .ok (.goto (-35), 3) := by decide +kernel
theorem dX7_sizeToTold_42 : decode cX7_sizeToTold 42 = .ok (.iload_n 1, 1) := by decide +kernel
theorem dX7_sizeToTold_43 : decode cX7_sizeToTold 43 = .ok (.ireturn, 1) := by decide +kernel
theorem dX7_writeHistory_0 : decode cX7_writeHistory 0 = .ok (.aload_n 0, 1) := by decide +kernel
theorem dX7_writeHistory_1 : decode cX7_writeHistory 1 = .ok (.iconst 0, 1) := by decide +kernel
theorem dX7_writeHistory_2 : decode cX7_writeHistory 2 = .ok (.putfield 93, 3) := by decide +kernel
theorem dX7_writeHistory_5 : decode cX7_writeHistory 5 = .ok (.aload_n 0, 1) := by decide +kernel
theorem dX7_writeHistory_6 : decode cX7_writeHistory 6 = .ok (.aload_n 0, 1) := by decide +kernel
theorem dX7_writeHistory_7 : decode cX7_writeHistory 7 = .ok (.getfield 187, 3) := by decide +kernel
theorem dX7_writeHistory_10 : decode cX7_writeHistory 10 = .ok (.putfield 263, 3) := by decide +kernel
theorem dX7_writeHistory_13 : decode cX7_writeHistory 13 = .ok (.aload_n 0, 1) := by decide +kernel
theorem dX7_writeHistory_14 : decode cX7_writeHistory 14 = .ok (.invokevirtual 272, 3) := by decide +kernel
theorem dX7_writeHistory_17 : decode cX7_writeHistory 17 = .ok (.ireturn, 1) := by decide +kernel
theorem dX7_signOf_0 : decode cX7_signOf 0 = .ok (.iload_n 1, 1) := by decide +kernel
theorem dX7_signOf_1 : decode cX7_signOf 1 = .ok (.invokestatic 269, 3) := by decide +kernel
theorem dX7_signOf_4 : decode cX7_signOf 4 = .ok (.istore_n 3, 1) := by decide +kernel
theorem dX7_signOf_5 : decode cX7_signOf 5 = .ok (.iload_n 2, 1) := by decide +kernel
theorem dX7_signOf_6 : decode cX7_signOf 6 = .ok (.ifCond .eq 8, 3) := by decide +kernel
theorem dX7_signOf_9 : decode cX7_signOf 9 = .ok (.iload_n 2, 1) := by decide +kernel
theorem dX7_signOf_10 : decode cX7_signOf 10 = .ok (.iload_n 3, 1) := by decide +kernel
theorem dX7_signOf_11 : decode cX7_signOf 11 = .ok (.if_icmp .le 35, 3) := by decide +kernel
theorem dX7_signOf_14 : decode cX7_signOf 14 = .ok (.iload_n 2, 1) := by decide +kernel
theorem dX7_signOf_15 : decode cX7_signOf 15 = .ok (.ifCond .le 8, 3) := by decide +kernel
theorem dX7_signOf_18 : decode cX7_signOf 18 = .ok (.bipush 32, 2) := by decide +kernel
theorem dX7_signOf_20 : decode cX7_signOf 20 = .ok (.goto 25, 3) := by decide +kernel
theorem dX7_signOf_23 : decode cX7_signOf 23 = .ok (.iload_n 0, 1) := by decide +kernel
theorem dX7_signOf_24 : decode cX7_signOf 24 = .ok (.iconst 2, 1) := by decide +kernel
theorem dX7_signOf_25 : decode cX7_signOf 25 = .ok (.if_icmp .ne 8, 3) := by decide +kernel
theorem dX7_signOf_28 : decode cX7_signOf 28 = .ok (.bipush 99, 2) := by decide +kernel
theorem dX7_signOf_30 : decode cX7_signOf 30 = .ok (.goto 15, 3) := by decide +kernel
theorem dX7_signOf_33 : decode cX7_signOf 33 = .ok (.iload_n 0, 1) := by decide +kernel
theorem dX7_signOf_34 : decode cX7_signOf 34 = .ok (.iconst 1, 1) := by decide +kernel
theorem dX7_signOf_35 : decode cX7_signOf 35 = .ok (.if_icmp .ne 8, 3) := by decide +kernel
theorem dX7_signOf_38 : decode cX7_signOf 38 = .ok (.bipush 108, 2) := by decide +kernel
theorem dX7_signOf_40 : decode cX7_signOf 40 = .ok (.goto 5, 3) := by decide +kernel
theorem dX7_signOf_43 : decode cX7_signOf 43 = .ok (.bipush 102, 2) := by decide +kernel
theorem dX7_signOf_45 : decode cX7_signOf 45 = .ok (.ireturn, 1) := by decide +kernel
theorem dX7_signOf_46 : decode cX7_signOf 46 = .ok (.iload_n 1, 1) := by decide +kernel
theorem dX7_signOf_47 : decode cX7_signOf 47 = .ok (.istore 4, 2) := by decide +kernel
theorem dX7_signOf_49 : decode cX7_signOf 49 = .ok (.iload_n 2, 1) := by decide +kernel
theorem dX7_signOf_50 : decode cX7_signOf 50 = .ok (.istore 5, 2) := by decide +kernel
theorem dX7_signOf_52 : decode cX7_signOf 52 = .ok (.iload 5, 2) := by decide +kernel
theorem dX7_signOf_54 : decode cX7_signOf 54 = .ok (.iload_n 3, 1) := by decide +kernel
theorem dX7_signOf_55 : decode cX7_signOf 55 = .ok (.if_icmp .ge 16, 3) := by decide +kernel
theorem dX7_signOf_58 : decode cX7_signOf 58 = .ok (.iload 4, 2) := by decide +kernel
theorem dX7_signOf_60 : decode cX7_signOf 60 = .ok (.bipush 10, 2) := by decide +kernel
theorem dX7_signOf_62 : decode cX7_signOf 62 = .ok (.idiv, 1) := by decide +kernel
theorem dX7_signOf_63 : decode cX7_signOf 63 = .ok (.istore 4, 2) := by decide +kernel
theorem dX7_signOf_65 : decode cX7_signOf 65 = .ok (.iinc 5 1, 3) := by decide +kernel
theorem dX7_signOf_68 : decode cX7_signOf 68 = .ok (.goto (-16), 3) := by decide +kernel
theorem dX7_signOf_71 : decode cX7_signOf 71 = .ok (.bipush 48, 2) := by decide +kernel
theorem dX7_signOf_73 : decode cX7_signOf 73 = .ok (.iload 4, 2) := by decide +kernel
theorem dX7_signOf_75 : decode cX7_signOf 75 = .ok (.bipush 10, 2) := by decide +kernel
theorem dX7_signOf_77 : decode cX7_signOf 77 = .ok (.irem, 1) := by decide +kernel
theorem dX7_signOf_78 : decode cX7_signOf 78 = .ok (.iadd, 1) := by decide +kernel
theorem dX7_signOf_79 : decode cX7_signOf 79 = .ok (.i2c, 1) := by decide +kernel
theorem dX7_signOf_80 : decode cX7_signOf 80 = .ok (.ireturn, 1) := by decide +kernel
theorem dX7_outputAt_0 : decode cX7_outputAt 0 = .ok (.aload_n 0, 1) := by decide +kernel
theorem dX7_outputAt_1 : decode cX7_outputAt 1 = .ok (.iload_n 1, 1) := by decide +kernel
theorem dX7_outputAt_2 : decode cX7_outputAt 2 = .ok (.iconst 0, 1) := by decide +kernel
theorem dX7_outputAt_3 : decode cX7_outputAt 3 = .ok (.aload_n 0, 1) := by decide +kernel
theorem dX7_outputAt_4 : decode cX7_outputAt 4 = .ok (.invokevirtual 272, 3) := by decide +kernel
theorem dX7_outputAt_7 : decode cX7_outputAt 7 = .ok (.iconst 1, 1) := by decide +kernel
theorem dX7_outputAt_8 : decode cX7_outputAt 8 = .ok (.isub, 1) := by decide +kernel
theorem dX7_outputAt_9 : decode cX7_outputAt 9 = .ok (.invokestatic 122, 3) := by decide +kernel
theorem dX7_outputAt_12 : decode cX7_outputAt 12 = .ok (.ifCond .eq 7, 3) := by decide +kernel
theorem dX7_outputAt_15 : decode cX7_outputAt 15 = .ok (.iconst 0, 1) := by decide +kernel
theorem dX7_outputAt_16 : decode cX7_outputAt 16 = .ok (.goto 4, 3) := by decide +kernel
theorem dX7_outputAt_19 : decode cX7_outputAt 19 = .ok (.iconst 1, 1) := by decide +kernel
theorem dX7_outputAt_20 : decode cX7_outputAt 20 = .ok (.invokevirtual 126, 3) := by decide +kernel
theorem dX7_outputAt_23 : decode cX7_outputAt 23 = .ok (.ifCond .eq 5, 3) := by decide +kernel
theorem dX7_outputAt_26 : decode cX7_outputAt 26 = .ok (.iconst 0, 1) := by decide +kernel
theorem dX7_outputAt_27 : decode cX7_outputAt 27 = .ok (.ireturn, 1) := by decide +kernel
theorem dX7_outputAt_28 : decode cX7_outputAt 28 = .ok (.iload_n 1, 1) := by decide +kernel
theorem dX7_outputAt_29 : decode cX7_outputAt 29 = .ok (.istore_n 2, 1) := by decide +kernel
theorem dX7_outputAt_30 : decode cX7_outputAt 30 = .ok (.iconst 0, 1) := by decide +kernel
theorem dX7_outputAt_31 : decode cX7_outputAt 31 = .ok (.istore_n 3, 1) := by decide +kernel
theorem dX7_outputAt_32 : decode cX7_outputAt 32 = .ok (.aload_n 0, 1) := by decide +kernel
theorem dX7_outputAt_33 : decode cX7_outputAt 33 = .ok (.iconst 0, 1) := by decide +kernel
theorem dX7_outputAt_34 : decode cX7_outputAt 34 = .ok (.invokevirtual 266, 3) := by decide +kernel
theorem dX7_outputAt_37 : decode cX7_outputAt 37 = .ok (.istore 4, 2) := by decide +kernel
theorem dX7_outputAt_39 : decode cX7_outputAt 39 = .ok (.iload_n 2, 1) := by decide +kernel
theorem dX7_outputAt_40 : decode cX7_outputAt 40 = .ok (.iload 4, 2) := by decide +kernel
theorem dX7_outputAt_42 : decode cX7_outputAt 42 = .ok (.invokestatic 269, 3) := by decide +kernel
theorem dX7_outputAt_45 : decode cX7_outputAt 45 = .ok (.iconst 1, 1) := by decide +kernel
theorem dX7_outputAt_46 : decode cX7_outputAt 46 = .ok (.iadd, 1) := by decide +kernel
theorem dX7_outputAt_47 : decode cX7_outputAt 47 = .ok (.if_icmp .le 28, 3) := by decide +kernel
theorem dX7_outputAt_50 : decode cX7_outputAt 50 = .ok (.iload_n 2, 1) := by decide +kernel
theorem dX7_outputAt_51 : decode cX7_outputAt 51 = .ok (.iload 4, 2) := by decide +kernel
theorem dX7_outputAt_53 : decode cX7_outputAt 53 = .ok (.invokestatic 269, 3) := by decide +kernel
theorem dX7_outputAt_56 : decode cX7_outputAt 56 = .ok (.iconst 2, 1) := by decide +kernel
theorem dX7_outputAt_57 : decode cX7_outputAt 57 = .ok (.iadd, 1) := by decide +kernel
theorem dX7_outputAt_58 : decode cX7_outputAt 58 = .ok (.isub, 1) := by decide +kernel
theorem dX7_outputAt_59 : decode cX7_outputAt 59 = .ok (.istore_n 2, 1) := by decide +kernel
theorem dX7_outputAt_60 : decode cX7_outputAt 60 = .ok (.iload_n 3, 1) := by decide +kernel
theorem dX7_outputAt_61 : decode cX7_outputAt 61 = .ok (.iload 4, 2) := by decide +kernel
theorem dX7_outputAt_63 : decode cX7_outputAt 63 = .ok (.iadd, 1) := by decide +kernel
theorem dX7_outputAt_64 : decode cX7_outputAt 64 = .ok (.istore_n 3, 1) := by decide +kernel
theorem dX7_outputAt_65 : decode cX7_outputAt 65 = .ok (.aload_n 0, 1) := by decide +kernel
theorem dX7_outputAt_66 : decode cX7_outputAt 66 = .ok (.iload_n 3, 1) := by decide +kernel
theorem dX7_outputAt_67 : decode cX7_outputAt 67 = .ok (.invokevirtual 266, 3) := by decide +kernel
theorem dX7_outputAt_70 : decode cX7_outputAt 70 = .ok (.istore 4, 2) := by decide +kernel
theorem dX7_outputAt_72 : decode cX7_outputAt 72 = .ok (.goto (-33), 3) := by decide +kernel
theorem dX7_outputAt_75 : decode cX7_outputAt 75 = .ok (.aload_n 0, 1) := by decide +kernel
theorem dX7_outputAt_76 : decode cX7_outputAt 76 = .ok (.getfield 9, 3) := by decide +kernel
theorem dX7_outputAt_79 : decode cX7_outputAt 79 = .ok (.iload_n 3, 1) := by decide +kernel
theorem dX7_outputAt_80 : decode cX7_outputAt 80 = .ok (.baload, 1) := by decide +kernel
theorem dX7_outputAt_81 : decode cX7_outputAt 81 = .ok (.iload 4, 2) := by decide +kernel
theorem dX7_outputAt_83 : decode cX7_outputAt 83 = .ok (.iload_n 2, 1) := by decide +kernel
theorem dX7_outputAt_84 : decode cX7_outputAt 84 = .ok (.invokestatic 275, 3) := by decide +kernel
theorem dX7_outputAt_87 : decode cX7_outputAt 87 = .ok (.ireturn, 1) := by decide +kernel
theorem dX7_isConsistent_0 : decode cX7_isConsistent 0 = .ok (.aload_n 0, 1) := by decide +kernel
theorem dX7_isConsistent_1 : decode cX7_isConsistent 1 = .ok (.iconst 0, 1) := by decide +kernel
theorem dX7_isConsistent_2 : decode cX7_isConsistent 2 = .ok (.putfield 93, 3) := by decide +kernel
theorem dX7_isConsistent_5 : decode cX7_isConsistent 5 = .ok (.iconst 0, 1) := by decide +kernel
theorem dX7_isConsistent_6 : decode cX7_isConsistent 6 = .ok (.istore_n 1, 1) := by decide +kernel
theorem dX7_isConsistent_7 : decode cX7_isConsistent 7 = .ok (.iconst 0, 1) := by decide +kernel
theorem dX7_isConsistent_8 : decode cX7_isConsistent 8 = .ok (.istore_n 2, 1) := by decide +kernel
theorem dX7_isConsistent_9 : decode cX7_isConsistent 9 = .ok (.iload_n 2, 1) := by decide +kernel
theorem dX7_isConsistent_10 : decode cX7_isConsistent 10 = .ok (.aload_n 0, 1) := by decide +kernel
theorem dX7_isConsistent_11 : decode cX7_isConsistent 11 = .ok (.getfield 187, 3) := by decide +kernel
theorem dX7_isConsistent_14 : decode cX7_isConsistent 14 = .ok (.if_icmp .ge 27, 3) := by decide +kernel
theorem dX7_isConsistent_17 : decode cX7_isConsistent 17 = .ok (.iload_n 1, 1) := by decide +kernel
theorem dX7_isConsistent_18 : decode cX7_isConsistent 18 = .ok (.aload_n 0, 1) := by decide +kernel
theorem dX7_isConsistent_19 : decode cX7_isConsistent 19 = .ok (.getfield 9, 3) := by decide +kernel
theorem dX7_isConsistent_22 : decode cX7_isConsistent 22 = .ok (.iload_n 2, 1) := by decide +kernel
theorem dX7_isConsistent_23 : decode cX7_isConsistent 23 = .ok (.baload, 1) := by decide +kernel
theorem dX7_isConsistent_24 : decode cX7_isConsistent 24 = .ok (.iconst 2, 1) := by decide +kernel
theorem dX7_isConsistent_25 : decode cX7_isConsistent 25 = .ok (.if_icmp .ne 7, 3) := by decide +kernel
theorem dX7_isConsistent_28 : decode cX7_isConsistent 28 = .ok (.iconst 1, 1) := by decide +kernel
theorem dX7_isConsistent_29 : decode cX7_isConsistent 29 = .ok (.goto 4, 3) := by decide +kernel
theorem dX7_isConsistent_32 : decode cX7_isConsistent 32 = .ok (.iconst 0, 1) := by decide +kernel
theorem dX7_isConsistent_33 : decode cX7_isConsistent 33 = .ok (.iadd, 1) := by decide +kernel
theorem dX7_isConsistent_34 : decode cX7_isConsistent 34 = .ok (.istore_n 1, 1) := by decide +kernel
theorem dX7_isConsistent_35 : decode cX7_isConsistent 35 = .ok (.iinc 2 1, 3) := by decide +kernel
theorem dX7_isConsistent_38 : decode cX7_isConsistent 38 = .ok (.goto (-29), 3) := by decide +kernel
theorem dX7_isConsistent_41 : decode cX7_isConsistent 41 = .ok (.iload_n 1, 1) := by decide +kernel
theorem dX7_isConsistent_42 : decode cX7_isConsistent 42 = .ok (.aload_n 0, 1) := by decide +kernel
theorem dX7_isConsistent_43 : decode cX7_isConsistent 43 = .ok (.getfield 203, 3) := by decide +kernel
theorem dX7_isConsistent_46 : decode cX7_isConsistent 46 = .ok (.if_icmp .ne 7, 3) := by decide +kernel
theorem dX7_isConsistent_49 : decode cX7_isConsistent 49 = .ok (.iconst 1, 1) := by decide +kernel
theorem dX7_isConsistent_50 : decode cX7_isConsistent 50 = .ok (.goto 4, 3) := by decide +kernel
theorem dX7_isConsistent_53 : decode cX7_isConsistent 53 = .ok (.iconst 0, 1) := by decide +kernel
theorem dX7_isConsistent_54 : decode cX7_isConsistent 54 = .ok (.istore_n 2, 1) := by decide +kernel
theorem dX7_isConsistent_55 : decode cX7_isConsistent 55 = .ok (.iconst 0, 1) := by decide +kernel
theorem dX7_isConsistent_56 : decode cX7_isConsistent 56 = .ok (.istore_n 3, 1) := by decide +kernel
theorem dX7_isConsistent_57 : decode cX7_isConsistent 57 = .ok (.iload_n 3, 1) := by decide +kernel
theorem dX7_isConsistent_58 : decode cX7_isConsistent 58 = .ok (.aload_n 0, 1) := by decide +kernel
theorem dX7_isConsistent_59 : decode cX7_isConsistent 59 = .ok (.getfield 140, 3) := by decide +kernel
theorem dX7_isConsistent_62 : decode cX7_isConsistent 62 = .ok (.if_icmp .ge 43, 3) := by decide +kernel
theorem dX7_isConsistent_65 : decode cX7_isConsistent 65 = .ok (.iload_n 2, 1) := by decide +kernel
theorem dX7_isConsistent_66 : decode cX7_isConsistent 66 = .ok (.ifCond .eq 31, 3) := by decide +kernel
theorem dX7_isConsistent_69 : decode cX7_isConsistent 69 = .ok (.aload_n 0, 1) := by decide +kernel
theorem dX7_isConsistent_70 : decode cX7_isConsistent 70 = .ok (.getfield 35, 3) := by decide +kernel
theorem dX7_isConsistent_73 : decode cX7_isConsistent 73 = .ok (.iload_n 3, 1) := by decide +kernel
theorem dX7_isConsistent_74 : decode cX7_isConsistent 74 = .ok (.baload, 1) := by decide +kernel
theorem dX7_isConsistent_75 : decode cX7_isConsistent 75 = .ok (.ifCond .ne 18, 3) := by decide +kernel
theorem dX7_isConsistent_78 : decode cX7_isConsistent 78 = .ok (.aload_n 0, 1) := by decide +kernel
theorem dX7_isConsistent_79 : decode cX7_isConsistent 79 = .ok (.getfield 81, 3) := by decide +kernel
theorem dX7_isConsistent_82 : decode cX7_isConsistent 82 = .ok (.iload_n 3, 1) := by decide +kernel
theorem dX7_isConsistent_83 : decode cX7_isConsistent 83 = .ok (.iaload, 1) := by decide +kernel
theorem dX7_isConsistent_84 : decode cX7_isConsistent 84 = .ok (.aload_n 0, 1) := by decide +kernel
theorem dX7_isConsistent_85 : decode cX7_isConsistent 85 = .ok (.getfield 84, 3) := by decide +kernel
theorem dX7_isConsistent_88 : decode cX7_isConsistent 88 = .ok (.iload_n 3, 1) := by decide +kernel
theorem dX7_isConsistent_89 : decode cX7_isConsistent 89 = .ok (.iaload, 1) := by decide +kernel
theorem dX7_isConsistent_90 : decode cX7_isConsistent 90 = .ok (.if_icmp .gt 7, 3) := by decide +kernel
theorem dX7_isConsistent_93 : decode cX7_isConsistent 93 = .ok (.iconst 1, 1) := by decide +kernel
theorem dX7_isConsistent_94 : decode cX7_isConsistent 94 = .ok (.goto 4, 3) := by decide +kernel
theorem dX7_isConsistent_97 : decode cX7_isConsistent 97 = .ok (.iconst 0, 1) := by decide +kernel
theorem dX7_isConsistent_98 : decode cX7_isConsistent 98 = .ok (.istore_n 2, 1) := by decide +kernel
theorem dX7_isConsistent_99 : decode cX7_isConsistent 99 = .ok (.iinc 3 1, 3) := by decide +kernel
theorem dX7_isConsistent_102 : decode cX7_isConsistent 102 = .ok (.goto (-45), 3) := by decide +kernel
theorem dX7_isConsistent_105 : decode cX7_isConsistent 105 = .ok (.iload_n 2, 1) := by decide +kernel
theorem dX7_isConsistent_106 : decode cX7_isConsistent 106 = .ok (.ireturn, 1) := by decide +kernel
theorem dL_dayNumber_0 : decode cL_dayNumber 0 = .ok (.aload 4, 2) := by decide +kernel
theorem dL_dayNumber_2 : decode cL_dayNumber 2 = .ok (.iconst 0, 1) := by decide +kernel
theorem dL_dayNumber_3 : decode cL_dayNumber 3 = .ok (.aload_n 0, 1) := by decide +kernel
theorem dL_dayNumber_4 : decode cL_dayNumber 4 = .ok (.iload_n 1, 1) := by decide +kernel
theorem dL_dayNumber_5 : decode cL_dayNumber 5 = .ok (.iload_n 2, 1) := by decide +kernel
theorem dL_dayNumber_6 : decode cL_dayNumber 6 = .ok (.iload_n 3, 1) := by decide +kernel
theorem dL_dayNumber_7 : decode cL_dayNumber 7 = .ok (.invokevirtual 7, 3) := by decide +kernel
theorem dL_dayNumber_10 : decode cL_dayNumber 10 = .ok (.i2l, 1) := by decide +kernel
theorem dL_dayNumber_11 : decode cL_dayNumber 11 = .ok (.lastore, 1) := by decide +kernel
theorem dL_dayNumber_12 : decode cL_dayNumber 12 = .ok (.goto 7, 3) := by decide +kernel
theorem dL_dayNumber_15 : decode cL_dayNumber 15 = .ok (.astore 5, 2) := by decide +kernel
theorem dL_dayNumber_17 : decode cL_dayNumber 17 = .ok (.iconst 1, 1) := by decide +kernel
theorem dL_dayNumber_18 : decode cL_dayNumber 18 = .ok (.ireturn, 1) := by decide +kernel
theorem dL_dayNumber_19 : decode cL_dayNumber 19 = .ok (.iconst 0, 1) := by decide +kernel
theorem dL_dayNumber_20 : decode cL_dayNumber 20 = .ok (.ireturn, 1) := by decide +kernel
theorem dL_dayNumberByMonths_0 : decode cL_dayNumberByMonths 0 = .ok (.aload 4, 2) := by decide +kernel
theorem dL_dayNumberByMonths_2 : decode cL_dayNumberByMonths 2 = .ok (.iconst 0, 1) := by decide +kernel
theorem dL_dayNumberByMonths_3 : decode cL_dayNumberByMonths 3 = .ok (.aload_n 0, 1) := by decide +kernel
theorem dL_dayNumberByMonths_4 : decode cL_dayNumberByMonths 4 = .ok (.iload_n 1, 1) := by decide +kernel
theorem dL_dayNumberByMonths_5 : decode cL_dayNumberByMonths 5 = .ok (.iload_n 2, 1) := by decide +kernel
theorem dL_dayNumberByMonths_6 : decode cL_dayNumberByMonths 6 = .ok (.iload_n 3, 1) := by decide +kernel
theorem dL_dayNumberByMonths_7 : decode cL_dayNumberByMonths 7 = .ok (.invokevirtual 15, 3) := by decide +kernel
theorem dL_dayNumberByMonths_10 : decode cL_dayNumberByMonths 10 = .ok (.i2l, 1) := by decide +kernel
theorem dL_dayNumberByMonths_11 : decode cL_dayNumberByMonths 11 = .ok (.lastore, 1) := by decide +kernel
theorem dL_dayNumberByMonths_12 : decode cL_dayNumberByMonths 12 = .ok (.goto 7, 3) := by decide +kernel
theorem dL_dayNumberByMonths_15 : decode cL_dayNumberByMonths 15 = .ok (.astore 5, 2) := by decide +kernel
theorem dL_dayNumberByMonths_17 : decode cL_dayNumberByMonths 17 = .ok (.iconst 1, 1) := by decide +kernel
theorem dL_dayNumberByMonths_18 : decode cL_dayNumberByMonths 18 = .ok (.ireturn, 1) := by decide +kernel
theorem dL_dayNumberByMonths_19 : decode cL_dayNumberByMonths 19 = .ok (.iconst 0, 1) := by decide +kernel
theorem dL_dayNumberByMonths_20 : decode cL_dayNumberByMonths 20 = .ok (.ireturn, 1) := by decide +kernel
theorem dL_yearOf_0 : decode cL_yearOf 0 = .ok (.aload_n 2, 1) := by decide +kernel
theorem dL_yearOf_1 : decode cL_yearOf 1 = .ok (.iconst 0, 1) := by decide +kernel
theorem dL_yearOf_2 : decode cL_yearOf 2 = .ok (.aload_n 0, 1) := by decide +kernel
theorem dL_yearOf_3 : decode cL_yearOf 3 = .ok (.iload_n 1, 1) := by decide +kernel
theorem dL_yearOf_4 : decode cL_yearOf 4 = .ok (.invokevirtual 18, 3) := by decide +kernel
theorem dL_yearOf_7 : decode cL_yearOf 7 = .ok (.i2l, 1) := by decide +kernel
theorem dL_yearOf_8 : decode cL_yearOf 8 = .ok (.lastore, 1) := by decide +kernel
theorem dL_yearOf_9 : decode cL_yearOf 9 = .ok (.goto 6, 3) := by decide +kernel
theorem dL_yearOf_12 : decode cL_yearOf 12 = .ok (.astore_n 3, 1) := by decide +kernel
theorem dL_yearOf_13 : decode cL_yearOf 13 = .ok (.iconst 1, 1) := by decide +kernel
theorem dL_yearOf_14 : decode cL_yearOf 14 = .ok (.ireturn, 1) := by decide +kernel
theorem dL_yearOf_15 : decode cL_yearOf 15 = .ok (.iconst 0, 1) := by decide +kernel
theorem dL_yearOf_16 : decode cL_yearOf 16 = .ok (.ireturn, 1) := by decide +kernel
theorem dL_monthOf_0 : decode cL_monthOf 0 = .ok (.aload_n 2, 1) := by decide +kernel
theorem dL_monthOf_1 : decode cL_monthOf 1 = .ok (.iconst 0, 1) := by decide +kernel
theorem dL_monthOf_2 : decode cL_monthOf 2 = .ok (.aload_n 0, 1) := by decide +kernel
theorem dL_monthOf_3 : decode cL_monthOf 3 = .ok (.iload_n 1, 1) := by decide +kernel
theorem dL_monthOf_4 : decode cL_monthOf 4 = .ok (.invokevirtual 22, 3) := by decide +kernel
theorem dL_monthOf_7 : decode cL_monthOf 7 = .ok (.i2l, 1) := by decide +kernel
theorem dL_monthOf_8 : decode cL_monthOf 8 = .ok (.lastore, 1) := by decide +kernel
theorem dL_monthOf_9 : decode cL_monthOf 9 = .ok (.goto 6, 3) := by decide +kernel
theorem dL_monthOf_12 : decode cL_monthOf 12 = .ok (.astore_n 3, 1) := by decide +kernel
theorem dL_monthOf_13 : decode cL_monthOf 13 = .ok (.iconst 1, 1) := by decide +kernel
theorem dL_monthOf_14 : decode cL_monthOf 14 = .ok (.ireturn, 1) := by decide +kernel
theorem dL_monthOf_15 : decode cL_monthOf 15 = .ok (.iconst 0, 1) := by decide +kernel
theorem dL_monthOf_16 : decode cL_monthOf 16 = .ok (.ireturn, 1) := by decide +kernel
theorem dL_dayOfMonth_0 : decode cL_dayOfMonth 0 = .ok (.aload_n 2, 1) := by decide +kernel
theorem dL_dayOfMonth_1 : decode cL_dayOfMonth 1 = .ok (.iconst 0, 1) := by decide +kernel
theorem dL_dayOfMonth_2 : decode cL_dayOfMonth 2 = .ok (.aload_n 0, 1) := by decide +kernel
theorem dL_dayOfMonth_3 : decode cL_dayOfMonth 3 = .ok (.iload_n 1, 1) := by decide +kernel
theorem dL_dayOfMonth_4 : decode cL_dayOfMonth 4 = .ok (.invokevirtual 25, 3) := by decide +kernel
theorem dL_dayOfMonth_7 : decode cL_dayOfMonth 7 = .ok (.i2l, 1) := by decide +kernel
theorem dL_dayOfMonth_8 : decode cL_dayOfMonth 8 = .ok (.lastore, 1) := by decide +kernel
theorem dL_dayOfMonth_9 : decode cL_dayOfMonth 9 = .ok (.goto 6, 3) := by decide +kernel
theorem dL_dayOfMonth_12 : decode cL_dayOfMonth 12 = .ok (.astore_n 3, 1) := by decide +kernel
theorem dL_dayOfMonth_13 : decode cL_dayOfMonth 13 = .ok (.iconst 1, 1) := by decide +kernel
theorem dL_dayOfMonth_14 : decode cL_dayOfMonth 14 = .ok (.ireturn, 1) := by decide +kernel
theorem dL_dayOfMonth_15 : decode cL_dayOfMonth 15 = .ok (.iconst 0, 1) := by decide +kernel
theorem dL_dayOfMonth_16 : decode cL_dayOfMonth 16 = .ok (.ireturn, 1) := by decide +kernel
theorem dL_monthsAfter_0 : decode cL_monthsAfter 0 = .ok (.aload_n 3, 1) := by decide +kernel
theorem dL_monthsAfter_1 : decode cL_monthsAfter 1 = .ok (.iconst 0, 1) := by decide +kernel
theorem dL_monthsAfter_2 : decode cL_monthsAfter 2 = .ok (.aload_n 0, 1) := by decide +kernel
theorem dL_monthsAfter_3 : decode cL_monthsAfter 3 = .ok (.iload_n 1, 1) := by decide +kernel
theorem dL_monthsAfter_4 : decode cL_monthsAfter 4 = .ok (.iload_n 2, 1) := by decide +kernel
theorem dL_monthsAfter_5 : decode cL_monthsAfter 5 = .ok (.invokevirtual 28, 3) := by decide +kernel
theorem dL_monthsAfter_8 : decode cL_monthsAfter 8 = .ok (.i2l, 1) := by decide +kernel
theorem dL_monthsAfter_9 : decode cL_monthsAfter 9 = .ok (.lastore, 1) := by decide +kernel
theorem dL_monthsAfter_10 : decode cL_monthsAfter 10 = .ok (.goto 7, 3) := by decide +kernel
theorem dL_monthsAfter_13 : decode cL_monthsAfter 13 = .ok (.astore 4, 2) := by decide +kernel
theorem dL_monthsAfter_15 : decode cL_monthsAfter 15 = .ok (.iconst 1, 1) := by decide +kernel
theorem dL_monthsAfter_16 : decode cL_monthsAfter 16 = .ok (.ireturn, 1) := by decide +kernel
theorem dL_monthsAfter_17 : decode cL_monthsAfter 17 = .ok (.iconst 0, 1) := by decide +kernel
theorem dL_monthsAfter_18 : decode cL_monthsAfter 18 = .ok (.ireturn, 1) := by decide +kernel
theorem dL_advance_0 : decode cL_advance 0 = .ok (.aload_n 2, 1) := by decide +kernel
theorem dL_advance_1 : decode cL_advance 1 = .ok (.iconst 0, 1) := by decide +kernel
theorem dL_advance_2 : decode cL_advance 2 = .ok (.aload_n 0, 1) := by decide +kernel
theorem dL_advance_3 : decode cL_advance 3 = .ok (.iload_n 1, 1) := by decide +kernel
theorem dL_advance_4 : decode cL_advance 4 = .ok (.invokevirtual 32, 3) := by decide +kernel
theorem dL_advance_7 : decode cL_advance 7 = .ok (.i2l, 1) := by decide +kernel
theorem dL_advance_8 : decode cL_advance 8 = .ok (.lastore, 1) := by decide +kernel
theorem dL_advance_9 : decode cL_advance 9 = .ok (.goto 9, 3) := by decide +kernel
theorem dL_advance_12 : decode cL_advance 12 = .ok (.astore_n 3, 1) := by decide +kernel
theorem dL_advance_13 : decode cL_advance 13 = .ok (.iconst 1, 1) := by decide +kernel
theorem dL_advance_14 : decode cL_advance 14 = .ok (.ireturn, 1) := by decide +kernel
theorem dL_advance_15 : decode cL_advance 15 = .ok (.astore_n 3, 1) := by decide +kernel
theorem dL_advance_16 : decode cL_advance 16 = .ok (.iconst 2, 1) := by decide +kernel
theorem dL_advance_17 : decode cL_advance 17 = .ok (.ireturn, 1) := by decide +kernel
theorem dL_advance_18 : decode cL_advance 18 = .ok (.iconst 0, 1) := by decide +kernel
theorem dL_advance_19 : decode cL_advance 19 = .ok (.ireturn, 1) := by decide +kernel
theorem dL_impose_0 : decode cL_impose 0 = .ok (.aload 4, 2) := by decide +kernel
theorem dL_impose_2 : decode cL_impose 2 = .ok (.iconst 0, 1) := by decide +kernel
theorem dL_impose_3 : decode cL_impose 3 = .ok (.aload_n 0, 1) := by decide +kernel
theorem dL_impose_4 : decode cL_impose 4 = .ok (.iload_n 1, 1) := by decide +kernel
theorem dL_impose_5 : decode cL_impose 5 = .ok (.iload_n 2, 1) := by decide +kernel
theorem dL_impose_6 : decode cL_impose 6 = .ok (.iload_n 3, 1) := by decide +kernel
theorem dL_impose_7 : decode cL_impose 7 = .ok (.invokevirtual 37, 3) := by decide +kernel
theorem dL_impose_10 : decode cL_impose 10 = .ok (.i2l, 1) := by decide +kernel
theorem dL_impose_11 : decode cL_impose 11 = .ok (.lastore, 1) := by decide +kernel
theorem dL_impose_12 : decode cL_impose 12 = .ok (.goto 11, 3) := by decide +kernel
theorem dL_impose_15 : decode cL_impose 15 = .ok (.astore 5, 2) := by decide +kernel
theorem dL_impose_17 : decode cL_impose 17 = .ok (.iconst 1, 1) := by decide +kernel
theorem dL_impose_18 : decode cL_impose 18 = .ok (.ireturn, 1) := by decide +kernel
theorem dL_impose_19 : decode cL_impose 19 = .ok (.astore 5, 2) := by decide +kernel
theorem dL_impose_21 : decode cL_impose 21 = .ok (.iconst 2, 1) := by decide +kernel
theorem dL_impose_22 : decode cL_impose 22 = .ok (.ireturn, 1) := by decide +kernel
theorem dL_impose_23 : decode cL_impose 23 = .ok (.iconst 0, 1) := by decide +kernel
theorem dL_impose_24 : decode cL_impose 24 = .ok (.ireturn, 1) := by decide +kernel
theorem dL_imposeConsecutive_0 : decode cL_imposeConsecutive 0 = .ok (.aload 5, 2) := by decide +kernel
theorem dL_imposeConsecutive_2 : decode cL_imposeConsecutive 2 = .ok (.iconst 0, 1) := by decide +kernel
theorem dL_imposeConsecutive_3 : decode cL_imposeConsecutive 3 = .ok (.aload_n 0, 1) := by decide +kernel
theorem dL_imposeConsecutive_4 : decode cL_imposeConsecutive 4 = .ok (.iload_n 1, 1) := by decide +kernel
theorem dL_imposeConsecutive_5 : decode cL_imposeConsecutive 5 = .ok (.iload_n 2, 1) := by decide +kernel
theorem dL_imposeConsecutive_6 : decode cL_imposeConsecutive 6 = .ok (.iload_n 3, 1) := by decide +kernel
theorem dL_imposeConsecutive_7 : decode cL_imposeConsecutive 7 = .ok (.iload 4, 2) := by decide +kernel
theorem dL_imposeConsecutive_9 : decode cL_imposeConsecutive 9 = .ok (.invokevirtual 40, 3) := by decide +kernel
theorem dL_imposeConsecutive_12 : decode cL_imposeConsecutive 12 = .ok (.i2l, 1) := by decide +kernel
theorem dL_imposeConsecutive_13 : decode cL_imposeConsecutive 13 = .ok (.lastore, 1) := by decide +kernel
theorem dL_imposeConsecutive_14 : decode cL_imposeConsecutive 14 = .ok (.goto 15, 3) := by decide +kernel
theorem dL_imposeConsecutive_17 : decode cL_imposeConsecutive 17 = .ok (.astore 6, 2) := by decide +kernel
theorem dL_imposeConsecutive_19 : decode cL_imposeConsecutive 19 = .ok (.iconst 1, 1) := by decide +kernel
theorem dL_imposeConsecutive_20 : decode cL_imposeConsecutive 20 = .ok (.ireturn, 1) := by decide +kernel
theorem dL_imposeConsecutive_21 : decode cL_imposeConsecutive 21 = .ok (.astore 6, 2) := by decide +kernel
theorem dL_imposeConsecutive_23 : decode cL_imposeConsecutive 23 = .ok (.iconst 2, 1) := by decide +kernel
theorem dL_imposeConsecutive_24 : decode cL_imposeConsecutive 24 = .ok (.ireturn, 1) := by decide +kernel
theorem dL_imposeConsecutive_25 : decode cL_imposeConsecutive 25 = .ok (.astore 6, 2) := by decide +kernel
theorem dL_imposeConsecutive_27 : decode cL_imposeConsecutive 27 = .ok (.iconst 3, 1) := by decide +kernel
theorem dL_imposeConsecutive_28 : decode cL_imposeConsecutive 28 = .ok (.ireturn, 1) := by decide +kernel
theorem dL_imposeConsecutive_29 : decode cL_imposeConsecutive 29 = .ok (.iconst 0, 1) := by decide +kernel
theorem dL_imposeConsecutive_30 : decode cL_imposeConsecutive 30 = .ok (.ireturn, 1) := by decide +kernel
theorem dL_addRemand_0 : decode cL_addRemand 0 = .ok (.aload 4, 2) := by decide +kernel
theorem dL_addRemand_2 : decode cL_addRemand 2 = .ok (.iconst 0, 1) := by decide +kernel
theorem dL_addRemand_3 : decode cL_addRemand 3 = .ok (.aload_n 0, 1) := by decide +kernel
theorem dL_addRemand_4 : decode cL_addRemand 4 = .ok (.iload_n 1, 1) := by decide +kernel
theorem dL_addRemand_5 : decode cL_addRemand 5 = .ok (.iload_n 2, 1) := by decide +kernel
theorem dL_addRemand_6 : decode cL_addRemand 6 = .ok (.iload_n 3, 1) := by decide +kernel
theorem dL_addRemand_7 : decode cL_addRemand 7 = .ok (.invokevirtual 46, 3) := by decide +kernel
theorem dL_addRemand_10 : decode cL_addRemand 10 = .ok (.i2l, 1) := by decide +kernel
theorem dL_addRemand_11 : decode cL_addRemand 11 = .ok (.lastore, 1) := by decide +kernel
theorem dL_addRemand_12 : decode cL_addRemand 12 = .ok (.goto 15, 3) := by decide +kernel
theorem dL_addRemand_15 : decode cL_addRemand 15 = .ok (.astore 5, 2) := by decide +kernel
theorem dL_addRemand_17 : decode cL_addRemand 17 = .ok (.iconst 1, 1) := by decide +kernel
theorem dL_addRemand_18 : decode cL_addRemand 18 = .ok (.ireturn, 1) := by decide +kernel
theorem dL_addRemand_19 : decode cL_addRemand 19 = .ok (.astore 5, 2) := by decide +kernel
theorem dL_addRemand_21 : decode cL_addRemand 21 = .ok (.iconst 2, 1) := by decide +kernel
theorem dL_addRemand_22 : decode cL_addRemand 22 = .ok (.ireturn, 1) := by decide +kernel
theorem dL_addRemand_23 : decode cL_addRemand 23 = .ok (.astore 5, 2) := by decide +kernel
theorem dL_addRemand_25 : decode cL_addRemand 25 = .ok (.iconst 3, 1) := by decide +kernel
theorem dL_addRemand_26 : decode cL_addRemand 26 = .ok (.ireturn, 1) := by decide +kernel
theorem dL_addRemand_27 : decode cL_addRemand 27 = .ok (.iconst 0, 1) := by decide +kernel
theorem dL_addRemand_28 : decode cL_addRemand 28 = .ok (.ireturn, 1) := by decide +kernel
theorem dL_quash_0 : decode cL_quash 0 = .ok (.aload_n 2, 1) := by decide +kernel
theorem dL_quash_1 : decode cL_quash 1 = .ok (.iconst 0, 1) := by decide +kernel
theorem dL_quash_2 : decode cL_quash 2 = .ok (.aload_n 0, 1) := by decide +kernel
theorem dL_quash_3 : decode cL_quash 3 = .ok (.iload_n 1, 1) := by decide +kernel
theorem dL_quash_4 : decode cL_quash 4 = .ok (.invokevirtual 49, 3) := by decide +kernel
theorem dL_quash_7 : decode cL_quash 7 = .ok (.i2l, 1) := by decide +kernel
theorem dL_quash_8 : decode cL_quash 8 = .ok (.lastore, 1) := by decide +kernel
theorem dL_quash_9 : decode cL_quash 9 = .ok (.goto 9, 3) := by decide +kernel
theorem dL_quash_12 : decode cL_quash 12 = .ok (.astore_n 3, 1) := by decide +kernel
theorem dL_quash_13 : decode cL_quash 13 = .ok (.iconst 1, 1) := by decide +kernel
theorem dL_quash_14 : decode cL_quash 14 = .ok (.ireturn, 1) := by decide +kernel
theorem dL_quash_15 : decode cL_quash 15 = .ok (.astore_n 3, 1) := by decide +kernel
theorem dL_quash_16 : decode cL_quash 16 = .ok (.iconst 2, 1) := by decide +kernel
theorem dL_quash_17 : decode cL_quash 17 = .ok (.ireturn, 1) := by decide +kernel
theorem dL_quash_18 : decode cL_quash 18 = .ok (.iconst 0, 1) := by decide +kernel
theorem dL_quash_19 : decode cL_quash 19 = .ok (.ireturn, 1) := by decide +kernel
theorem dL_award_0 : decode cL_award 0 = .ok (.aload_n 2, 1) := by decide +kernel
theorem dL_award_1 : decode cL_award 1 = .ok (.iconst 0, 1) := by decide +kernel
theorem dL_award_2 : decode cL_award 2 = .ok (.aload_n 0, 1) := by decide +kernel
theorem dL_award_3 : decode cL_award 3 = .ok (.iload_n 1, 1) := by decide +kernel
theorem dL_award_4 : decode cL_award 4 = .ok (.invokevirtual 52, 3) := by decide +kernel
theorem dL_award_7 : decode cL_award 7 = .ok (.i2l, 1) := by decide +kernel
theorem dL_award_8 : decode cL_award 8 = .ok (.lastore, 1) := by decide +kernel
theorem dL_award_9 : decode cL_award 9 = .ok (.goto 9, 3) := by decide +kernel
theorem dL_award_12 : decode cL_award 12 = .ok (.astore_n 3, 1) := by decide +kernel
theorem dL_award_13 : decode cL_award 13 = .ok (.iconst 1, 1) := by decide +kernel
theorem dL_award_14 : decode cL_award 14 = .ok (.ireturn, 1) := by decide +kernel
theorem dL_award_15 : decode cL_award 15 = .ok (.astore_n 3, 1) := by decide +kernel
theorem dL_award_16 : decode cL_award 16 = .ok (.iconst 2, 1) := by decide +kernel
theorem dL_award_17 : decode cL_award 17 = .ok (.ireturn, 1) := by decide +kernel
theorem dL_award_18 : decode cL_award 18 = .ok (.iconst 0, 1) := by decide +kernel
theorem dL_award_19 : decode cL_award 19 = .ok (.ireturn, 1) := by decide +kernel
theorem dL_giveBack_0 : decode cL_giveBack 0 = .ok (.aload_n 3, 1) := by decide +kernel
theorem dL_giveBack_1 : decode cL_giveBack 1 = .ok (.iconst 0, 1) := by decide +kernel
theorem dL_giveBack_2 : decode cL_giveBack 2 = .ok (.aload_n 0, 1) := by decide +kernel
theorem dL_giveBack_3 : decode cL_giveBack 3 = .ok (.iload_n 1, 1) := by decide +kernel
theorem dL_giveBack_4 : decode cL_giveBack 4 = .ok (.iload_n 2, 1) := by decide +kernel
theorem dL_giveBack_5 : decode cL_giveBack 5 = .ok (.invokevirtual 55, 3) := by decide +kernel
theorem dL_giveBack_8 : decode cL_giveBack 8 = .ok (.i2l, 1) := by decide +kernel
theorem dL_giveBack_9 : decode cL_giveBack 9 = .ok (.lastore, 1) := by decide +kernel
theorem dL_giveBack_10 : decode cL_giveBack 10 = .ok (.goto 11, 3) := by decide +kernel
theorem dL_giveBack_13 : decode cL_giveBack 13 = .ok (.astore 4, 2) := by decide +kernel
theorem dL_giveBack_15 : decode cL_giveBack 15 = .ok (.iconst 1, 1) := by decide +kernel
theorem dL_giveBack_16 : decode cL_giveBack 16 = .ok (.ireturn, 1) := by decide +kernel
theorem dL_giveBack_17 : decode cL_giveBack 17 = .ok (.astore 4, 2) := by decide +kernel
theorem dL_giveBack_19 : decode cL_giveBack 19 = .ok (.iconst 2, 1) := by decide +kernel
theorem dL_giveBack_20 : decode cL_giveBack 20 = .ok (.ireturn, 1) := by decide +kernel
theorem dL_giveBack_21 : decode cL_giveBack 21 = .ok (.iconst 0, 1) := by decide +kernel
theorem dL_giveBack_22 : decode cL_giveBack 22 = .ok (.ireturn, 1) := by decide +kernel
theorem dL_recall_0 : decode cL_recall 0 = .ok (.aload_n 2, 1) := by decide +kernel
theorem dL_recall_1 : decode cL_recall 1 = .ok (.iconst 0, 1) := by decide +kernel
theorem dL_recall_2 : decode cL_recall 2 = .ok (.aload_n 0, 1) := by decide +kernel
theorem dL_recall_3 : decode cL_recall 3 = .ok (.iload_n 1, 1) := by decide +kernel
theorem dL_recall_4 : decode cL_recall 4 = .ok (.invokevirtual 58, 3) := by decide +kernel
theorem dL_recall_7 : decode cL_recall 7 = .ok (.i2l, 1) := by decide +kernel
theorem dL_recall_8 : decode cL_recall 8 = .ok (.lastore, 1) := by decide +kernel
theorem dL_recall_9 : decode cL_recall 9 = .ok (.goto 9, 3) := by decide +kernel
theorem dL_recall_12 : decode cL_recall 12 = .ok (.astore_n 3, 1) := by decide +kernel
theorem dL_recall_13 : decode cL_recall 13 = .ok (.iconst 1, 1) := by decide +kernel
theorem dL_recall_14 : decode cL_recall 14 = .ok (.ireturn, 1) := by decide +kernel
theorem dL_recall_15 : decode cL_recall 15 = .ok (.astore_n 3, 1) := by decide +kernel
theorem dL_recall_16 : decode cL_recall 16 = .ok (.iconst 2, 1) := by decide +kernel
theorem dL_recall_17 : decode cL_recall 17 = .ok (.ireturn, 1) := by decide +kernel
theorem dL_recall_18 : decode cL_recall 18 = .ok (.iconst 0, 1) := by decide +kernel
theorem dL_recall_19 : decode cL_recall 19 = .ok (.ireturn, 1) := by decide +kernel
theorem dL_kindOf_0 : decode cL_kindOf 0 = .ok (.aload_n 2, 1) := by decide +kernel
theorem dL_kindOf_1 : decode cL_kindOf 1 = .ok (.iconst 0, 1) := by decide +kernel
theorem dL_kindOf_2 : decode cL_kindOf 2 = .ok (.aload_n 0, 1) := by decide +kernel
theorem dL_kindOf_3 : decode cL_kindOf 3 = .ok (.iload_n 1, 1) := by decide +kernel
theorem dL_kindOf_4 : decode cL_kindOf 4 = .ok (.invokevirtual 61, 3) := by decide +kernel
theorem dL_kindOf_7 : decode cL_kindOf 7 = .ok (.i2l, 1) := by decide +kernel
theorem dL_kindOf_8 : decode cL_kindOf 8 = .ok (.lastore, 1) := by decide +kernel
theorem dL_kindOf_9 : decode cL_kindOf 9 = .ok (.goto 6, 3) := by decide +kernel
theorem dL_kindOf_12 : decode cL_kindOf 12 = .ok (.astore_n 3, 1) := by decide +kernel
theorem dL_kindOf_13 : decode cL_kindOf 13 = .ok (.iconst 1, 1) := by decide +kernel
theorem dL_kindOf_14 : decode cL_kindOf 14 = .ok (.ireturn, 1) := by decide +kernel
theorem dL_kindOf_15 : decode cL_kindOf 15 = .ok (.iconst 0, 1) := by decide +kernel
theorem dL_kindOf_16 : decode cL_kindOf 16 = .ok (.ireturn, 1) := by decide +kernel
theorem dL_isQuashed_0 : decode cL_isQuashed 0 = .ok (.aload_n 2, 1) := by decide +kernel
theorem dL_isQuashed_1 : decode cL_isQuashed 1 = .ok (.iconst 0, 1) := by decide +kernel
theorem dL_isQuashed_2 : decode cL_isQuashed 2 = .ok (.aload_n 0, 1) := by decide +kernel
theorem dL_isQuashed_3 : decode cL_isQuashed 3 = .ok (.iload_n 1, 1) := by decide +kernel
theorem dL_isQuashed_4 : decode cL_isQuashed 4 = .ok (.invokevirtual 64, 3) := by decide +kernel
theorem dL_isQuashed_7 : decode cL_isQuashed 7 = .ok (.ifCond .eq 7, 3) := by decide +kernel
theorem dL_isQuashed_10 : decode cL_isQuashed 10 = .ok (.lconst 1, 1) := by decide +kernel
theorem dL_isQuashed_11 : decode cL_isQuashed 11 = .ok (.goto 4, 3) := by decide +kernel
theorem dL_isQuashed_14 : decode cL_isQuashed 14 = .ok (.lconst 0, 1) := by decide +kernel
theorem dL_isQuashed_15 : decode cL_isQuashed 15 = .ok (.lastore, 1) := by decide +kernel
theorem dL_isQuashed_16 : decode cL_isQuashed 16 = .ok (.goto 6, 3) := by decide +kernel
theorem dL_isQuashed_19 : decode cL_isQuashed 19 = .ok (.astore_n 3, 1) := by decide +kernel
theorem dL_isQuashed_20 : decode cL_isQuashed 20 = .ok (.iconst 1, 1) := by decide +kernel
theorem dL_isQuashed_21 : decode cL_isQuashed 21 = .ok (.ireturn, 1) := by decide +kernel
theorem dL_isQuashed_22 : decode cL_isQuashed 22 = .ok (.iconst 0, 1) := by decide +kernel
theorem dL_isQuashed_23 : decode cL_isQuashed 23 = .ok (.ireturn, 1) := by decide +kernel
theorem dL_parentOf_0 : decode cL_parentOf 0 = .ok (.aload_n 2, 1) := by decide +kernel
theorem dL_parentOf_1 : decode cL_parentOf 1 = .ok (.iconst 0, 1) := by decide +kernel
theorem dL_parentOf_2 : decode cL_parentOf 2 = .ok (.aload_n 0, 1) := by decide +kernel
theorem dL_parentOf_3 : decode cL_parentOf 3 = .ok (.iload_n 1, 1) := by decide +kernel
theorem dL_parentOf_4 : decode cL_parentOf 4 = .ok (.invokevirtual 68, 3) := by decide +kernel
theorem dL_parentOf_7 : decode cL_parentOf 7 = .ok (.i2l, 1) := by decide +kernel
theorem dL_parentOf_8 : decode cL_parentOf 8 = .ok (.lastore, 1) := by decide +kernel
theorem dL_parentOf_9 : decode cL_parentOf 9 = .ok (.goto 12, 3) := by decide +kernel
theorem dL_parentOf_12 : decode cL_parentOf 12 = .ok (.astore_n 3, 1) := by decide +kernel
theorem dL_parentOf_13 : decode cL_parentOf 13 = .ok (.iconst 1, 1) := by decide +kernel
theorem dL_parentOf_14 : decode cL_parentOf 14 = .ok (.ireturn, 1) := by decide +kernel
theorem dL_parentOf_15 : decode cL_parentOf 15 = .ok (.astore_n 3, 1) := by decide +kernel
theorem dL_parentOf_16 : decode cL_parentOf 16 = .ok (.iconst 2, 1) := by decide +kernel
theorem dL_parentOf_17 : decode cL_parentOf 17 = .ok (.ireturn, 1) := by decide +kernel
theorem dL_parentOf_18 : decode cL_parentOf 18 = .ok (.astore_n 3, 1) := by decide +kernel
theorem dL_parentOf_19 : decode cL_parentOf 19 = .ok (.iconst 3, 1) := by decide +kernel
theorem dL_parentOf_20 : decode cL_parentOf 20 = .ok (.ireturn, 1) := by decide +kernel
theorem dL_parentOf_21 : decode cL_parentOf 21 = .ok (.iconst 0, 1) := by decide +kernel
theorem dL_parentOf_22 : decode cL_parentOf 22 = .ok (.ireturn, 1) := by decide +kernel
theorem dL_chainLength_0 : decode cL_chainLength 0 = .ok (.aload_n 2, 1) := by decide +kernel
theorem dL_chainLength_1 : decode cL_chainLength 1 = .ok (.iconst 0, 1) := by decide +kernel
theorem dL_chainLength_2 : decode cL_chainLength 2 = .ok (.aload_n 0, 1) := by decide +kernel
theorem dL_chainLength_3 : decode cL_chainLength 3 = .ok (.iload_n 1, 1) := by decide +kernel
theorem dL_chainLength_4 : decode cL_chainLength 4 = .ok (.invokevirtual 73, 3) := by decide +kernel
theorem dL_chainLength_7 : decode cL_chainLength 7 = .ok (.i2l, 1) := by decide +kernel
theorem dL_chainLength_8 : decode cL_chainLength 8 = .ok (.lastore, 1) := by decide +kernel
theorem dL_chainLength_9 : decode cL_chainLength 9 = .ok (.goto 9, 3) := by decide +kernel
theorem dL_chainLength_12 : decode cL_chainLength 12 = .ok (.astore_n 3, 1) := by decide +kernel
theorem dL_chainLength_13 : decode cL_chainLength 13 = .ok (.iconst 1, 1) := by decide +kernel
theorem dL_chainLength_14 : decode cL_chainLength 14 = .ok (.ireturn, 1) := by decide +kernel
theorem dL_chainLength_15 : decode cL_chainLength 15 = .ok (.astore_n 3, 1) := by decide +kernel
theorem dL_chainLength_16 : decode cL_chainLength 16 = .ok (.iconst 2, 1) := by decide +kernel
theorem dL_chainLength_17 : decode cL_chainLength 17 = .ok (.ireturn, 1) := by decide +kernel
theorem dL_chainLength_18 : decode cL_chainLength 18 = .ok (.iconst 0, 1) := by decide +kernel
theorem dL_chainLength_19 : decode cL_chainLength 19 = .ok (.ireturn, 1) := by decide +kernel
theorem dL_descendants_0 : decode cL_descendants 0 = .ok (.aload_n 2, 1) := by decide +kernel
theorem dL_descendants_1 : decode cL_descendants 1 = .ok (.iconst 0, 1) := by decide +kernel
theorem dL_descendants_2 : decode cL_descendants 2 = .ok (.aload_n 0, 1) := by decide +kernel
theorem dL_descendants_3 : decode cL_descendants 3 = .ok (.iload_n 1, 1) := by decide +kernel
theorem dL_descendants_4 : decode cL_descendants 4 = .ok (.invokevirtual 76, 3) := by decide +kernel
theorem dL_descendants_7 : decode cL_descendants 7 = .ok (.i2l, 1) := by decide +kernel
theorem dL_descendants_8 : decode cL_descendants 8 = .ok (.lastore, 1) := by decide +kernel
theorem dL_descendants_9 : decode cL_descendants 9 = .ok (.goto 9, 3) := by decide +kernel
theorem dL_descendants_12 : decode cL_descendants 12 = .ok (.astore_n 3, 1) := by decide +kernel
theorem dL_descendants_13 : decode cL_descendants 13 = .ok (.iconst 1, 1) := by decide +kernel
theorem dL_descendants_14 : decode cL_descendants 14 = .ok (.ireturn, 1) := by decide +kernel
theorem dL_descendants_15 : decode cL_descendants 15 = .ok (.astore_n 3, 1) := by decide +kernel
theorem dL_descendants_16 : decode cL_descendants 16 = .ok (.iconst 2, 1) := by decide +kernel
theorem dL_descendants_17 : decode cL_descendants 17 = .ok (.ireturn, 1) := by decide +kernel
theorem dL_descendants_18 : decode cL_descendants 18 = .ok (.iconst 0, 1) := by decide +kernel
theorem dL_descendants_19 : decode cL_descendants 19 = .ok (.ireturn, 1) := by decide +kernel
theorem dL_start_0 : decode cL_start 0 = .ok (.aload_n 2, 1) := by decide +kernel
theorem dL_start_1 : decode cL_start 1 = .ok (.iconst 0, 1) := by decide +kernel
theorem dL_start_2 : decode cL_start 2 = .ok (.aload_n 0, 1) := by decide +kernel
theorem dL_start_3 : decode cL_start 3 = .ok (.iload_n 1, 1) := by decide +kernel
theorem dL_start_4 : decode cL_start 4 = .ok (.invokevirtual 79, 3) := by decide +kernel
theorem dL_start_7 : decode cL_start 7 = .ok (.i2l, 1) := by decide +kernel
theorem dL_start_8 : decode cL_start 8 = .ok (.lastore, 1) := by decide +kernel
theorem dL_start_9 : decode cL_start 9 = .ok (.goto 9, 3) := by decide +kernel
theorem dL_start_12 : decode cL_start 12 = .ok (.astore_n 3, 1) := by decide +kernel
theorem dL_start_13 : decode cL_start 13 = .ok (.iconst 1, 1) := by decide +kernel
theorem dL_start_14 : decode cL_start 14 = .ok (.ireturn, 1) := by decide +kernel
theorem dL_start_15 : decode cL_start 15 = .ok (.astore_n 3, 1) := by decide +kernel
theorem dL_start_16 : decode cL_start 16 = .ok (.iconst 2, 1) := by decide +kernel
theorem dL_start_17 : decode cL_start 17 = .ok (.ireturn, 1) := by decide +kernel
theorem dL_start_18 : decode cL_start 18 = .ok (.iconst 0, 1) := by decide +kernel
theorem dL_start_19 : decode cL_start 19 = .ok (.ireturn, 1) := by decide +kernel
theorem dL_length_0 : decode cL_length 0 = .ok (.aload_n 2, 1) := by decide +kernel
theorem dL_length_1 : decode cL_length 1 = .ok (.iconst 0, 1) := by decide +kernel
theorem dL_length_2 : decode cL_length 2 = .ok (.aload_n 0, 1) := by decide +kernel
theorem dL_length_3 : decode cL_length 3 = .ok (.iload_n 1, 1) := by decide +kernel
theorem dL_length_4 : decode cL_length 4 = .ok (.invokevirtual 82, 3) := by decide +kernel
theorem dL_length_7 : decode cL_length 7 = .ok (.i2l, 1) := by decide +kernel
theorem dL_length_8 : decode cL_length 8 = .ok (.lastore, 1) := by decide +kernel
theorem dL_length_9 : decode cL_length 9 = .ok (.goto 9, 3) := by decide +kernel
theorem dL_length_12 : decode cL_length 12 = .ok (.astore_n 3, 1) := by decide +kernel
theorem dL_length_13 : decode cL_length 13 = .ok (.iconst 1, 1) := by decide +kernel
theorem dL_length_14 : decode cL_length 14 = .ok (.ireturn, 1) := by decide +kernel
theorem dL_length_15 : decode cL_length 15 = .ok (.astore_n 3, 1) := by decide +kernel
theorem dL_length_16 : decode cL_length 16 = .ok (.iconst 2, 1) := by decide +kernel
theorem dL_length_17 : decode cL_length 17 = .ok (.ireturn, 1) := by decide +kernel
theorem dL_length_18 : decode cL_length 18 = .ok (.iconst 0, 1) := by decide +kernel
theorem dL_length_19 : decode cL_length 19 = .ok (.ireturn, 1) := by decide +kernel
theorem dL_totalLength_0 : decode cL_totalLength 0 = .ok (.aload_n 2, 1) := by decide +kernel
theorem dL_totalLength_1 : decode cL_totalLength 1 = .ok (.iconst 0, 1) := by decide +kernel
theorem dL_totalLength_2 : decode cL_totalLength 2 = .ok (.aload_n 0, 1) := by decide +kernel
theorem dL_totalLength_3 : decode cL_totalLength 3 = .ok (.iload_n 1, 1) := by decide +kernel
theorem dL_totalLength_4 : decode cL_totalLength 4 = .ok (.invokevirtual 85, 3) := by decide +kernel
theorem dL_totalLength_7 : decode cL_totalLength 7 = .ok (.i2l, 1) := by decide +kernel
theorem dL_totalLength_8 : decode cL_totalLength 8 = .ok (.lastore, 1) := by decide +kernel
theorem dL_totalLength_9 : decode cL_totalLength 9 = .ok (.goto 9, 3) := by decide +kernel
theorem dL_totalLength_12 : decode cL_totalLength 12 = .ok (.astore_n 3, 1) := by decide +kernel
theorem dL_totalLength_13 : decode cL_totalLength 13 = .ok (.iconst 1, 1) := by decide +kernel
theorem dL_totalLength_14 : decode cL_totalLength 14 = .ok (.ireturn, 1) := by decide +kernel
theorem dL_totalLength_15 : decode cL_totalLength 15 = .ok (.astore_n 3, 1) := by decide +kernel
theorem dL_totalLength_16 : decode cL_totalLength 16 = .ok (.iconst 2, 1) := by decide +kernel
theorem dL_totalLength_17 : decode cL_totalLength 17 = .ok (.ireturn, 1) := by decide +kernel
theorem dL_totalLength_18 : decode cL_totalLength 18 = .ok (.iconst 0, 1) := by decide +kernel
theorem dL_totalLength_19 : decode cL_totalLength 19 = .ok (.ireturn, 1) := by decide +kernel
theorem dL_custodialPart_0 : decode cL_custodialPart 0 = .ok (.aload_n 2, 1) := by decide +kernel
theorem dL_custodialPart_1 : decode cL_custodialPart 1 = .ok (.iconst 0, 1) := by decide +kernel
theorem dL_custodialPart_2 : decode cL_custodialPart 2 = .ok (.aload_n 0, 1) := by decide +kernel
theorem dL_custodialPart_3 : decode cL_custodialPart 3 = .ok (.iload_n 1, 1) := by decide +kernel
theorem dL_custodialPart_4 : decode cL_custodialPart 4 = .ok (.invokevirtual 88, 3) := by decide +kernel
theorem dL_custodialPart_7 : decode cL_custodialPart 7 = .ok (.i2l, 1) := by decide +kernel
theorem dL_custodialPart_8 : decode cL_custodialPart 8 = .ok (.lastore, 1) := by decide +kernel
theorem dL_custodialPart_9 : decode cL_custodialPart 9 = .ok (.goto 9, 3) := by decide +kernel
theorem dL_custodialPart_12 : decode cL_custodialPart 12 = .ok (.astore_n 3, 1) := by decide +kernel
theorem dL_custodialPart_13 : decode cL_custodialPart 13 = .ok (.iconst 1, 1) := by decide +kernel
theorem dL_custodialPart_14 : decode cL_custodialPart 14 = .ok (.ireturn, 1) := by decide +kernel
theorem dL_custodialPart_15 : decode cL_custodialPart 15 = .ok (.astore_n 3, 1) := by decide +kernel
theorem dL_custodialPart_16 : decode cL_custodialPart 16 = .ok (.iconst 2, 1) := by decide +kernel
theorem dL_custodialPart_17 : decode cL_custodialPart 17 = .ok (.ireturn, 1) := by decide +kernel
theorem dL_custodialPart_18 : decode cL_custodialPart 18 = .ok (.iconst 0, 1) := by decide +kernel
theorem dL_custodialPart_19 : decode cL_custodialPart 19 = .ok (.ireturn, 1) := by decide +kernel
theorem dL_credit_0 : decode cL_credit 0 = .ok (.aload_n 2, 1) := by decide +kernel
theorem dL_credit_1 : decode cL_credit 1 = .ok (.iconst 0, 1) := by decide +kernel
theorem dL_credit_2 : decode cL_credit 2 = .ok (.aload_n 0, 1) := by decide +kernel
theorem dL_credit_3 : decode cL_credit 3 = .ok (.iload_n 1, 1) := by decide +kernel
theorem dL_credit_4 : decode cL_credit 4 = .ok (.invokevirtual 91, 3) := by decide +kernel
theorem dL_credit_7 : decode cL_credit 7 = .ok (.i2l, 1) := by decide +kernel
theorem dL_credit_8 : decode cL_credit 8 = .ok (.lastore, 1) := by decide +kernel
theorem dL_credit_9 : decode cL_credit 9 = .ok (.goto 9, 3) := by decide +kernel
theorem dL_credit_12 : decode cL_credit 12 = .ok (.astore_n 3, 1) := by decide +kernel
theorem dL_credit_13 : decode cL_credit 13 = .ok (.iconst 1, 1) := by decide +kernel
theorem dL_credit_14 : decode cL_credit 14 = .ok (.ireturn, 1) := by decide +kernel
theorem dL_credit_15 : decode cL_credit 15 = .ok (.astore_n 3, 1) := by decide +kernel
theorem dL_credit_16 : decode cL_credit 16 = .ok (.iconst 2, 1) := by decide +kernel
theorem dL_credit_17 : decode cL_credit 17 = .ok (.ireturn, 1) := by decide +kernel
theorem dL_credit_18 : decode cL_credit 18 = .ok (.iconst 0, 1) := by decide +kernel
theorem dL_credit_19 : decode cL_credit 19 = .ok (.ireturn, 1) := by decide +kernel
theorem dL_creditByMerging_0 : decode cL_creditByMerging 0 = .ok (.aload_n 2, 1) := by decide +kernel
theorem dL_creditByMerging_1 : decode cL_creditByMerging 1 = .ok (.iconst 0, 1) := by decide +kernel
theorem dL_creditByMerging_2 : decode cL_creditByMerging 2 = .ok (.aload_n 0, 1) := by decide +kernel
theorem dL_creditByMerging_3 : decode cL_creditByMerging 3 = .ok (.iload_n 1, 1) := by decide +kernel
theorem dL_creditByMerging_4 : decode cL_creditByMerging 4 = .ok (.invokevirtual 94, 3) := by decide +kernel
theorem dL_creditByMerging_7 : decode cL_creditByMerging 7 = .ok (.i2l, 1) := by decide +kernel
theorem dL_creditByMerging_8 : decode cL_creditByMerging 8 = .ok (.lastore, 1) := by decide +kernel
theorem dL_creditByMerging_9 : decode cL_creditByMerging 9 = .ok (.goto 9, 3) := by decide +kernel
theorem dL_creditByMerging_12 : decode cL_creditByMerging 12 = .ok (.astore_n 3, 1) := by decide +kernel
theorem dL_creditByMerging_13 : decode cL_creditByMerging 13 = .ok (.iconst 1, 1) := by decide +kernel
theorem dL_creditByMerging_14 : decode cL_creditByMerging 14 = .ok (.ireturn, 1) := by decide +kernel
theorem dL_creditByMerging_15 : decode cL_creditByMerging 15 = .ok (.astore_n 3, 1) := by decide +kernel
theorem dL_creditByMerging_16 : decode cL_creditByMerging 16 = .ok (.iconst 2, 1) := by decide +kernel
theorem dL_creditByMerging_17 : decode cL_creditByMerging 17 = .ok (.ireturn, 1) := by decide +kernel
theorem dL_creditByMerging_18 : decode cL_creditByMerging 18 = .ok (.iconst 0, 1) := by decide +kernel
theorem dL_creditByMerging_19 : decode cL_creditByMerging 19 = .ok (.ireturn, 1) := by decide +kernel
theorem dL_addedDays_0 : decode cL_addedDays 0 = .ok (.aload_n 2, 1) := by decide +kernel
theorem dL_addedDays_1 : decode cL_addedDays 1 = .ok (.iconst 0, 1) := by decide +kernel
theorem dL_addedDays_2 : decode cL_addedDays 2 = .ok (.aload_n 0, 1) := by decide +kernel
theorem dL_addedDays_3 : decode cL_addedDays 3 = .ok (.iload_n 1, 1) := by decide +kernel
theorem dL_addedDays_4 : decode cL_addedDays 4 = .ok (.invokevirtual 97, 3) := by decide +kernel
theorem dL_addedDays_7 : decode cL_addedDays 7 = .ok (.i2l, 1) := by decide +kernel
theorem dL_addedDays_8 : decode cL_addedDays 8 = .ok (.lastore, 1) := by decide +kernel
theorem dL_addedDays_9 : decode cL_addedDays 9 = .ok (.goto 9, 3) := by decide +kernel
theorem dL_addedDays_12 : decode cL_addedDays 12 = .ok (.astore_n 3, 1) := by decide +kernel
theorem dL_addedDays_13 : decode cL_addedDays 13 = .ok (.iconst 1, 1) := by decide +kernel
theorem dL_addedDays_14 : decode cL_addedDays 14 = .ok (.ireturn, 1) := by decide +kernel
theorem dL_addedDays_15 : decode cL_addedDays 15 = .ok (.astore_n 3, 1) := by decide +kernel
theorem dL_addedDays_16 : decode cL_addedDays 16 = .ok (.iconst 2, 1) := by decide +kernel
theorem dL_addedDays_17 : decode cL_addedDays 17 = .ok (.ireturn, 1) := by decide +kernel
theorem dL_addedDays_18 : decode cL_addedDays 18 = .ok (.iconst 0, 1) := by decide +kernel
theorem dL_addedDays_19 : decode cL_addedDays 19 = .ok (.ireturn, 1) := by decide +kernel
theorem dL_releaseDay_0 : decode cL_releaseDay 0 = .ok (.aload_n 2, 1) := by decide +kernel
theorem dL_releaseDay_1 : decode cL_releaseDay 1 = .ok (.iconst 0, 1) := by decide +kernel
theorem dL_releaseDay_2 : decode cL_releaseDay 2 = .ok (.aload_n 0, 1) := by decide +kernel
theorem dL_releaseDay_3 : decode cL_releaseDay 3 = .ok (.iload_n 1, 1) := by decide +kernel
theorem dL_releaseDay_4 : decode cL_releaseDay 4 = .ok (.invokevirtual 100, 3) := by decide +kernel
theorem dL_releaseDay_7 : decode cL_releaseDay 7 = .ok (.i2l, 1) := by decide +kernel
theorem dL_releaseDay_8 : decode cL_releaseDay 8 = .ok (.lastore, 1) := by decide +kernel
theorem dL_releaseDay_9 : decode cL_releaseDay 9 = .ok (.goto 9, 3) := by decide +kernel
theorem dL_releaseDay_12 : decode cL_releaseDay 12 = .ok (.astore_n 3, 1) := by decide +kernel
theorem dL_releaseDay_13 : decode cL_releaseDay 13 = .ok (.iconst 1, 1) := by decide +kernel
theorem dL_releaseDay_14 : decode cL_releaseDay 14 = .ok (.ireturn, 1) := by decide +kernel
theorem dL_releaseDay_15 : decode cL_releaseDay 15 = .ok (.astore_n 3, 1) := by decide +kernel
theorem dL_releaseDay_16 : decode cL_releaseDay 16 = .ok (.iconst 2, 1) := by decide +kernel
theorem dL_releaseDay_17 : decode cL_releaseDay 17 = .ok (.ireturn, 1) := by decide +kernel
theorem dL_releaseDay_18 : decode cL_releaseDay 18 = .ok (.iconst 0, 1) := by decide +kernel
theorem dL_releaseDay_19 : decode cL_releaseDay 19 = .ok (.ireturn, 1) := by decide +kernel
theorem dL_releaseDayByServing_0 : decode cL_releaseDayByServing 0 = .ok (.aload_n 2, 1) := by decide +kernel
theorem dL_releaseDayByServing_1 : decode cL_releaseDayByServing 1 = .ok (.iconst 0, 1) := by decide +kernel
theorem dL_releaseDayByServing_2 : decode cL_releaseDayByServing 2 = .ok (.aload_n 0, 1) := by decide +kernel
theorem dL_releaseDayByServing_3 : decode cL_releaseDayByServing 3 = .ok (.iload_n 1, 1) := by decide +kernel
theorem dL_releaseDayByServing_4 : decode cL_releaseDayByServing 4 = .ok (.invokevirtual 103, 3) := by decide +kernel
theorem dL_releaseDayByServing_7 : decode cL_releaseDayByServing 7 = .ok (.i2l, 1) := by decide +kernel
theorem dL_releaseDayByServing_8 : decode cL_releaseDayByServing 8 = .ok (.lastore, 1) := by decide +kernel
theorem dL_releaseDayByServing_9 : decode cL_releaseDayByServing 9 = .ok (.goto 9, 3) := by decide +kernel
theorem dL_releaseDayByServing_12 : decode cL_releaseDayByServing 12 = .ok (.astore_n 3, 1) := by decide +kernel
theorem dL_releaseDayByServing_13 : decode cL_releaseDayByServing 13 = .ok (.iconst 1, 1) := by decide +kernel
theorem dL_releaseDayByServing_14 : decode cL_releaseDayByServing 14 = .ok (.ireturn, 1) := by decide +kernel
theorem dL_releaseDayByServing_15 : decode cL_releaseDayByServing 15 = .ok (.astore_n 3, 1) := by decide +kernel
theorem dL_releaseDayByServing_16 : decode cL_releaseDayByServing 16 = .ok (.iconst 2, 1) := by decide +kernel
theorem dL_releaseDayByServing_17 : decode cL_releaseDayByServing 17 = .ok (.ireturn, 1) := by decide +kernel
theorem dL_releaseDayByServing_18 : decode cL_releaseDayByServing 18 = .ok (.iconst 0, 1) := by decide +kernel
theorem dL_releaseDayByServing_19 : decode cL_releaseDayByServing 19 = .ok (.ireturn, 1) := by decide +kernel
theorem dL_endDay_0 : decode cL_endDay 0 = .ok (.aload_n 2, 1) := by decide +kernel
theorem dL_endDay_1 : decode cL_endDay 1 = .ok (.iconst 0, 1) := by decide +kernel
theorem dL_endDay_2 : decode cL_endDay 2 = .ok (.aload_n 0, 1) := by decide +kernel
theorem dL_endDay_3 : decode cL_endDay 3 = .ok (.iload_n 1, 1) := by decide +kernel
theorem dL_endDay_4 : decode cL_endDay 4 = .ok (.invokevirtual 106, 3) := by decide +kernel
theorem dL_endDay_7 : decode cL_endDay 7 = .ok (.i2l, 1) := by decide +kernel
theorem dL_endDay_8 : decode cL_endDay 8 = .ok (.lastore, 1) := by decide +kernel
theorem dL_endDay_9 : decode cL_endDay 9 = .ok (.goto 9, 3) := by decide +kernel
theorem dL_endDay_12 : decode cL_endDay 12 = .ok (.astore_n 3, 1) := by decide +kernel
theorem dL_endDay_13 : decode cL_endDay 13 = .ok (.iconst 1, 1) := by decide +kernel
theorem dL_endDay_14 : decode cL_endDay 14 = .ok (.ireturn, 1) := by decide +kernel
theorem dL_endDay_15 : decode cL_endDay 15 = .ok (.astore_n 3, 1) := by decide +kernel
theorem dL_endDay_16 : decode cL_endDay 16 = .ok (.iconst 2, 1) := by decide +kernel
theorem dL_endDay_17 : decode cL_endDay 17 = .ok (.ireturn, 1) := by decide +kernel
theorem dL_endDay_18 : decode cL_endDay 18 = .ok (.iconst 0, 1) := by decide +kernel
theorem dL_endDay_19 : decode cL_endDay 19 = .ok (.ireturn, 1) := by decide +kernel
theorem dL_lastRelease_0 : decode cL_lastRelease 0 = .ok (.aload_n 1, 1) := by decide +kernel
theorem dL_lastRelease_1 : decode cL_lastRelease 1 = .ok (.iconst 0, 1) := by decide +kernel
theorem dL_lastRelease_2 : decode cL_lastRelease 2 = .ok (.aload_n 0, 1) := by decide +kernel
theorem dL_lastRelease_3 : decode cL_lastRelease 3 = .ok (.invokevirtual 109, 3) := by decide +kernel
theorem dL_lastRelease_6 : decode cL_lastRelease 6 = .ok (.i2l, 1) := by decide +kernel
theorem dL_lastRelease_7 : decode cL_lastRelease 7 = .ok (.lastore, 1) := by decide +kernel
theorem dL_lastRelease_8 : decode cL_lastRelease 8 = .ok (.goto 6, 3) := by decide +kernel
theorem dL_lastRelease_11 : decode cL_lastRelease 11 = .ok (.astore_n 2, 1) := by decide +kernel
theorem dL_lastRelease_12 : decode cL_lastRelease 12 = .ok (.iconst 1, 1) := by decide +kernel
theorem dL_lastRelease_13 : decode cL_lastRelease 13 = .ok (.ireturn, 1) := by decide +kernel
theorem dL_lastRelease_14 : decode cL_lastRelease 14 = .ok (.iconst 0, 1) := by decide +kernel
theorem dL_lastRelease_15 : decode cL_lastRelease 15 = .ok (.ireturn, 1) := by decide +kernel
theorem dL_lastEnd_0 : decode cL_lastEnd 0 = .ok (.aload_n 1, 1) := by decide +kernel
theorem dL_lastEnd_1 : decode cL_lastEnd 1 = .ok (.iconst 0, 1) := by decide +kernel
theorem dL_lastEnd_2 : decode cL_lastEnd 2 = .ok (.aload_n 0, 1) := by decide +kernel
theorem dL_lastEnd_3 : decode cL_lastEnd 3 = .ok (.invokevirtual 113, 3) := by decide +kernel
theorem dL_lastEnd_6 : decode cL_lastEnd 6 = .ok (.i2l, 1) := by decide +kernel
theorem dL_lastEnd_7 : decode cL_lastEnd 7 = .ok (.lastore, 1) := by decide +kernel
theorem dL_lastEnd_8 : decode cL_lastEnd 8 = .ok (.goto 6, 3) := by decide +kernel
theorem dL_lastEnd_11 : decode cL_lastEnd 11 = .ok (.astore_n 2, 1) := by decide +kernel
theorem dL_lastEnd_12 : decode cL_lastEnd 12 = .ok (.iconst 1, 1) := by decide +kernel
theorem dL_lastEnd_13 : decode cL_lastEnd 13 = .ok (.ireturn, 1) := by decide +kernel
theorem dL_lastEnd_14 : decode cL_lastEnd 14 = .ok (.iconst 0, 1) := by decide +kernel
theorem dL_lastEnd_15 : decode cL_lastEnd 15 = .ok (.ireturn, 1) := by decide +kernel
theorem dL_decidingTerm_0 : decode cL_decidingTerm 0 = .ok (.aload_n 1, 1) := by decide +kernel
theorem dL_decidingTerm_1 : decode cL_decidingTerm 1 = .ok (.iconst 0, 1) := by decide +kernel
theorem dL_decidingTerm_2 : decode cL_decidingTerm 2 = .ok (.aload_n 0, 1) := by decide +kernel
theorem dL_decidingTerm_3 : decode cL_decidingTerm 3 = .ok (.invokevirtual 116, 3) := by decide +kernel
theorem dL_decidingTerm_6 : decode cL_decidingTerm 6 = .ok (.i2l, 1) := by decide +kernel
theorem dL_decidingTerm_7 : decode cL_decidingTerm 7 = .ok (.lastore, 1) := by decide +kernel
theorem dL_decidingTerm_8 : decode cL_decidingTerm 8 = .ok (.goto 6, 3) := by decide +kernel
theorem dL_decidingTerm_11 : decode cL_decidingTerm 11 = .ok (.astore_n 2, 1) := by decide +kernel
theorem dL_decidingTerm_12 : decode cL_decidingTerm 12 = .ok (.iconst 1, 1) := by decide +kernel
theorem dL_decidingTerm_13 : decode cL_decidingTerm 13 = .ok (.ireturn, 1) := by decide +kernel
theorem dL_decidingTerm_14 : decode cL_decidingTerm 14 = .ok (.iconst 0, 1) := by decide +kernel
theorem dL_decidingTerm_15 : decode cL_decidingTerm 15 = .ok (.ireturn, 1) := by decide +kernel
theorem dL_termByRelease_0 : decode cL_termByRelease 0 = .ok (.aload_n 2, 1) := by decide +kernel
theorem dL_termByRelease_1 : decode cL_termByRelease 1 = .ok (.iconst 0, 1) := by decide +kernel
theorem dL_termByRelease_2 : decode cL_termByRelease 2 = .ok (.aload_n 0, 1) := by decide +kernel
theorem dL_termByRelease_3 : decode cL_termByRelease 3 = .ok (.iload_n 1, 1) := by decide +kernel
theorem dL_termByRelease_4 : decode cL_termByRelease 4 = .ok (.invokevirtual 119, 3) := by decide +kernel
theorem dL_termByRelease_7 : decode cL_termByRelease 7 = .ok (.i2l, 1) := by decide +kernel
theorem dL_termByRelease_8 : decode cL_termByRelease 8 = .ok (.lastore, 1) := by decide +kernel
theorem dL_termByRelease_9 : decode cL_termByRelease 9 = .ok (.goto 6, 3) := by decide +kernel
theorem dL_termByRelease_12 : decode cL_termByRelease 12 = .ok (.astore_n 3, 1) := by decide +kernel
theorem dL_termByRelease_13 : decode cL_termByRelease 13 = .ok (.iconst 1, 1) := by decide +kernel
theorem dL_termByRelease_14 : decode cL_termByRelease 14 = .ok (.ireturn, 1) := by decide +kernel
theorem dL_termByRelease_15 : decode cL_termByRelease 15 = .ok (.iconst 0, 1) := by decide +kernel
theorem dL_termByRelease_16 : decode cL_termByRelease 16 = .ok (.ireturn, 1) := by decide +kernel
theorem dL_recallEnd_0 : decode cL_recallEnd 0 = .ok (.aload_n 1, 1) := by decide +kernel
theorem dL_recallEnd_1 : decode cL_recallEnd 1 = .ok (.iconst 0, 1) := by decide +kernel
theorem dL_recallEnd_2 : decode cL_recallEnd 2 = .ok (.aload_n 0, 1) := by decide +kernel
theorem dL_recallEnd_3 : decode cL_recallEnd 3 = .ok (.invokevirtual 122, 3) := by decide +kernel
theorem dL_recallEnd_6 : decode cL_recallEnd 6 = .ok (.i2l, 1) := by decide +kernel
theorem dL_recallEnd_7 : decode cL_recallEnd 7 = .ok (.lastore, 1) := by decide +kernel
theorem dL_recallEnd_8 : decode cL_recallEnd 8 = .ok (.goto 6, 3) := by decide +kernel
theorem dL_recallEnd_11 : decode cL_recallEnd 11 = .ok (.astore_n 2, 1) := by decide +kernel
theorem dL_recallEnd_12 : decode cL_recallEnd 12 = .ok (.iconst 1, 1) := by decide +kernel
theorem dL_recallEnd_13 : decode cL_recallEnd 13 = .ok (.ireturn, 1) := by decide +kernel
theorem dL_recallEnd_14 : decode cL_recallEnd 14 = .ok (.iconst 0, 1) := by decide +kernel
theorem dL_recallEnd_15 : decode cL_recallEnd 15 = .ok (.ireturn, 1) := by decide +kernel
theorem dL_awardDays_0 : decode cL_awardDays 0 = .ok (.aload_n 2, 1) := by decide +kernel
theorem dL_awardDays_1 : decode cL_awardDays 1 = .ok (.iconst 0, 1) := by decide +kernel
theorem dL_awardDays_2 : decode cL_awardDays 2 = .ok (.aload_n 0, 1) := by decide +kernel
theorem dL_awardDays_3 : decode cL_awardDays 3 = .ok (.iload_n 1, 1) := by decide +kernel
theorem dL_awardDays_4 : decode cL_awardDays 4 = .ok (.invokevirtual 125, 3) := by decide +kernel
theorem dL_awardDays_7 : decode cL_awardDays 7 = .ok (.i2l, 1) := by decide +kernel
theorem dL_awardDays_8 : decode cL_awardDays 8 = .ok (.lastore, 1) := by decide +kernel
theorem dL_awardDays_9 : decode cL_awardDays 9 = .ok (.goto 6, 3) := by decide +kernel
theorem dL_awardDays_12 : decode cL_awardDays 12 = .ok (.astore_n 3, 1) := by decide +kernel
theorem dL_awardDays_13 : decode cL_awardDays 13 = .ok (.iconst 1, 1) := by decide +kernel
theorem dL_awardDays_14 : decode cL_awardDays 14 = .ok (.ireturn, 1) := by decide +kernel
theorem dL_awardDays_15 : decode cL_awardDays 15 = .ok (.iconst 0, 1) := by decide +kernel
theorem dL_awardDays_16 : decode cL_awardDays 16 = .ok (.ireturn, 1) := by decide +kernel
theorem dL_concerns_0 : decode cL_concerns 0 = .ok (.aload_n 3, 1) := by decide +kernel
theorem dL_concerns_1 : decode cL_concerns 1 = .ok (.iconst 0, 1) := by decide +kernel
theorem dL_concerns_2 : decode cL_concerns 2 = .ok (.aload_n 0, 1) := by decide +kernel
theorem dL_concerns_3 : decode cL_concerns 3 = .ok (.iload_n 1, 1) := by decide +kernel
theorem dL_concerns_4 : decode cL_concerns 4 = .ok (.iload_n 2, 1) := by decide +kernel
theorem dL_concerns_5 : decode cL_concerns 5 = .ok (.invokevirtual 128, 3) := by decide +kernel
theorem dL_concerns_8 : decode cL_concerns 8 = .ok (.ifCond .eq 7, 3) := by decide +kernel
theorem dL_concerns_11 : decode cL_concerns 11 = .ok (.lconst 1, 1) := by decide +kernel
theorem dL_concerns_12 : decode cL_concerns 12 = .ok (.goto 4, 3) := by decide +kernel
theorem dL_concerns_15 : decode cL_concerns 15 = .ok (.lconst 0, 1) := by decide +kernel
theorem dL_concerns_16 : decode cL_concerns 16 = .ok (.lastore, 1) := by decide +kernel
theorem dL_concerns_17 : decode cL_concerns 17 = .ok (.goto 7, 3) := by decide +kernel
theorem dL_concerns_20 : decode cL_concerns 20 = .ok (.astore 4, 2) := by decide +kernel
theorem dL_concerns_22 : decode cL_concerns 22 = .ok (.iconst 1, 1) := by decide +kernel
theorem dL_concerns_23 : decode cL_concerns 23 = .ok (.ireturn, 1) := by decide +kernel
theorem dL_concerns_24 : decode cL_concerns 24 = .ok (.iconst 0, 1) := by decide +kernel
theorem dL_concerns_25 : decode cL_concerns 25 = .ok (.ireturn, 1) := by decide +kernel
theorem dL_lastReleaseWithAward_0 : decode cL_lastReleaseWithAward 0 = .ok (.aload_n 2, 1) := by decide +kernel
theorem dL_lastReleaseWithAward_1 : decode cL_lastReleaseWithAward 1 = .ok (.iconst 0, 1) := by decide +kernel
theorem dL_lastReleaseWithAward_2 : decode cL_lastReleaseWithAward 2 = .ok (.aload_n 0, 1) := by decide +kernel
theorem dL_lastReleaseWithAward_3 : decode cL_lastReleaseWithAward 3 = .ok (.iload_n 1, 1) := by decide +kernel
theorem dL_lastReleaseWithAward_4 : decode cL_lastReleaseWithAward 4 = .ok (.invokevirtual 132, 3) := by decide +kernel
theorem dL_lastReleaseWithAward_7 : decode cL_lastReleaseWithAward 7 = .ok (.i2l, 1) := by decide +kernel
theorem dL_lastReleaseWithAward_8 : decode cL_lastReleaseWithAward 8 = .ok (.lastore, 1) := by decide +kernel
theorem dL_lastReleaseWithAward_9 : decode cL_lastReleaseWithAward 9 = .ok (.goto 9, 3) := by decide +kernel
theorem dL_lastReleaseWithAward_12 : decode cL_lastReleaseWithAward 12 = .ok (.astore_n 3, 1) := by decide +kernel
theorem dL_lastReleaseWithAward_13 : decode cL_lastReleaseWithAward 13 = .ok (.iconst 1, 1) := by decide +kernel
theorem dL_lastReleaseWithAward_14 : decode cL_lastReleaseWithAward 14 = .ok (.ireturn, 1) := by decide +kernel
theorem dL_lastReleaseWithAward_15 : decode cL_lastReleaseWithAward 15 = .ok (.astore_n 3, 1) := by decide +kernel
theorem dL_lastReleaseWithAward_16 : decode cL_lastReleaseWithAward 16 = .ok (.iconst 2, 1) := by decide +kernel
theorem dL_lastReleaseWithAward_17 : decode cL_lastReleaseWithAward 17 = .ok (.ireturn, 1) := by decide +kernel
theorem dL_lastReleaseWithAward_18 : decode cL_lastReleaseWithAward 18 = .ok (.iconst 0, 1) := by decide +kernel
theorem dL_lastReleaseWithAward_19 : decode cL_lastReleaseWithAward 19 = .ok (.ireturn, 1) := by decide +kernel
theorem dL_lastReleaseWithout_0 : decode cL_lastReleaseWithout 0 = .ok (.aload_n 2, 1) := by decide +kernel
theorem dL_lastReleaseWithout_1 : decode cL_lastReleaseWithout 1 = .ok (.iconst 0, 1) := by decide +kernel
theorem dL_lastReleaseWithout_2 : decode cL_lastReleaseWithout 2 = .ok (.aload_n 0, 1) := by decide +kernel
theorem dL_lastReleaseWithout_3 : decode cL_lastReleaseWithout 3 = .ok (.iload_n 1, 1) := by decide +kernel
theorem dL_lastReleaseWithout_4 : decode cL_lastReleaseWithout 4 = .ok (.invokevirtual 135, 3) := by decide +kernel
theorem dL_lastReleaseWithout_7 : decode cL_lastReleaseWithout 7 = .ok (.i2l, 1) := by decide +kernel
theorem dL_lastReleaseWithout_8 : decode cL_lastReleaseWithout 8 = .ok (.lastore, 1) := by decide +kernel
theorem dL_lastReleaseWithout_9 : decode cL_lastReleaseWithout 9 = .ok (.goto 12, 3) := by decide +kernel
theorem dL_lastReleaseWithout_12 : decode cL_lastReleaseWithout 12 = .ok (.astore_n 3, 1) := by decide +kernel
theorem dL_lastReleaseWithout_13 : decode cL_lastReleaseWithout 13 = .ok (.iconst 1, 1) := by decide +kernel
theorem dL_lastReleaseWithout_14 : decode cL_lastReleaseWithout 14 = .ok (.ireturn, 1) := by decide +kernel
theorem dL_lastReleaseWithout_15 : decode cL_lastReleaseWithout 15 = .ok (.astore_n 3, 1) := by decide +kernel
theorem dL_lastReleaseWithout_16 : decode cL_lastReleaseWithout 16 = .ok (.iconst 2, 1) := by decide +kernel
theorem dL_lastReleaseWithout_17 : decode cL_lastReleaseWithout 17 = .ok (.ireturn, 1) := by decide +kernel
theorem dL_lastReleaseWithout_18 : decode cL_lastReleaseWithout 18 = .ok (.astore_n 3, 1) := by decide +kernel
theorem dL_lastReleaseWithout_19 : decode cL_lastReleaseWithout 19 = .ok (.iconst 3, 1) := by decide +kernel
theorem dL_lastReleaseWithout_20 : decode cL_lastReleaseWithout 20 = .ok (.ireturn, 1) := by decide +kernel
theorem dL_lastReleaseWithout_21 : decode cL_lastReleaseWithout 21 = .ok (.iconst 0, 1) := by decide +kernel
theorem dL_lastReleaseWithout_22 : decode cL_lastReleaseWithout 22 = .ok (.ireturn, 1) := by decide +kernel
theorem dL_statusOn_0 : decode cL_statusOn 0 = .ok (.aload_n 2, 1) := by decide +kernel
theorem dL_statusOn_1 : decode cL_statusOn 1 = .ok (.iconst 0, 1) := by decide +kernel
theorem dL_statusOn_2 : decode cL_statusOn 2 = .ok (.aload_n 0, 1) := by decide +kernel
theorem dL_statusOn_3 : decode cL_statusOn 3 = .ok (.iload_n 1, 1) := by decide +kernel
theorem dL_statusOn_4 : decode cL_statusOn 4 = .ok (.invokevirtual 138, 3) := by decide +kernel
theorem dL_statusOn_7 : decode cL_statusOn 7 = .ok (.i2l, 1) := by decide +kernel
theorem dL_statusOn_8 : decode cL_statusOn 8 = .ok (.lastore, 1) := by decide +kernel
theorem dL_statusOn_9 : decode cL_statusOn 9 = .ok (.goto 6, 3) := by decide +kernel
theorem dL_statusOn_12 : decode cL_statusOn 12 = .ok (.astore_n 3, 1) := by decide +kernel
theorem dL_statusOn_13 : decode cL_statusOn 13 = .ok (.iconst 1, 1) := by decide +kernel
theorem dL_statusOn_14 : decode cL_statusOn 14 = .ok (.ireturn, 1) := by decide +kernel
theorem dL_statusOn_15 : decode cL_statusOn 15 = .ok (.iconst 0, 1) := by decide +kernel
theorem dL_statusOn_16 : decode cL_statusOn 16 = .ok (.ireturn, 1) := by decide +kernel
theorem dL_outputAt_0 : decode cL_outputAt 0 = .ok (.aload_n 2, 1) := by decide +kernel
theorem dL_outputAt_1 : decode cL_outputAt 1 = .ok (.iconst 0, 1) := by decide +kernel
theorem dL_outputAt_2 : decode cL_outputAt 2 = .ok (.aload_n 0, 1) := by decide +kernel
theorem dL_outputAt_3 : decode cL_outputAt 3 = .ok (.iload_n 1, 1) := by decide +kernel
theorem dL_outputAt_4 : decode cL_outputAt 4 = .ok (.invokevirtual 141, 3) := by decide +kernel
theorem dL_outputAt_7 : decode cL_outputAt 7 = .ok (.i2l, 1) := by decide +kernel
theorem dL_outputAt_8 : decode cL_outputAt 8 = .ok (.lastore, 1) := by decide +kernel
theorem dL_outputAt_9 : decode cL_outputAt 9 = .ok (.goto 6, 3) := by decide +kernel
theorem dL_outputAt_12 : decode cL_outputAt 12 = .ok (.astore_n 3, 1) := by decide +kernel
theorem dL_outputAt_13 : decode cL_outputAt 13 = .ok (.iconst 1, 1) := by decide +kernel
theorem dL_outputAt_14 : decode cL_outputAt 14 = .ok (.ireturn, 1) := by decide +kernel
theorem dL_outputAt_15 : decode cL_outputAt 15 = .ok (.iconst 0, 1) := by decide +kernel
theorem dL_outputAt_16 : decode cL_outputAt 16 = .ok (.ireturn, 1) := by decide +kernel
