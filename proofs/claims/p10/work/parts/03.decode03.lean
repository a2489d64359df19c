theorem dX7_bestPair_52 : decode cX7_bestPair 52 = .ok (.aload_n 1, 1) := by decide +kernel
theorem dX7_bestPair_53 : decode cX7_bestPair 53 = .ok (.getfield 76, 3) := by decide +kernel
theorem dX7_bestPair_56 : decode cX7_bestPair 56 = .ok (.iload_n 2, 1) := by decide +kernel
theorem dX7_bestPair_57 : decode cX7_bestPair 57 = .ok (.iload 9, 2) := by decide +kernel
theorem dX7_bestPair_59 : decode cX7_bestPair 59 = .ok (.iload 8, 2) := by decide +kernel
theorem dX7_bestPair_61 : decode cX7_bestPair 61 = .ok (.invokevirtual 88, 3) := by decide +kernel
theorem dX7_bestPair_64 : decode cX7_bestPair 64 = .ok (.lstore 10, 2) := by decide +kernel
theorem dX7_bestPair_66 : decode cX7_bestPair 66 = .ok (.lload 10, 2) := by decide +kernel
theorem dX7_bestPair_68 : decode cX7_bestPair 68 = .ok (.iload 4, 2) := by decide +kernel
theorem dX7_bestPair_70 : decode cX7_bestPair 70 = .ok (.i2l, 1) := by decide +kernel
theorem dX7_bestPair_71 : decode cX7_bestPair 71 = .ok (.lmul, 1) := by decide +kernel
theorem dX7_bestPair_72 : decode cX7_bestPair 72 = .ok (.iload 5, 2) := by decide +kernel
theorem dX7_bestPair_74 : decode cX7_bestPair 74 = .ok (.i2l, 1) := by decide +kernel
theorem dX7_bestPair_75 : decode cX7_bestPair 75 = .ok (.lmul, 1) := by decide +kernel
theorem dX7_bestPair_76 : decode cX7_bestPair 76 = .ok (.lload 6, 2) := by decide +kernel
theorem dX7_bestPair_78 : decode cX7_bestPair 78 = .ok (.iload 9, 2) := by decide +kernel
theorem dX7_bestPair_80 : decode cX7_bestPair 80 = .ok (.i2l, 1) := by decide +kernel
theorem dX7_bestPair_81 : decode cX7_bestPair 81 = .ok (.lmul, 1) := by decide +kernel
theorem dX7_bestPair_82 : decode cX7_bestPair 82 = .ok (.iload 8, 2) := by decide +kernel
theorem dX7_bestPair_84 : decode cX7_bestPair 84 = .ok (.i2l, 1) := by decide +kernel
theorem dX7_bestPair_85 : decode cX7_bestPair 85 = .ok (.lmul, 1) := by decide +kernel
theorem dX7_bestPair_86 : decode cX7_bestPair 86 = .ok (.lcmp, 1) := by decide +kernel
theorem dX7_bestPair_87 : decode cX7_bestPair 87 = .ok (.ifCond .lt 15, 3) := by decide +kernel
theorem dX7_bestPair_90 : decode cX7_bestPair 90 = .ok (.lload 10, 2) := by decide +kernel
theorem dX7_bestPair_92 : decode cX7_bestPair 92 = .ok (.lstore 6, 2) := by decide +kernel
theorem dX7_bestPair_94 : decode cX7_bestPair 94 = .ok (.iload 9, 2) := by decide +kernel
theorem dX7_bestPair_96 : decode cX7_bestPair 96 = .ok (.istore 4, 2) := by decide +kernel
theorem dX7_bestPair_98 : decode cX7_bestPair 98 = .ok (.iload 8, 2) := by decide +kernel
theorem dX7_bestPair_100 : decode cX7_bestPair 100 = .ok (.istore 5, 2) := by decide +kernel
theorem dX7_bestPair_102 : decode cX7_bestPair 102 = .ok (.iinc 9 1, 3) := by decide +kernel
theorem dX7_bestPair_105 : decode cX7_bestPair 105 = .ok (.goto (-61), 3) := by decide +kernel
theorem dX7_bestPair_108 : decode cX7_bestPair 108 = .ok (.iinc 8 1, 3) := by decide +kernel
theorem dX7_bestPair_111 : decode cX7_bestPair 111 = .ok (.goto (-76), 3) := by decide +kernel
theorem dX7_bestPair_114 : decode cX7_bestPair 114 = .ok (.sipush 10000, 3) := by decide +kernel
theorem dX7_bestPair_117 : decode cX7_bestPair 117 = .ok (.iload 5, 2) := by decide +kernel
theorem dX7_bestPair_119 : decode cX7_bestPair 119 = .ok (.imul, 1) := by decide +kernel
theorem dX7_bestPair_120 : decode cX7_bestPair 120 = .ok (.iload 4, 2) := by decide +kernel
theorem dX7_bestPair_122 : decode cX7_bestPair 122 = .ok (.iadd, 1) := by decide +kernel
theorem dX7_bestPair_123 : decode cX7_bestPair 123 = .ok (.ireturn, 1) := by decide +kernel
theorem dX7_inReach_0 : decode cX7_inReach 0 = .ok (.iload_n 1, 1) := by decide +kernel
theorem dX7_inReach_1 : decode cX7_inReach 1 = .ok (.aload_n 0, 1) := by decide +kernel
theorem dX7_inReach_2 : decode cX7_inReach 2 = .ok (.getfield 9, 3) := by decide +kernel
theorem dX7_inReach_5 : decode cX7_inReach 5 = .ok (.if_icmp .lt 27, 3) := by decide +kernel
theorem dX7_inReach_8 : decode cX7_inReach 8 = .ok (.iload_n 1, 1) := by decide +kernel
theorem dX7_inReach_9 : decode cX7_inReach 9 = .ok (.aload_n 0, 1) := by decide +kernel
theorem dX7_inReach_10 : decode cX7_inReach 10 = .ok (.getfield 15, 3) := by decide +kernel
theorem dX7_inReach_13 : decode cX7_inReach 13 = .ok (.if_icmp .gt 19, 3) := by decide +kernel
theorem dX7_inReach_16 : decode cX7_inReach 16 = .ok (.iload_n 1, 1) := by decide +kernel
theorem dX7_inReach_17 : decode cX7_inReach 17 = .ok (.aload_n 0, 1) := by decide +kernel
theorem dX7_inReach_18 : decode cX7_inReach 18 = .ok (.getfield 9, 3) := by decide +kernel
theorem dX7_inReach_21 : decode cX7_inReach 21 = .ok (.isub, 1) := by decide +kernel
theorem dX7_inReach_22 : decode cX7_inReach 22 = .ok (.sipush 300, 3) := by decide +kernel
theorem dX7_inReach_25 : decode cX7_inReach 25 = .ok (.if_icmp .gt 7, 3) := by decide +kernel
theorem dX7_inReach_28 : decode cX7_inReach 28 = .ok (.iconst 1, 1) := by decide +kernel
theorem dX7_inReach_29 : decode cX7_inReach 29 = .ok (.goto 4, 3) := by decide +kernel
theorem dX7_inReach_32 : decode cX7_inReach 32 = .ok (.iconst 0, 1) := by decide +kernel
theorem dX7_inReach_33 : decode cX7_inReach 33 = .ok (.ireturn, 1) := by decide +kernel
theorem dX7_compare_0 : decode cX7_compare 0 = .ok (.aload_n 0, 1) := by decide +kernel
theorem dX7_compare_1 : decode cX7_compare 1 = .ok (.iload_n 1, 1) := by decide +kernel
theorem dX7_compare_2 : decode cX7_compare 2 = .ok (.invokevirtual 92, 3) := by decide +kernel
theorem dX7_compare_5 : decode cX7_compare 5 = .ok (.ifCond .eq 11, 3) := by decide +kernel
theorem dX7_compare_8 : decode cX7_compare 8 = .ok (.aload_n 0, 1) := by decide +kernel
theorem dX7_compare_9 : decode cX7_compare 9 = .ok (.iload_n 2, 1) := by decide +kernel
theorem dX7_compare_10 : decode cX7_compare 10 = .ok (.invokevirtual 92, 3) := by decide +kernel
theorem dX7_compare_13 : decode cX7_compare 13 = .ok (.ifCond .ne 5, 3) := by decide +kernel
theorem dX7_compare_16 : decode cX7_compare 16 = .ok (.iconst 0, 1) := by decide +kernel
theorem dX7_compare_17 : decode cX7_compare 17 = .ok (.ireturn, 1) := by decide +kernel
theorem dX7_compare_18 : decode cX7_compare 18 = .ok (.aload_n 0, 1) := by decide +kernel
theorem dX7_compare_19 : decode cX7_compare 19 = .ok (.getfield 18, 3) := by decide +kernel
theorem dX7_compare_22 : decode cX7_compare 22 = .ok (.iload_n 1, 1) := by decide +kernel
theorem dX7_compare_23 : decode cX7_compare 23 = .ok (.aload_n 0, 1) := by decide +kernel
theorem dX7_compare_24 : decode cX7_compare 24 = .ok (.getfield 9, 3) := by decide +kernel
theorem dX7_compare_27 : decode cX7_compare 27 = .ok (.isub, 1) := by decide +kernel
theorem dX7_compare_28 : decode cX7_compare 28 = .ok (.iaload, 1) := by decide +kernel
theorem dX7_compare_29 : decode cX7_compare 29 = .ok (.i2l, 1) := by decide +kernel
theorem dX7_compare_30 : decode cX7_compare 30 = .ok (.iload_n 2, 1) := by decide +kernel
theorem dX7_compare_31 : decode cX7_compare 31 = .ok (.i2l, 1) := by decide +kernel
theorem dX7_compare_32 : decode cX7_compare 32 = .ok (.lmul, 1) := by decide +kernel
theorem dX7_compare_33 : decode cX7_compare 33 = .ok (.aload_n 0, 1) := by decide +kernel
theorem dX7_compare_34 : decode cX7_compare 34 = .ok (.getfield 18, 3) := by decide +kernel
theorem dX7_compare_37 : decode cX7_compare 37 = .ok (.iload_n 2, 1) := by decide +kernel
theorem dX7_compare_38 : decode cX7_compare 38 = .ok (.aload_n 0, 1) := by decide +kernel
theorem dX7_compare_39 : decode cX7_compare 39 = .ok (.getfield 9, 3) := by decide +kernel
theorem dX7_compare_42 : decode cX7_compare 42 = .ok (.isub, 1) := by decide +kernel
theorem dX7_compare_43 : decode cX7_compare 43 = .ok (.iaload, 1) := by decide +kernel
theorem dX7_compare_44 : decode cX7_compare 44 = .ok (.i2l, 1) := by decide +kernel
theorem dX7_compare_45 : decode cX7_compare 45 = .ok (.iload_n 1, 1) := by decide +kernel
theorem dX7_compare_46 : decode cX7_compare 46 = .ok (.i2l, 1) := by decide +kernel
theorem dX7_compare_47 : decode cX7_compare 47 = .ok (.lmul, 1) := by decide +kernel
theorem dX7_compare_48 : decode cX7_compare 48 = .ok (.invokestatic 95, 3) := by decide +kernel
theorem dX7_compare_51 : decode cX7_compare 51 = .ok (.ireturn, 1) := by decide +kernel
theorem dX7_isBetter_0 : decode cX7_isBetter 0 = .ok (.aload_n 0, 1) := by decide +kernel
theorem dX7_isBetter_1 : decode cX7_isBetter 1 = .ok (.iload_n 1, 1) := by decide +kernel
theorem dX7_isBetter_2 : decode cX7_isBetter 2 = .ok (.iload_n 2, 1) := by decide +kernel
theorem dX7_isBetter_3 : decode cX7_isBetter 3 = .ok (.invokevirtual 46, 3) := by decide +kernel
theorem dX7_isBetter_6 : decode cX7_isBetter 6 = .ok (.istore_n 3, 1) := by decide +kernel
theorem dX7_isBetter_7 : decode cX7_isBetter 7 = .ok (.iload_n 3, 1) := by decide +kernel
theorem dX7_isBetter_8 : decode cX7_isBetter 8 = .ok (.ifCond .gt 12, 3) := by decide +kernel
theorem dX7_isBetter_11 : decode cX7_isBetter 11 = .ok (.iload_n 3, 1) := by decide +kernel
theorem dX7_isBetter_12 : decode cX7_isBetter 12 = .ok (.ifCond .ne 12, 3) := by decide +kernel
theorem dX7_isBetter_15 : decode cX7_isBetter 15 = .ok (.iload_n 1, 1) := by decide +kernel
theorem dX7_isBetter_16 : decode cX7_isBetter 16 = .ok (.iload_n 2, 1) := by decide +kernel
theorem dX7_isBetter_17 : decode cX7_isBetter 17 = .ok (.if_icmp .le 7, 3) := by decide +kernel
theorem dX7_isBetter_20 : decode cX7_isBetter 20 = .ok (.iconst 1, 1) := by decide +kernel
theorem dX7_isBetter_21 : decode cX7_isBetter 21 = .ok (.goto 4, 3) := by decide +kernel
theorem dX7_isBetter_24 : decode cX7_isBetter 24 = .ok (.iconst 0, 1) := by decide +kernel
theorem dX7_isBetter_25 : decode cX7_isBetter 25 = .ok (.ireturn, 1) := by decide +kernel
theorem dX7_isPeak_0 : decode cX7_isPeak 0 = .ok (.iload_n 1, 1) := by decide +kernel
theorem dX7_isPeak_1 : decode cX7_isPeak 1 = .ok (.aload_n 0, 1) := by decide +kernel
theorem dX7_isPeak_2 : decode cX7_isPeak 2 = .ok (.getfield 9, 3) := by decide +kernel
theorem dX7_isPeak_5 : decode cX7_isPeak 5 = .ok (.if_icmp .eq 14, 3) := by decide +kernel
theorem dX7_isPeak_8 : decode cX7_isPeak 8 = .ok (.aload_n 0, 1) := by decide +kernel
theorem dX7_isPeak_9 : decode cX7_isPeak 9 = .ok (.iload_n 1, 1) := by decide +kernel
theorem dX7_isPeak_10 : decode cX7_isPeak 10 = .ok (.iload_n 1, 1) := by decide +kernel
theorem dX7_isPeak_11 : decode cX7_isPeak 11 = .ok (.iconst 1, 1) := by decide +kernel
theorem dX7_isPeak_12 : decode cX7_isPeak 12 = .ok (.isub, 1) := by decide +kernel
theorem dX7_isPeak_13 : decode cX7_isPeak 13 = .ok (.invokevirtual 46, 3) := by decide +kernel
theorem dX7_isPeak_16 : decode cX7_isPeak 16 = .ok (.ifCond .le 26, 3) := by decide +kernel
theorem dX7_isPeak_19 : decode cX7_isPeak 19 = .ok (.iload_n 1, 1) := by decide +kernel
theorem dX7_isPeak_20 : decode cX7_isPeak 20 = .ok (.aload_n 0, 1) := by decide +kernel
theorem dX7_isPeak_21 : decode cX7_isPeak 21 = .ok (.getfield 15, 3) := by decide +kernel
theorem dX7_isPeak_24 : decode cX7_isPeak 24 = .ok (.if_icmp .eq 14, 3) := by decide +kernel
theorem dX7_isPeak_27 : decode cX7_isPeak 27 = .ok (.aload_n 0, 1) := by decide +kernel
theorem dX7_isPeak_28 : decode cX7_isPeak 28 = .ok (.iload_n 1, 1) := by decide +kernel
theorem dX7_isPeak_29 : decode cX7_isPeak 29 = .ok (.iload_n 1, 1) := by decide +kernel
theorem dX7_isPeak_30 : decode cX7_isPeak 30 = .ok (.iconst 1, 1) := by decide +kernel
theorem dX7_isPeak_31 : decode cX7_isPeak 31 = .ok (.iadd, 1) := by decide +kernel
theorem dX7_isPeak_32 : decode cX7_isPeak 32 = .ok (.invokevirtual 46, 3) := by decide +kernel
theorem dX7_isPeak_35 : decode cX7_isPeak 35 = .ok (.ifCond .lt 7, 3) := by decide +kernel
theorem dX7_isPeak_38 : decode cX7_isPeak 38 = .ok (.iconst 1, 1) := by decide +kernel
theorem dX7_isPeak_39 : decode cX7_isPeak 39 = .ok (.goto 4, 3) := by decide +kernel
theorem dX7_isPeak_42 : decode cX7_isPeak 42 = .ok (.iconst 0, 1) := by decide +kernel
theorem dX7_isPeak_43 : decode cX7_isPeak 43 = .ok (.ireturn, 1) := by decide +kernel
theorem dX7_listPeaks_0 : decode cX7_listPeaks 0 = .ok (.aload_n 0, 1) := by decide +kernel
theorem dX7_listPeaks_1 : decode cX7_listPeaks 1 = .ok (.iconst 0, 1) := by decide +kernel
theorem dX7_listPeaks_2 : decode cX7_listPeaks 2 = .ok (.putfield 28, 3) := by decide +kernel
theorem dX7_listPeaks_5 : decode cX7_listPeaks 5 = .ok (.aload_n 0, 1) := by decide +kernel
theorem dX7_listPeaks_6 : decode cX7_listPeaks 6 = .ok (.getfield 9, 3) := by decide +kernel
theorem dX7_listPeaks_9 : decode cX7_listPeaks 9 = .ok (.istore_n 1, 1) := by decide +kernel
theorem dX7_listPeaks_10 : decode cX7_listPeaks 10 = .ok (.iload_n 1, 1) := by decide +kernel
theorem dX7_listPeaks_11 : decode cX7_listPeaks 11 = .ok (.aload_n 0, 1) := by decide +kernel
theorem dX7_listPeaks_12 : decode cX7_listPeaks 12 = .ok (.getfield 15, 3) := by decide +kernel
theorem dX7_listPeaks_15 : decode cX7_listPeaks 15 = .ok (.if_icmp .gt 49, 3) := by decide +kernel
theorem dX7_listPeaks_18 : decode cX7_listPeaks 18 = .ok (.aload_n 0, 1) := by decide +kernel
theorem dX7_listPeaks_19 : decode cX7_listPeaks 19 = .ok (.iload_n 1, 1) := by decide +kernel
theorem dX7_listPeaks_20 : decode cX7_listPeaks 20 = .ok (.invokevirtual 55, 3) := by decide +kernel
theorem dX7_listPeaks_23 : decode cX7_listPeaks 23 = .ok (.ifCond .eq 35, 3) := by decide +kernel
theorem dX7_listPeaks_26 : decode cX7_listPeaks 26 = .ok (.aload_n 0, 1) := by decide +kernel
theorem dX7_listPeaks_27 : decode cX7_listPeaks 27 = .ok (.getfield 28, 3) := by decide +kernel
theorem dX7_listPeaks_30 : decode cX7_listPeaks 30 = .ok (.aload_n 0, 1) := by decide +kernel
theorem dX7_listPeaks_31 : decode cX7_listPeaks 31 = .ok (.getfield 25, 3) := by decide +kernel
theorem dX7_listPeaks_34 : decode cX7_listPeaks 34 = .ok (.arraylength, 1) := by decide +kernel
theorem dX7_listPeaks_35 : decode cX7_listPeaks 35 = .ok (.if_icmp .ge 23, 3) := by decide +kernel
theorem dX7_listPeaks_38 : decode cX7_listPeaks 38 = .ok (.aload_n 0, 1) := by decide +kernel
theorem dX7_listPeaks_39 : decode cX7_listPeaks 39 = .ok (.getfield 25, 3) := by decide +kernel
theorem dX7_listPeaks_42 : decode cX7_listPeaks 42 = .ok (.aload_n 0, 1) := by decide +kernel
theorem dX7_listPeaks_43 : decode cX7_listPeaks 43 = .ok (.getfield 28, 3) := by decide +kernel
theorem dX7_listPeaks_46 : decode cX7_listPeaks 46 = .ok (.iload_n 1, 1) := by decide +kernel
theorem dX7_listPeaks_47 : decode cX7_listPeaks 47 = .ok (.iastore, 1) := by decide +kernel
theorem dX7_listPeaks_48 : decode cX7_listPeaks 48 = .ok (.aload_n 0, 1) := by decide +kernel
theorem dX7_listPeaks_49 : decode cX7_listPeaks 49 = .ok (.dup, 1) := by decide +kernel
theorem dX7_listPeaks_50 : decode cX7_listPeaks 50 = .ok (.getfield 28, 3) := by decide +kernel
theorem dX7_listPeaks_53 : decode cX7_listPeaks 53 = .ok (.iconst 1, 1) := by decide +kernel
theorem dX7_listPeaks_54 : decode cX7_listPeaks 54 = .ok (.iadd, 1) := by decide +kernel
theorem dX7_listPeaks_55 : decode cX7_listPeaks 55 = .ok (.putfield 28, 3) := by decide +kernel
theorem dX7_listPeaks_58 : decode cX7_listPeaks 58 = .ok (.iinc 1 1, 3) := by decide +kernel
theorem dX7_listPeaks_61 : decode cX7_listPeaks 61 = .ok (.goto (-51), 3) := by decide +kernel
theorem dX7_listPeaks_64 : decode cX7_listPeaks 64 = .ok (.return_, 1) := by decide +kernel
theorem dX7_betterPeaks_0 : decode cX7_betterPeaks 0 = .ok (.iconst 0, 1) := by decide +kernel
theorem dX7_betterPeaks_1 : decode cX7_betterPeaks 1 = .ok (.istore_n 2, 1) := by decide +kernel
theorem dX7_betterPeaks_2 : decode cX7_betterPeaks 2 = .ok (.iconst 0, 1) := by decide +kernel
theorem dX7_betterPeaks_3 : decode cX7_betterPeaks 3 = .ok (.istore_n 3, 1) := by decide +kernel
theorem dX7_betterPeaks_4 : decode cX7_betterPeaks 4 = .ok (.iload_n 3, 1) := by decide +kernel
theorem dX7_betterPeaks_5 : decode cX7_betterPeaks 5 = .ok (.aload_n 0, 1) := by decide +kernel
theorem dX7_betterPeaks_6 : decode cX7_betterPeaks 6 = .ok (.getfield 28, 3) := by decide +kernel
theorem dX7_betterPeaks_9 : decode cX7_betterPeaks 9 = .ok (.if_icmp .ge 40, 3) := by decide +kernel
theorem dX7_betterPeaks_12 : decode cX7_betterPeaks 12 = .ok (.iload_n 3, 1) := by decide +kernel
theorem dX7_betterPeaks_13 : decode cX7_betterPeaks 13 = .ok (.aload_n 0, 1) := by decide +kernel
theorem dX7_betterPeaks_14 : decode cX7_betterPeaks 14 = .ok (.getfield 25, 3) := by decide +kernel
theorem dX7_betterPeaks_17 : decode cX7_betterPeaks 17 = .ok (.arraylength, 1) := by decide +kernel
theorem dX7_betterPeaks_18 : decode cX7_betterPeaks 18 = .ok (.if_icmp .ge 31, 3) := by decide +kernel
theorem dX7_betterPeaks_21 : decode cX7_betterPeaks 21 = .ok (.iload_n 2, 1) := by decide +kernel
theorem dX7_betterPeaks_22 : decode cX7_betterPeaks 22 = .ok (.aload_n 0, 1) := by decide +kernel
theorem dX7_betterPeaks_23 : decode cX7_betterPeaks 23 = .ok (.aload_n 0, 1) := by decide +kernel
theorem dX7_betterPeaks_24 : decode cX7_betterPeaks 24 = .ok (.getfield 25, 3) := by decide +kernel
theorem dX7_betterPeaks_27 : decode cX7_betterPeaks 27 = .ok (.iload_n 3, 1) := by decide +kernel
theorem dX7_betterPeaks_28 : decode cX7_betterPeaks 28 = .ok (.iaload, 1) := by decide +kernel
theorem dX7_betterPeaks_29 : decode cX7_betterPeaks 29 = .ok (.iload_n 1, 1) := by decide +kernel
theorem dX7_betterPeaks_30 : decode cX7_betterPeaks 30 = .ok (.invokevirtual 100, 3) := by decide +kernel
theorem dX7_betterPeaks_33 : decode cX7_betterPeaks 33 = .ok (.ifCond .eq 7, 3) := by decide +kernel
theorem dX7_betterPeaks_36 : decode cX7_betterPeaks 36 = .ok (.iconst 1, 1) := by decide +kernel
theorem dX7_betterPeaks_37 : decode cX7_betterPeaks 37 = .ok (.goto 4, 3) := by decide +kernel
theorem dX7_betterPeaks_40 : decode cX7_betterPeaks 40 = .ok (.iconst 0, 1) := by decide +kernel
theorem dX7_betterPeaks_41 : decode cX7_betterPeaks 41 = .ok (.iadd, 1) := by decide +kernel
theorem dX7_betterPeaks_42 : decode cX7_betterPeaks 42 = .ok (.istore_n 2, 1) := by decide +kernel
theorem dX7_betterPeaks_43 : decode cX7_betterPeaks 43 = .ok (.iinc 3 1, 3) := by decide +kernel
theorem dX7_betterPeaks_46 : decode cX7_betterPeaks 46 = .ok (.goto (-42), 3) := by decide +kernel
theorem dX7_betterPeaks_49 : decode cX7_betterPeaks 49 = .ok (.iload_n 2, 1) := by decide +kernel
theorem dX7_betterPeaks_50 : decode cX7_betterPeaks 50 = .ok (.ireturn, 1) := by decide +kernel
theorem dX7_setAside_0 : decode cX7_setAside 0 = .ok (.aload_n 0, 1) := by decide +kernel
theorem dX7_setAside_1 : decode cX7_setAside 1 = .ok (.getfield 9, 3) := by decide +kernel
theorem dX7_setAside_4 : decode cX7_setAside 4 = .ok (.istore_n 3, 1) := by decide +kernel
theorem dX7_setAside_5 : decode cX7_setAside 5 = .ok (.iload_n 3, 1) := by decide +kernel
theorem dX7_setAside_6 : decode cX7_setAside 6 = .ok (.aload_n 0, 1) := by decide +kernel
theorem dX7_setAside_7 : decode cX7_setAside 7 = .ok (.getfield 15, 3) := by decide +kernel
theorem dX7_setAside_10 : decode cX7_setAside 10 = .ok (.if_icmp .gt 40, 3) := by decide +kernel
theorem dX7_setAside_13 : decode cX7_setAside 13 = .ok (.aload_n 0, 1) := by decide +kernel
theorem dX7_setAside_14 : decode cX7_setAside 14 = .ok (.getfield 22, 3) := by decide +kernel
theorem dX7_setAside_17 : decode cX7_setAside 17 = .ok (.iload_n 3, 1) := by decide +kernel
theorem dX7_setAside_18 : decode cX7_setAside 18 = .ok (.aload_n 0, 1) := by decide +kernel
theorem dX7_setAside_19 : decode cX7_setAside 19 = .ok (.getfield 9, 3) := by decide +kernel
theorem dX7_setAside_22 : decode cX7_setAside 22 = .ok (.isub, 1) := by decide +kernel
theorem dX7_setAside_23 : decode cX7_setAside 23 = .ok (.aload_n 0, 1) := by decide +kernel
theorem dX7_setAside_24 : decode cX7_setAside 24 = .ok (.getfield 18, 3) := by decide +kernel
theorem dX7_setAside_27 : decode cX7_setAside 27 = .ok (.iload_n 3, 1) := by decide +kernel
theorem dX7_setAside_28 : decode cX7_setAside 28 = .ok (.aload_n 0, 1) := by decide +kernel
theorem dX7_setAside_29 : decode cX7_setAside 29 = .ok (.getfield 9, 3) := by decide +kernel
theorem dX7_setAside_32 : decode cX7_setAside 32 = .ok (.isub, 1) := by decide +kernel
theorem dX7_setAside_33 : decode cX7_setAside 33 = .ok (.iaload, 1) := by decide +kernel
theorem dX7_setAside_34 : decode cX7_setAside 34 = .ok (.iconst 4, 1) := by decide +kernel
theorem dX7_setAside_35 : decode cX7_setAside 35 = .ok (.aload_n 1, 1) := by decide +kernel
theorem dX7_setAside_36 : decode cX7_setAside 36 = .ok (.iload_n 2, 1) := by decide +kernel
theorem dX7_setAside_37 : decode cX7_setAside 37 = .ok (.iload_n 3, 1) := by decide +kernel
theorem dX7_setAside_38 : decode cX7_setAside 38 = .ok (.invokevirtual 79, 3) := by decide +kernel
theorem dX7_setAside_41 : decode cX7_setAside 41 = .ok (.imul, 1) := by decide +kernel
theorem dX7_setAside_42 : decode cX7_setAside 42 = .ok (.iadd, 1) := by decide +kernel
theorem dX7_setAside_43 : decode cX7_setAside 43 = .ok (.iastore, 1) := by decide +kernel
theorem dX7_setAside_44 : decode cX7_setAside 44 = .ok (.iinc 3 1, 3) := by decide +kernel
theorem dX7_setAside_47 : decode cX7_setAside 47 = .ok (.goto (-42), 3) := by decide +kernel
theorem dX7_setAside_50 : decode cX7_setAside 50 = .ok (.return_, 1) := by decide +kernel
theorem dX7_bestIf_0 : decode cX7_bestIf 0 = .ok (.aload_n 0, 1) := by decide +kernel
theorem dX7_bestIf_1 : decode cX7_bestIf 1 = .ok (.getfield 9, 3) := by decide +kernel
theorem dX7_bestIf_4 : decode cX7_bestIf 4 = .ok (.istore 4, 2) := by decide +kernel
theorem dX7_bestIf_6 : decode cX7_bestIf 6 = .ok (.lconst 0, 1) := by decide +kernel
theorem dX7_bestIf_7 : decode cX7_bestIf 7 = .ok (.lstore 5, 2) := by decide +kernel
theorem dX7_bestIf_9 : decode cX7_bestIf 9 = .ok (.aload_n 0, 1) := by decide +kernel
theorem dX7_bestIf_10 : decode cX7_bestIf 10 = .ok (.getfield 9, 3) := by decide +kernel
theorem dX7_bestIf_13 : decode cX7_bestIf 13 = .ok (.istore 7, 2) := by decide +kernel
theorem dX7_bestIf_15 : decode cX7_bestIf 15 = .ok (.iload 7, 2) := by decide +kernel
theorem dX7_bestIf_17 : decode cX7_bestIf 17 = .ok (.aload_n 0, 1) := by decide +kernel
theorem dX7_bestIf_18 : decode cX7_bestIf 18 = .ok (.getfield 15, 3) := by decide +kernel
theorem dX7_bestIf_21 : decode cX7_bestIf 21 = .ok (.if_icmp .gt 68, 3) := by decide +kernel
theorem dX7_bestIf_24 : decode cX7_bestIf 24 = .ok (.aload_n 0, 1) := by decide +kernel
theorem dX7_bestIf_25 : decode cX7_bestIf 25 = .ok (.getfield 22, 3) := by decide +kernel
theorem dX7_bestIf_28 : decode cX7_bestIf 28 = .ok (.iload 7, 2) := by decide +kernel
theorem dX7_bestIf_30 : decode cX7_bestIf 30 = .ok (.aload_n 0, 1) := by decide +kernel
theorem dX7_bestIf_31 : decode cX7_bestIf 31 = .ok (.getfield 9, 3) := by decide +kernel
theorem dX7_bestIf_34 : decode cX7_bestIf 34 = .ok (.isub, 1) := by decide +kernel
theorem dX7_bestIf_35 : decode cX7_bestIf 35 = .ok (.iaload, 1) := by decide +kernel
theorem dX7_bestIf_36 : decode cX7_bestIf 36 = .ok (.iconst 4, 1) := by decide +kernel
theorem dX7_bestIf_37 : decode cX7_bestIf 37 = .ok (.aload_n 1, 1) := by decide +kernel
theorem dX7_bestIf_38 : decode cX7_bestIf 38 = .ok (.iload_n 2, 1) := by decide +kernel
theorem dX7_bestIf_39 : decode cX7_bestIf 39 = .ok (.iload_n 3, 1) := by decide +kernel
theorem dX7_bestIf_40 : decode cX7_bestIf 40 = .ok (.iload 7, 2) := by decide +kernel
theorem dX7_bestIf_42 : decode cX7_bestIf 42 = .ok (.invokevirtual 104, 3) := by decide +kernel
theorem dX7_bestIf_45 : decode cX7_bestIf 45 = .ok (.imul, 1) := by decide +kernel
theorem dX7_bestIf_46 : decode cX7_bestIf 46 = .ok (.isub, 1) := by decide +kernel
theorem dX7_bestIf_47 : decode cX7_bestIf 47 = .ok (.i2l, 1) := by decide +kernel
theorem dX7_bestIf_48 : decode cX7_bestIf 48 = .ok (.lstore 8, 2) := by decide +kernel
theorem dX7_bestIf_50 : decode cX7_bestIf 50 = .ok (.iload 7, 2) := by decide +kernel
theorem dX7_bestIf_52 : decode cX7_bestIf 52 = .ok (.aload_n 0, 1) := by decide +kernel
theorem dX7_bestIf_53 : decode cX7_bestIf 53 = .ok (.getfield 9, 3) := by decide +kernel
theorem dX7_bestIf_56 : decode cX7_bestIf 56 = .ok (.if_icmp .eq 19, 3) := by decide +kernel
theorem dX7_bestIf_59 : decode cX7_bestIf 59 = .ok (.lload 8, 2) := by decide +kernel
theorem dX7_bestIf_61 : decode cX7_bestIf 61 = .ok (.iload 4, 2) := by decide +kernel
theorem dX7_bestIf_63 : decode cX7_bestIf 63 = .ok (.i2l, 1) := by decide +kernel
theorem dX7_bestIf_64 : decode cX7_bestIf 64 = .ok (.lmul, 1) := by decide +kernel
theorem dX7_bestIf_65 : decode cX7_bestIf 65 = .ok (.lload 5, 2) := by decide +kernel
theorem dX7_bestIf_67 : decode cX7_bestIf 67 = .ok (.iload 7, 2) := by decide +kernel
theorem dX7_bestIf_69 : decode cX7_bestIf 69 = .ok (.i2l, 1) := by decide +kernel
theorem dX7_bestIf_70 : decode cX7_bestIf 70 = .ok (.lmul, 1) := by decide +kernel
theorem dX7_bestIf_71 : decode cX7_bestIf 71 = .ok (.lcmp, 1) := by decide +kernel
theorem dX7_bestIf_72 : decode cX7_bestIf 72 = .ok (.ifCond .lt 11, 3) := by decide +kernel
theorem dX7_bestIf_75 : decode cX7_bestIf 75 = .ok (.iload 7, 2) := by decide +kernel
theorem dX7_bestIf_77 : decode cX7_bestIf 77 = .ok (.istore 4, 2) := by decide +kernel
theorem dX7_bestIf_79 : decode cX7_bestIf 79 = .ok (.lload 8, 2) := by decide +kernel
theorem dX7_bestIf_81 : decode cX7_bestIf 81 = .ok (.lstore 5, 2) := by decide +kernel
theorem dX7_bestIf_83 : decode cX7_bestIf 83 = .ok (.iinc 7 1, 3) := by decide +kernel
theorem dX7_bestIf_86 : decode cX7_bestIf 86 = .ok (.goto (-71), 3) := by decide +kernel
theorem dX7_bestIf_89 : decode cX7_bestIf 89 = .ok (.iload 4, 2) := by decide +kernel
theorem dX7_bestIf_91 : decode cX7_bestIf 91 = .ok (.ireturn, 1) := by decide +kernel
theorem dX7_listOffs_0 : decode cX7_listOffs 0 = .ok (.iload_n 2, 1) := by decide +kernel
theorem dX7_listOffs_1 : decode cX7_listOffs 1 = .ok (.istore 4, 2) := by decide +kernel
theorem dX7_listOffs_3 : decode cX7_listOffs 3 = .ok (.iload 4, 2) := by decide +kernel
theorem dX7_listOffs_5 : decode cX7_listOffs 5 = .ok (.iload_n 3, 1) := by decide +kernel
theorem dX7_listOffs_6 : decode cX7_listOffs 6 = .ok (.if_icmp .gt 66, 3) := by decide +kernel
theorem dX7_listOffs_9 : decode cX7_listOffs 9 = .ok (.iload 4, 2) := by decide +kernel
theorem dX7_listOffs_11 : decode cX7_listOffs 11 = .ok (.iload_n 2, 1) := by decide +kernel
theorem dX7_listOffs_12 : decode cX7_listOffs 12 = .ok (.isub, 1) := by decide +kernel
theorem dX7_listOffs_13 : decode cX7_listOffs 13 = .ok (.bipush 40, 2) := by decide +kernel
theorem dX7_listOffs_15 : decode cX7_listOffs 15 = .ok (.if_icmp .gt 57, 3) := by decide +kernel
theorem dX7_listOffs_18 : decode cX7_listOffs 18 = .ok (.iconst 0, 1) := by decide +kernel
theorem dX7_listOffs_19 : decode cX7_listOffs 19 = .ok (.istore 5, 2) := by decide +kernel
theorem dX7_listOffs_21 : decode cX7_listOffs 21 = .ok (.iload 5, 2) := by decide +kernel
theorem dX7_listOffs_23 : decode cX7_listOffs 23 = .ok (.aload_n 1, 1) := by decide +kernel
theorem dX7_listOffs_24 : decode cX7_listOffs 24 = .ok (.getfield 76, 3) := by decide +kernel
theorem dX7_listOffs_27 : decode cX7_listOffs 27 = .ok (.if_icmp .ge 39, 3) := by decide +kernel
theorem dX7_listOffs_30 : decode cX7_listOffs 30 = .ok (.iload 5, 2) := by decide +kernel
theorem dX7_listOffs_32 : decode cX7_listOffs 32 = .ok (.bipush 32, 2) := by decide +kernel
theorem dX7_listOffs_34 : decode cX7_listOffs 34 = .ok (.if_icmp .ge 32, 3) := by decide +kernel
theorem dX7_listOffs_37 : decode cX7_listOffs 37 = .ok (.aload_n 0, 1) := by decide +kernel
theorem dX7_listOffs_38 : decode cX7_listOffs 38 = .ok (.getfield 31, 3) := by decide +kernel
theorem dX7_listOffs_41 : decode cX7_listOffs 41 = .ok (.iload 4, 2) := by decide +kernel
theorem dX7_listOffs_43 : decode cX7_listOffs 43 = .ok (.iload_n 2, 1) := by decide +kernel
theorem dX7_listOffs_44 : decode cX7_listOffs 44 = .ok (.isub, 1) := by decide +kernel
theorem dX7_listOffs_45 : decode cX7_listOffs 45 = .ok (.bipush 32, 2) := by decide +kernel
theorem dX7_listOffs_47 : decode cX7_listOffs 47 = .ok (.imul, 1) := by decide +kernel
theorem dX7_listOffs_48 : decode cX7_listOffs 48 = .ok (.iload 5, 2) := by decide +kernel
theorem dX7_listOffs_50 : decode cX7_listOffs 50 = .ok (.iadd, 1) := by decide +kernel
theorem dX7_listOffs_51 : decode cX7_listOffs 51 = .ok (.aload_n 1, 1) := by decide +kernel
theorem dX7_listOffs_52 : decode cX7_listOffs 52 = .ok (.iload 5, 2) := by decide +kernel
theorem dX7_listOffs_54 : decode cX7_listOffs 54 = .ok (.iload 4, 2) := by decide +kernel
theorem dX7_listOffs_56 : decode cX7_listOffs 56 = .ok (.invokevirtual 79, 3) := by decide +kernel
theorem dX7_listOffs_59 : decode cX7_listOffs 59 = .ok (.iastore, 1) := by decide +kernel
theorem dX7_listOffs_60 : decode cX7_listOffs 60 = .ok (.iinc 5 1, 3) := by decide +kernel
theorem dX7_listOffs_63 : decode cX7_listOffs 63 = .ok (.goto (-42), 3) := by decide +kernel
theorem dX7_listOffs_66 : decode cX7_listOffs 66 = .ok (.iinc 4 1, 3) := by decide +kernel
theorem dX7_listOffs_69 : decode cX7_listOffs 69 = .ok (.goto (-66), 3) := by decide +kernel
theorem dX7_listOffs_72 : decode cX7_listOffs 72 = .ok (.return_, 1) := by decide +kernel
theorem dX7_sumOfListed_0 : decode cX7_sumOfListed 0 = .ok (.iload_n 3, 1) := by decide +kernel
theorem dX7_sumOfListed_1 : decode cX7_sumOfListed 1 = .ok (.iload_n 2, 1) := by decide +kernel
theorem dX7_sumOfListed_2 : decode cX7_sumOfListed 2 = .ok (.if_icmp .lt 26, 3) := by decide +kernel
theorem dX7_sumOfListed_5 : decode cX7_sumOfListed 5 = .ok (.iload 4, 2) := by decide +kernel
theorem dX7_sumOfListed_7 : decode cX7_sumOfListed 7 = .ok (.iload_n 2, 1) := by decide +kernel
theorem dX7_sumOfListed_8 : decode cX7_sumOfListed 8 = .ok (.if_icmp .lt 20, 3) := by decide +kernel
theorem dX7_sumOfListed_11 : decode cX7_sumOfListed 11 = .ok (.iload_n 3, 1) := by decide +kernel
theorem dX7_sumOfListed_12 : decode cX7_sumOfListed 12 = .ok (.iload_n 2, 1) := by decide +kernel
theorem dX7_sumOfListed_13 : decode cX7_sumOfListed 13 = .ok (.isub, 1) := by decide +kernel
theorem dX7_sumOfListed_14 : decode cX7_sumOfListed 14 = .ok (.bipush 40, 2) := by decide +kernel
theorem dX7_sumOfListed_16 : decode cX7_sumOfListed 16 = .ok (.if_icmp .gt 12, 3) := by decide +kernel
theorem dX7_sumOfListed_19 : decode cX7_sumOfListed 19 = .ok (.iload 4, 2) := by decide +kernel
theorem dX7_sumOfListed_21 : decode cX7_sumOfListed 21 = .ok (.iload_n 2, 1) := by decide +kernel
theorem dX7_sumOfListed_22 : decode cX7_sumOfListed 22 = .ok (.isub, 1) := by decide +kernel
theorem dX7_sumOfListed_23 : decode cX7_sumOfListed 23 = .ok (.bipush 40, 2) := by decide +kernel
theorem dX7_sumOfListed_25 : decode cX7_sumOfListed 25 = .ok (.if_icmp .le 5, 3) := by decide +kernel
theorem dX7_sumOfListed_28 : decode cX7_sumOfListed 28 = .ok (.lconst 0, 1) := by decide +kernel
theorem dX7_sumOfListed_29 : decode cX7_sumOfListed 29 = .ok (.lreturn, 1) := by decide +kernel
theorem dX7_sumOfListed_30 : decode cX7_sumOfListed 30 = .ok (.iload_n 3, 1) := by decide +kernel
theorem dX7_sumOfListed_31 : decode cX7_sumOfListed 31 = .ok (.iload_n 2, 1) := by decide +kernel
theorem dX7_sumOfListed_32 : decode cX7_sumOfListed 32 = .ok (.isub, 1) := by decide +kernel
theorem dX7_sumOfListed_33 : decode cX7_sumOfListed 33 = .ok (.bipush 32, 2) := by decide +kernel
theorem dX7_sumOfListed_35 : decode cX7_sumOfListed 35 = .ok (.imul, 1) := by decide +kernel
theorem dX7_sumOfListed_36 : decode cX7_sumOfListed 36 = .ok (.istore 5, 2) := by decide +kernel
theorem dX7_sumOfListed_38 : decode cX7_sumOfListed 38 = .ok (.iload 4, 2) := by decide +kernel
theorem dX7_sumOfListed_40 : decode cX7_sumOfListed 40 = .ok (.iload_n 2, 1) := by decide +kernel
theorem dX7_sumOfListed_41 : decode cX7_sumOfListed 41 = .ok (.isub, 1) := by decide +kernel
theorem dX7_sumOfListed_42 : decode cX7_sumOfListed 42 = .ok (.bipush 32, 2) := by decide +kernel
theorem dX7_sumOfListed_44 : decode cX7_sumOfListed 44 = .ok (.imul, 1) := by decide +kernel
theorem dX7_sumOfListed_45 : decode cX7_sumOfListed 45 = .ok (.istore 6, 2) := by decide +kernel
theorem dX7_sumOfListed_47 : decode cX7_sumOfListed 47 = .ok (.lconst 0, 1) := by decide +kernel
theorem dX7_sumOfListed_48 : decode cX7_sumOfListed 48 = .ok (.lstore 7, 2) := by decide +kernel
theorem dX7_sumOfListed_50 : decode cX7_sumOfListed 50 = .ok (.iconst 0, 1) := by decide +kernel
theorem dX7_sumOfListed_51 : decode cX7_sumOfListed 51 = .ok (.istore 9, 2) := by decide +kernel
theorem dX7_sumOfListed_53 : decode cX7_sumOfListed 53 = .ok (.iload 9, 2) := by decide +kernel
theorem dX7_sumOfListed_55 : decode cX7_sumOfListed 55 = .ok (.iload_n 1, 1) := by decide +kernel
theorem dX7_sumOfListed_56 : decode cX7_sumOfListed 56 = .ok (.if_icmp .ge 50, 3) := by decide +kernel
theorem dX7_sumOfListed_59 : decode cX7_sumOfListed 59 = .ok (.iload 9, 2) := by decide +kernel
theorem dX7_sumOfListed_61 : decode cX7_sumOfListed 61 = .ok (.bipush 32, 2) := by decide +kernel
theorem dX7_sumOfListed_63 : decode cX7_sumOfListed 63 = .ok (.if_icmp .ge 43, 3) := by decide +kernel
theorem dX7_sumOfListed_66 : decode cX7_sumOfListed 66 = .ok (.lload 7, 2) := by decide +kernel
theorem dX7_sumOfListed_68 : decode cX7_sumOfListed 68 = .ok (.aload_n 0, 1) := by decide +kernel
theorem dX7_sumOfListed_69 : decode cX7_sumOfListed 69 = .ok (.getfield 31, 3) := by decide +kernel
theorem dX7_sumOfListed_72 : decode cX7_sumOfListed 72 = .ok (.iload 5, 2) := by decide +kernel
theorem dX7_sumOfListed_74 : decode cX7_sumOfListed 74 = .ok (.iload 9, 2) := by decide +kernel
theorem dX7_sumOfListed_76 : decode cX7_sumOfListed 76 = .ok (.iadd, 1) := by decide +kernel
theorem dX7_sumOfListed_77 : decode cX7_sumOfListed 77 = .ok (.iaload, 1) := by decide +kernel
theorem dX7_sumOfListed_78 : decode cX7_sumOfListed 78 = .ok (.iload 4, 2) := by decide +kernel
theorem dX7_sumOfListed_80 : decode cX7_sumOfListed 80 = .ok (.imul, 1) := by decide +kernel
theorem dX7_sumOfListed_81 : decode cX7_sumOfListed 81 = .ok (.aload_n 0, 1) := by decide +kernel
theorem dX7_sumOfListed_82 : decode cX7_sumOfListed 82 = .ok (.getfield 31, 3) := by decide +kernel
theorem dX7_sumOfListed_85 : decode cX7_sumOfListed 85 = .ok (.iload 6, 2) := by decide +kernel
theorem dX7_sumOfListed_87 : decode cX7_sumOfListed 87 = .ok (.iload 9, 2) := by decide +kernel
theorem dX7_sumOfListed_89 : decode cX7_sumOfListed 89 = .ok (.iadd, 1) := by decide +kernel
theorem dX7_sumOfListed_90 : decode cX7_sumOfListed 90 = .ok (.iaload, 1) := by decide +kernel
theorem dX7_sumOfListed_91 : decode cX7_sumOfListed 91 = .ok (.iload_n 3, 1) := by decide +kernel
theorem dX7_sumOfListed_92 : decode cX7_sumOfListed 92 = .ok (.imul, 1) := by decide +kernel
theorem dX7_sumOfListed_93 : decode cX7_sumOfListed 93 = .ok (.invokestatic 34, 3) := by decide +kernel
theorem dX7_sumOfListed_96 : decode cX7_sumOfListed 96 = .ok (.i2l, 1) := by decide +kernel
theorem dX7_sumOfListed_97 : decode cX7_sumOfListed 97 = .ok (.ladd, 1) := by decide +kernel
theorem dX7_sumOfListed_98 : decode cX7_sumOfListed 98 = .ok (.lstore 7, 2) := by decide +kernel
theorem dX7_sumOfListed_100 : decode cX7_sumOfListed 100 = .ok (.iinc 9 1, 3) := by decide +kernel
theorem dX7_sumOfListed_103 : decode cX7_sumOfListed 103 = .ok (.goto (-50), 3) := by decide +kernel
theorem dX7_sumOfListed_106 : decode cX7_sumOfListed 106 = .ok (.iload_n 3, 1) := by decide +kernel
theorem dX7_sumOfListed_107 : decode cX7_sumOfListed 107 = .ok (.i2l, 1) := by decide +kernel
theorem dX7_sumOfListed_108 : decode cX7_sumOfListed 108 = .ok (.iload 4, 2) := by decide +kernel
theorem dX7_sumOfListed_110 : decode cX7_sumOfListed 110 = .ok (.i2l, 1) := by decide +kernel
theorem dX7_sumOfListed_111 : decode cX7_sumOfListed 111 = .ok (.lmul, 1) := by decide +kernel
theorem dX7_sumOfListed_112 : decode cX7_sumOfListed 112 = .ok (.iload_n 1, 1) := by decide +kernel
theorem dX7_sumOfListed_113 : decode cX7_sumOfListed 113 = .ok (.i2l, 1) := by decide +kernel
theorem dX7_sumOfListed_114 : decode cX7_sumOfListed 114 = .ok (.lmul, 1) := by decide +kernel
theorem dX7_sumOfListed_115 : decode cX7_sumOfListed 115 = .ok (.ldc2_w 82, 3) := by decide +kernel
theorem dX7_sumOfListed_118 : decode cX7_sumOfListed 118 = .ok (.lload 7, 2) := by decide +kernel
theorem dX7_sumOfListed_120 : decode cX7_sumOfListed 120 = .ok (.lmul, 1) := by decide +kernel
theorem dX7_sumOfListed_121 : decode cX7_sumOfListed 121 = .ok (.lsub, 1) := by decide +kernel
theorem dX7_sumOfListed_122 : decode cX7_sumOfListed 122 = .ok (.lreturn, 1) := by decide +kernel
theorem dX8_init_0 : decode cX8_init 0 = .ok (.aload_n 0, 1) := by decide +kernel
theorem dX8_init_1 : decode cX8_init 1 = .ok (.invokespecial 3, 3) := by decide +kernel
theorem dX8_init_4 : decode cX8_init 4 = .ok (.aload_n 0, 1) := by decide +kernel
theorem dX8_init_5 : decode cX8_init 5 = .ok (.new 9, 3) := by decide +kernel
theorem dX8_init_8 : decode cX8_init 8 = .ok (.dup, 1) := by decide +kernel
theorem dX8_init_9 : decode cX8_init 9 = .ok (.invokespecial 11, 3) := by decide +kernel
theorem dX8_init_12 : decode cX8_init 12 = .ok (.putfield 12, 3) := by decide +kernel
theorem dX8_init_15 : decode cX8_init 15 = .ok (.aload_n 0, 1) := by decide +kernel
theorem dX8_init_16 : decode cX8_init 16 = .ok (.new 18, 3) := by decide +kernel
theorem dX8_init_19 : decode cX8_init 19 = .ok (.dup, 1) := by decide +kernel
theorem dX8_init_20 : decode cX8_init 20 = .ok (.invokespecial 20, 3) := by decide +kernel
theorem dX8_init_23 : decode cX8_init 23 = .ok (.putfield 21, 3) := by decide +kernel
theorem dX8_init_26 : decode cX8_init 26 = .ok (.aload_n 0, 1) := by decide +kernel
theorem dX8_init_27 : decode cX8_init 27 = .ok (.new 25, 3) := by decide +kernel
theorem dX8_init_30 : decode cX8_init 30 = .ok (.dup, 1) := by decide +kernel
theorem dX8_init_31 : decode cX8_init 31 = .ok (.invokespecial 27, 3) := by decide +kernel
theorem dX8_init_34 : decode cX8_init 34 = .ok (.putfield 28, 3) := by decide +kernel
theorem dX8_init_37 : decode cX8_init 37 = .ok (.aload_n 0, 1) := by decide +kernel
theorem dX8_init_38 : decode cX8_init 38 = .ok (.new 25, 3) := by decide +kernel
theorem dX8_init_41 : decode cX8_init 41 = .ok (.dup, 1) := by decide +kernel
theorem dX8_init_42 : decode cX8_init 42 = .ok (.invokespecial 27, 3) := by decide +kernel
theorem dX8_init_45 : decode cX8_init 45 = .ok (.putfield 32, 3) := by decide +kernel
theorem dX8_init_48 : decode cX8_init 48 = .ok (.aload_n 0, 1) := by decide +kernel
theorem dX8_init_49 : decode cX8_init 49 = .ok (.new 35, 3) := by decide +kernel
theorem dX8_init_52 : decode cX8_init 52 = .ok (.dup, 1) := by decide +kernel
theorem dX8_init_53 : decode cX8_init 53 = .ok (.invokespecial 37, 3) := by decide +kernel
theorem dX8_init_56 : decode cX8_init 56 = .ok (.putfield 38, 3) := by decide +kernel
theorem dX8_init_59 : decode cX8_init 59 = .ok (.aload_n 0, 1) := by decide +kernel
theorem dX8_init_60 : decode cX8_init 60 = .ok (.iconst 0, 1) := by decide +kernel
theorem dX8_init_61 : decode cX8_init 61 = .ok (.putfield 42, 3) := by decide +kernel
theorem dX8_init_64 : decode cX8_init 64 = .ok (.aload_n 0, 1) := by decide +kernel
theorem dX8_init_65 : decode cX8_init 65 = .ok (.iconst (-1), 1) := by decide +kernel
theorem dX8_init_66 : decode cX8_init 66 = .ok (.putfield 46, 3) := by decide +kernel
theorem dX8_init_69 : decode cX8_init 69 = .ok (.return_, 1) := by decide +kernel
theorem dX8_copyFrom_0 : decode cX8_copyFrom 0 = .ok (.aload_n 0, 1) := by decide +kernel
theorem dX8_copyFrom_1 : decode cX8_copyFrom 1 = .ok (.getfield 12, 3) := by decide +kernel
theorem dX8_copyFrom_4 : decode cX8_copyFrom 4 = .ok (.aload_n 1, 1) := by decide +kernel
theorem dX8_copyFrom_5 : decode cX8_copyFrom 5 = .ok (.getfield 12, 3) := by decide +kernel
theorem dX8_copyFrom_8 : decode cX8_copyFrom 8 = .ok (.invokevirtual 49, 3) := by decide +kernel
theorem dX8_copyFrom_11 : decode cX8_copyFrom 11 = .ok (.aload_n 0, 1) := by decide +kernel
theorem dX8_copyFrom_12 : decode cX8_copyFrom 12 = .ok (.getfield 21, 3) := by decide +kernel
theorem dX8_copyFrom_15 : decode cX8_copyFrom 15 = .ok (.aload_n 1, 1) := by decide +kernel
theorem dX8_copyFrom_16 : decode cX8_copyFrom 16 = .ok (.getfield 21, 3) := by decide +kernel
theorem dX8_copyFrom_19 : decode cX8_copyFrom 19 = .ok (.invokevirtual 53, 3) := by decide +kernel
theorem dX8_copyFrom_22 : decode cX8_copyFrom 22 = .ok (.aload_n 0, 1) := by decide +kernel
theorem dX8_copyFrom_23 : decode cX8_copyFrom 23 = .ok (.getfield 28, 3) := by decide +kernel
theorem dX8_copyFrom_26 : decode cX8_copyFrom 26 = .ok (.aload_n 1, 1) := by decide +kernel
theorem dX8_copyFrom_27 : decode cX8_copyFrom 27 = .ok (.getfield 28, 3) := by decide +kernel
theorem dX8_copyFrom_30 : decode cX8_copyFrom 30 = .ok (.invokevirtual 56, 3) := by decide +kernel
theorem dX8_copyFrom_33 : decode cX8_copyFrom 33 = .ok (.aload_n 0, 1) := by decide +kernel
theorem dX8_copyFrom_34 : decode cX8_copyFrom 34 = .ok (.getfield 32, 3) := by decide +kernel
theorem dX8_copyFrom_37 : decode cX8_copyFrom 37 = .ok (.aload_n 1, 1) := by decide +kernel
theorem dX8_copyFrom_38 : decode cX8_copyFrom 38 = .ok (.getfield 32, 3) := by decide +kernel
theorem dX8_copyFrom_41 : decode cX8_copyFrom 41 = .ok (.invokevirtual 56, 3) := by decide +kernel
theorem dX8_copyFrom_44 : decode cX8_copyFrom 44 = .ok (.aload_n 0, 1) := by decide +kernel
theorem dX8_copyFrom_45 : decode cX8_copyFrom 45 = .ok (.getfield 38, 3) := by decide +kernel
theorem dX8_copyFrom_48 : decode cX8_copyFrom 48 = .ok (.aload_n 1, 1) := by decide +kernel
theorem dX8_copyFrom_49 : decode cX8_copyFrom 49 = .ok (.getfield 38, 3) := by decide +kernel
theorem dX8_copyFrom_52 : decode cX8_copyFrom 52 = .ok (.invokevirtual 59, 3) := by decide +kernel
theorem dX8_copyFrom_55 : decode cX8_copyFrom 55 = .ok (.aload_n 0, 1) := by decide +kernel
theorem dX8_copyFrom_56 : decode cX8_copyFrom 56 = .ok (.aload_n 1, 1) := by decide +kernel
theorem dX8_copyFrom_57 : decode cX8_copyFrom 57 = .ok (.getfield 42, 3) := by decide +kernel
theorem dX8_copyFrom_60 : decode cX8_copyFrom 60 = .ok (.putfield 42, 3) := by decide +kernel
theorem dX8_copyFrom_63 : decode cX8_copyFrom 63 = .ok (.aload_n 0, 1) := by decide +kernel
theorem dX8_copyFrom_64 : decode cX8_copyFrom 64 = .ok (.aload_n 1, 1) := by decide +kernel
theorem dX8_copyFrom_65 : decode cX8_copyFrom 65 = .ok (.getfield 46, 3) := by decide +kernel
theorem dX8_copyFrom_68 : decode cX8_copyFrom 68 = .ok (.putfield 46, 3) := by decide +kernel
theorem dX8_copyFrom_71 : decode cX8_copyFrom 71 = .ok (.return_, 1) := by decide +kernel
theorem dX9_init_0 : decode cX9_init 0 = .ok (.aload_n 0, 1) := by decide +kernel
theorem dX9_init_1 : decode cX9_init 1 = .ok (.invokespecial 3, 3) := by decide +kernel
theorem dX9_init_4 : decode cX9_init 4 = .ok (.aload_n 0, 1) := by decide +kernel
theorem dX9_init_5 : decode cX9_init 5 = .ok (.sipush 500, 3) := by decide +kernel
theorem dX9_init_8 : decode cX9_init 8 = .ok (.newarray .byte, 2) := by decide +kernel
theorem dX9_init_10 : decode cX9_init 10 = .ok (.putfield 9, 3) := by decide +kernel
theorem dX9_init_13 : decode cX9_init 13 = .ok (.aload_n 0, 1) := by decide +kernel
theorem dX9_init_14 : decode cX9_init 14 = .ok (.iconst 0, 1) := by decide +kernel
theorem dX9_init_15 : decode cX9_init 15 = .ok (.putfield 15, 3) := by decide +kernel
theorem dX9_init_18 : decode cX9_init 18 = .ok (.return_, 1) := by decide +kernel
theorem dX9_hasRoom_0 : decode cX9_hasRoom 0 = .ok (.aload_n 0, 1) := by decide +kernel
theorem dX9_hasRoom_1 : decode cX9_hasRoom 1 = .ok (.getfield 15, 3) := by decide +kernel
theorem dX9_hasRoom_4 : decode cX9_hasRoom 4 = .ok (.iload_n 1, 1) := by decide +kernel
theorem dX9_hasRoom_5 : decode cX9_hasRoom 5 = .ok (.iadd, 1) := by decide +kernel
theorem dX9_hasRoom_6 : decode cX9_hasRoom 6 = .ok (.sipush 500, 3) := by decide +kernel
theorem dX9_hasRoom_9 : decode cX9_hasRoom 9 = .ok (.if_icmp .gt 7, 3) := by decide +kernel
theorem dX9_hasRoom_12 : decode cX9_hasRoom 12 = .ok (.iconst 1, 1) := by decide +kernel
theorem dX9_hasRoom_13 : decode cX9_hasRoom 13 = .ok (.goto 4, 3) := by decide +kernel
theorem dX9_hasRoom_16 : decode cX9_hasRoom 16 = .ok (.iconst 0, 1) := by decide +kernel
theorem dX9_hasRoom_17 : decode cX9_hasRoom 17 = .ok (.ireturn, 1) := by decide +kernel
theorem dX9_add_0 : decode cX9_add 0 = .ok (.bipush 24, 2) := by decide +kernel
theorem dX9_add_2 : decode cX9_add 2 = .ok (.istore_n 2, 1) := by decide +kernel
theorem dX9_add_3 : decode cX9_add 3 = .ok (.iload_n 2, 1) := by decide +kernel
theorem dX9_add_4 : decode cX9_add 4 = .ok (.ifCond .lt 42, 3) := by decide +kernel
theorem dX9_add_7 : decode cX9_add 7 = .ok (.aload_n 0, 1) := by decide +kernel
theorem dX9_add_8 : decode cX9_add 8 = .ok (.getfield 15, 3) := by decide +kernel
theorem dX9_add_11 : decode cX9_add 11 = .ok (.sipush 500, 3) := by decide +kernel
theorem dX9_add_14 : decode cX9_add 14 = .ok (.if_icmp .ge 32, 3) := by decide +kernel
theorem dX9_add_17 : decode cX9_add 17 = .ok (.aload_n 0, 1) := by decide +kernel
theorem dX9_add_18 : decode cX9_add 18 = .ok (.getfield 9, 3) := by decide +kernel
theorem dX9_add_21 : decode cX9_add 21 = .ok (.aload_n 0, 1) := by decide +kernel
theorem dX9_add_22 : decode cX9_add 22 = .ok (.getfield 15, 3) := by decide +kernel
theorem dX9_add_25 : decode cX9_add 25 = .ok (.iload_n 1, 1) := by decide +kernel
theorem dX9_add_26 : decode cX9_add 26 = .ok (.iload_n 2, 1) := by decide +kernel
theorem dX9_add_27 : decode cX9_add 27 = .ok (.ishr, 1) := by decide +kernel
theorem dX9_add_28 : decode cX9_add 28 = .ok (.i2b, 1) := by decide +kernel
theorem dX9_add_29 : decode cX9_add 29 = .ok (.bastore, 1) := by decide +kernel
theorem dX9_add_30 : decode cX9_add 30 = .ok (.aload_n 0, 1) := by decide +kernel
theorem dX9_add_31 : decode cX9_add 31 = .ok (.dup, 1) := by decide +kernel
theorem dX9_add_32 : decode cX9_add 32 = .ok (.getfield 15, 3) := by decide +kernel
theorem dX9_add_35 : decode cX9_add 35 = .ok (.iconst 1, 1) := by decide +kernel
theorem dX9_add_36 : decode cX9_add 36 = .ok (.iadd, 1) := by decide +kernel
theorem dX9_add_37 : decode cX9_add 37 = .ok (.putfield 15, 3) := by decide +kernel
theorem dX9_add_40 : decode cX9_add 40 = .ok (.iinc 2 (-8), 3) := by decide +kernel
theorem dX9_add_43 : decode cX9_add 43 = .ok (.goto (-40), 3) := by decide +kernel
theorem dX9_add_46 : decode cX9_add 46 = .ok (.return_, 1) := by decide +kernel
theorem dX9_cut_0 : decode cX9_cut 0 = .ok (.iload_n 1, 1) := by decide +kernel
theorem dX9_cut_1 : decode cX9_cut 1 = .ok (.ifCond .lt 11, 3) := by decide +kernel
theorem dX9_cut_4 : decode cX9_cut 4 = .ok (.iload_n 1, 1) := by decide +kernel
theorem dX9_cut_5 : decode cX9_cut 5 = .ok (.aload_n 0, 1) := by decide +kernel
theorem dX9_cut_6 : decode cX9_cut 6 = .ok (.getfield 15, 3) := by decide +kernel
theorem dX9_cut_9 : decode cX9_cut 9 = .ok (.if_icmp .le 5, 3) := by decide +kernel
theorem dX9_cut_12 : decode cX9_cut 12 = .ok (.iconst 0, 1) := by decide +kernel
theorem dX9_cut_13 : decode cX9_cut 13 = .ok (.ireturn, 1) := by decide +kernel
theorem dX9_cut_14 : decode cX9_cut 14 = .ok (.aload_n 0, 1) := by decide +kernel
theorem dX9_cut_15 : decode cX9_cut 15 = .ok (.iload_n 1, 1) := by decide +kernel
theorem dX9_cut_16 : decode cX9_cut 16 = .ok (.putfield 15, 3) := by decide +kernel
theorem dX9_cut_19 : decode cX9_cut 19 = .ok (.iconst 1, 1) := by decide +kernel
theorem dX9_cut_20 : decode cX9_cut 20 = .ok (.ireturn, 1) := by decide +kernel
theorem dX9_byteAt_0 : decode cX9_byteAt 0 = .ok (.iload_n 1, 1) := by decide +kernel
theorem dX9_byteAt_1 : decode cX9_byteAt 1 = .ok (.ifCond .lt 31, 3) := by decide +kernel
theorem dX9_byteAt_4 : decode cX9_byteAt 4 = .ok (.iload_n 1, 1) := by decide +kernel
theorem dX9_byteAt_5 : decode cX9_byteAt 5 = .ok (.aload_n 0, 1) := by decide +kernel
theorem dX9_byteAt_6 : decode cX9_byteAt 6 = .ok (.getfield 15, 3) := by decide +kernel
theorem dX9_byteAt_9 : decode cX9_byteAt 9 = .ok (.if_icmp .ge 23, 3) := by decide +kernel
theorem dX9_byteAt_12 : decode cX9_byteAt 12 = .ok (.iload_n 1, 1) := by decide +kernel
theorem dX9_byteAt_13 : decode cX9_byteAt 13 = .ok (.sipush 500, 3) := by decide +kernel
theorem dX9_byteAt_16 : decode cX9_byteAt 16 = .ok (.if_icmp .ge 16, 3) := by decide +kernel
theorem dX9_byteAt_19 : decode cX9_byteAt 19 = .ok (.aload_n 0, 1) := by decide +kernel
theorem dX9_byteAt_20 : decode cX9_byteAt 20 = .ok (.getfield 9, 3) := by decide +kernel
theorem dX9_byteAt_23 : decode cX9_byteAt 23 = .ok (.iload_n 1, 1) := by decide +kernel
theorem dX9_byteAt_24 : decode cX9_byteAt 24 = .ok (.baload, 1) := by decide +kernel
theorem dX9_byteAt_25 : decode cX9_byteAt 25 = .ok (.sipush 255, 3) := by decide +kernel
theorem dX9_byteAt_28 : decode cX9_byteAt 28 = .ok (.iand, 1) := by decide +kernel
theorem dX9_byteAt_29 : decode cX9_byteAt 29 = .ok (.goto 4, 3) := by decide +kernel
theorem dX9_byteAt_32 : decode cX9_byteAt 32 = .ok (.iconst (-1), 1) := by decide +kernel
theorem dX9_byteAt_33 : decode cX9_byteAt 33 = .ok (.ireturn, 1) := by decide +kernel
theorem dX9_copyFrom_0 : decode cX9_copyFrom 0 = .ok (.aload_n 1, 1) := by decide +kernel
theorem dX9_copyFrom_1 : decode cX9_copyFrom 1 = .ok (.getfield 9, 3) := by decide +kernel
theorem dX9_copyFrom_4 : decode cX9_copyFrom 4 = .ok (.iconst 0, 1) := by decide +kernel
theorem dX9_copyFrom_5 : decode cX9_copyFrom 5 = .ok (.aload_n 0, 1) := by decide +kernel
theorem dX9_copyFrom_6 : decode cX9_copyFrom 6 = .ok (.getfield 9, 3) := by decide +kernel
theorem dX9_copyFrom_9 : decode cX9_copyFrom 9 = .ok (.iconst 0, 1) := by decide +kernel
theorem dX9_copyFrom_10 : decode cX9_copyFrom 10 = .ok (.sipush 500, 3) := by decide +kernel
theorem dX9_copyFrom_13 : decode cX9_copyFrom 13 = .ok (.invokestatic 19, 3) := by decide +kernel
theorem dX9_copyFrom_16 : decode cX9_copyFrom 16 = .ok (.aload_n 0, 1) := by decide +kernel
theorem dX9_copyFrom_17 : decode cX9_copyFrom 17 = .ok (.aload_n 1, 1) := by decide +kernel
theorem dX9_copyFrom_18 : decode cX9_copyFrom 18 = .ok (.getfield 15, 3) := by decide +kernel
theorem dX9_copyFrom_21 : decode cX9_copyFrom 21 = .ok (.putfield 15, 3) := by decide +kernel
theorem dX9_copyFrom_24 : decode cX9_copyFrom 24 = .ok (.return_, 1) := by decide +kernel
theorem dX10_init_0 : decode cX10_init 0 = .ok (.aload_n 0, 1) := by decide +kernel
theorem dX10_init_1 : decode cX10_init 1 = .ok (.invokespecial 1, 3) := by decide +kernel
theorem dX10_init_4 : decode cX10_init 4 = .ok (.aload_n 0, 1) := by decide +kernel
theorem dX10_init_5 : decode cX10_init 5 = .ok (.new 7, 3) := by decide +kernel
theorem dX10_init_8 : decode cX10_init 8 = .ok (.dup, 1) := by decide +kernel
theorem dX10_init_9 : decode cX10_init 9 = .ok (.invokespecial 9, 3) := by decide +kernel
theorem dX10_init_12 : decode cX10_init 12 = .ok (.putfield 10, 3) := by decide +kernel
theorem dX10_init_15 : decode cX10_init 15 = .ok (.aload_n 0, 1) := by decide +kernel
theorem dX10_init_16 : decode cX10_init 16 = .ok (.iconst 3, 1) := by decide +kernel
theorem dX10_init_17 : decode cX10_init 17 = .ok (.anewarray 7, 3) := by decide +kernel
theorem dX10_init_20 : decode cX10_init 20 = .ok (.putfield 16, 3) := by decide +kernel
theorem dX10_init_23 : decode cX10_init 23 = .ok (.aload_n 0, 1) := by decide +kernel
theorem dX10_init_24 : decode cX10_init 24 = .ok (.new 20, 3) := by decide +kernel
theorem dX10_init_27 : decode cX10_init 27 = .ok (.dup, 1) := by decide +kernel
theorem dX10_init_28 : decode cX10_init 28 = .ok (.aload_n 0, 1) := by decide +kernel
theorem dX10_init_29 : decode cX10_init 29 = .ok (.getfield 10, 3) := by decide +kernel
theorem dX10_init_32 : decode cX10_init 32 = .ok (.getfield 22, 3) := by decide +kernel
theorem dX10_init_35 : decode cX10_init 35 = .ok (.invokespecial 26, 3) := by decide +kernel
theorem dX10_init_38 : decode cX10_init 38 = .ok (.putfield 29, 3) := by decide +kernel
theorem dX10_init_41 : decode cX10_init 41 = .ok (.aload_n 0, 1) := by decide +kernel
theorem dX10_init_42 : decode cX10_init 42 = .ok (.new 33, 3) := by decide +kernel
theorem dX10_init_45 : decode cX10_init 45 = .ok (.dup, 1) := by decide +kernel
theorem dX10_init_46 : decode cX10_init 46 = .ok (.invokespecial 35, 3) := by decide +kernel
theorem dX10_init_49 : decode cX10_init 49 = .ok (.putfield 36, 3) := by decide +kernel
theorem dX10_init_52 : decode cX10_init 52 = .ok (.aload_n 0, 1) := by decide +kernel
theorem dX10_init_53 : decode cX10_init 53 = .ok (.new 40, 3) := by decide +kernel
theorem dX10_init_56 : decode cX10_init 56 = .ok (.dup, 1) := by decide +kernel
theorem dX10_init_57 : decode cX10_init 57 = .ok (.invokespecial 42, 3) := by decide +kernel
theorem dX10_init_60 : decode cX10_init 60 = .ok (.putfield 43, 3) := by decide +kernel
theorem dX10_init_63 : decode cX10_init 63 = .ok (.aload_n 0, 1) := by decide +kernel
theorem dX10_init_64 : decode cX10_init 64 = .ok (.new 47, 3) := by decide +kernel
theorem dX10_init_67 : decode cX10_init 67 = .ok (.dup, 1) := by decide +kernel
theorem dX10_init_68 : decode cX10_init 68 = .ok (.invokespecial 49, 3) := by decide +kernel
theorem dX10_init_71 : decode cX10_init 71 = .ok (.putfield 50, 3) := by decide +kernel
theorem dX10_init_74 : decode cX10_init 74 = .ok (.aload_n 0, 1) := by decide +kernel
theorem dX10_init_75 : decode cX10_init 75 = .ok (.bipush 8, 2) := by decide +kernel
theorem dX10_init_77 : decode cX10_init 77 = .ok (.newarray .int, 2) := by decide +kernel
theorem dX10_init_79 : decode cX10_init 79 = .ok (.putfield 54, 3) := by decide +kernel
theorem dX10_init_82 : decode cX10_init 82 = .ok (.return_, 1) := by decide +kernel
theorem dX10_stone_0 : decode cX10_stone 0 = .ok (.aload_n 0, 1) := by decide +kernel
theorem dX10_stone_1 : decode cX10_stone 1 = .ok (.getfield 10, 3) := by decide +kernel
theorem dX10_stone_4 : decode cX10_stone 4 = .ok (.getfield 58, 3) := by decide +kernel
theorem dX10_stone_7 : decode cX10_stone 7 = .ok (.iload_n 1, 1) := by decide +kernel
theorem dX10_stone_8 : decode cX10_stone 8 = .ok (.iload_n 2, 1) := by decide +kernel
theorem dX10_stone_9 : decode cX10_stone 9 = .ok (.iload_n 3, 1) := by decide +kernel
theorem dX10_stone_10 : decode cX10_stone 10 = .ok (.invokevirtual 62, 3) := by decide +kernel
theorem dX10_stone_13 : decode cX10_stone 13 = .ok (.ireturn, 1) := by decide +kernel
theorem dX10_tell_0 : decode cX10_tell 0 = .ok (.aload_n 0, 1) := by decide +kernel
theorem dX10_tell_1 : decode cX10_tell 1 = .ok (.getfield 10, 3) := by decide +kernel
theorem dX10_tell_4 : decode cX10_tell 4 = .ok (.getfield 58, 3) := by decide +kernel
theorem dX10_tell_7 : decode cX10_tell 7 = .ok (.iload_n 1, 1) := by decide +kernel
theorem dX10_tell_8 : decode cX10_tell 8 = .ok (.iload_n 2, 1) := by decide +kernel
theorem dX10_tell_9 : decode cX10_tell 9 = .ok (.iload_n 3, 1) := by decide +kernel
theorem dX10_tell_10 : decode cX10_tell 10 = .ok (.invokevirtual 68, 3) := by decide +kernel
theorem dX10_tell_13 : decode cX10_tell 13 = .ok (.ireturn, 1) := by decide +kernel
theorem dX10_day_0 : decode cX10_day 0 = .ok (.aload_n 0, 1) := by decide +kernel
theorem dX10_day_1 : decode cX10_day 1 = .ok (.getfield 10, 3) := by decide +kernel
theorem dX10_day_4 : decode cX10_day 4 = .ok (.getfield 58, 3) := by decide +kernel
theorem dX10_day_7 : decode cX10_day 7 = .ok (.iload_n 1, 1) := by decide +kernel
theorem dX10_day_8 : decode cX10_day 8 = .ok (.invokevirtual 72, 3) := by decide +kernel
theorem dX10_day_11 : decode cX10_day 11 = .ok (.ireturn, 1) := by decide +kernel
theorem dX10_view_0 : decode cX10_view 0 = .ok (.aload_n 0, 1) := by decide +kernel
theorem dX10_view_1 : decode cX10_view 1 = .ok (.getfield 10, 3) := by decide +kernel
theorem dX10_view_4 : decode cX10_view 4 = .ok (.getfield 58, 3) := by decide +kernel
theorem dX10_view_7 : decode cX10_view 7 = .ok (.iload_n 1, 1) := by decide +kernel
theorem dX10_view_8 : decode cX10_view 8 = .ok (.invokevirtual 76, 3) := by decide +kernel
theorem dX10_view_11 : decode cX10_view 11 = .ok (.ireturn, 1) := by decide +kernel
theorem dX10_fact_0 : decode cX10_fact 0 = .ok (.aload_n 0, 1) := by decide +kernel
theorem dX10_fact_1 : decode cX10_fact 1 = .ok (.getfield 10, 3) := by decide +kernel
theorem dX10_fact_4 : decode cX10_fact 4 = .ok (.getfield 58, 3) := by decide +kernel
theorem dX10_fact_7 : decode cX10_fact 7 = .ok (.iload_n 1, 1) := by decide +kernel
theorem dX10_fact_8 : decode cX10_fact 8 = .ok (.iload_n 2, 1) := by decide +kernel
theorem dX10_fact_9 : decode cX10_fact 9 = .ok (.invokevirtual 79, 3) := by decide +kernel
theorem dX10_fact_12 : decode cX10_fact 12 = .ok (.ireturn, 1) := by decide +kernel
theorem dX10_entry_0 : decode cX10_entry 0 = .ok (.aload_n 0, 1) := by decide +kernel
theorem dX10_entry_1 : decode cX10_entry 1 = .ok (.getfield 10, 3) := by decide +kernel
theorem dX10_entry_4 : decode cX10_entry 4 = .ok (.getfield 58, 3) := by decide +kernel
theorem dX10_entry_7 : decode cX10_entry 7 = .ok (.iload_n 1, 1) := by decide +kernel
theorem dX10_entry_8 : decode cX10_entry 8 = .ok (.iload_n 2, 1) := by decide +kernel
theorem dX10_entry_9 : decode cX10_entry 9 = .ok (.invokevirtual 83, 3) := by decide +kernel
theorem dX10_entry_12 : decode cX10_entry 12 = .ok (.ireturn, 1) := by decide +kernel
theorem dX10_feed_0 : decode cX10_feed 0 = .ok (.aload_n 0, 1) := by decide +kernel
theorem dX10_feed_1 : decode cX10_feed 1 = .ok (.getfield 10, 3) := by decide +kernel
theorem dX10_feed_4 : decode cX10_feed 4 = .ok (.getfield 22, 3) := by decide +kernel
theorem dX10_feed_7 : decode cX10_feed 7 = .ok (.astore 6, 2) := by decide +kernel
theorem dX10_feed_9 : decode cX10_feed 9 = .ok (.aload 6, 2) := by decide +kernel
theorem dX10_feed_11 : decode cX10_feed 11 = .ok (.bipush 20, 2) := by decide +kernel
theorem dX10_feed_13 : decode cX10_feed 13 = .ok (.invokevirtual 86, 3) := by decide +kernel
theorem dX10_feed_16 : decode cX10_feed 16 = .ok (.ifCond .ne 5, 3) := by decide +kernel
theorem dX10_feed_19 : decode cX10_feed 19 = .ok (.iconst (-1), 1) := by decide +kernel
theorem dX10_feed_20 : decode cX10_feed 20 = .ok (.ireturn, 1) := by decide +kernel
theorem dX10_feed_21 : decode cX10_feed 21 = .ok (.aload 6, 2) := by decide +kernel
theorem dX10_feed_23 : decode cX10_feed 23 = .ok (.iload_n 1, 1) := by decide +kernel
theorem dX10_feed_24 : decode cX10_feed 24 = .ok (.invokevirtual 91, 3) := by decide +kernel
theorem dX10_feed_27 : decode cX10_feed 27 = .ok (.aload 6, 2) := by decide +kernel
theorem dX10_feed_29 : decode cX10_feed 29 = .ok (.iload_n 2, 1) := by decide +kernel
theorem dX10_feed_30 : decode cX10_feed 30 = .ok (.invokevirtual 91, 3) := by decide +kernel
theorem dX10_feed_33 : decode cX10_feed 33 = .ok (.aload 6, 2) := by decide +kernel
theorem dX10_feed_35 : decode cX10_feed 35 = .ok (.iload_n 3, 1) := by decide +kernel
theorem dX10_feed_36 : decode cX10_feed 36 = .ok (.invokevirtual 91, 3) := by decide +kernel
theorem dX10_feed_39 : decode cX10_feed 39 = .ok (.aload 6, 2) := by decide +kernel
theorem dX10_feed_41 : decode cX10_feed 41 = .ok (.iload 4, 2) := by decide +kernel
theorem dX10_feed_43 : decode cX10_feed 43 = .ok (.invokevirtual 91, 3) := by decide +kernel
theorem dX10_feed_46 : decode cX10_feed 46 = .ok (.aload 6, 2) := by decide +kernel
theorem dX10_feed_48 : decode cX10_feed 48 = .ok (.iload 5, 2) := by decide +kernel
theorem dX10_feed_50 : decode cX10_feed 50 = .ok (.invokevirtual 91, 3) := by decide +kernel
theorem dX10_feed_53 : decode cX10_feed 53 = .ok (.aload 6, 2) := by decide +kernel
theorem dX10_feed_55 : decode cX10_feed 55 = .ok (.getfield 95, 3) := by decide +kernel
theorem dX10_feed_58 : decode cX10_feed 58 = .ok (.ireturn, 1) := by decide +kernel
theorem dX10_end_0 : decode cX10_end 0 = .ok (.aload_n 0, 1) := by decide +kernel
theorem dX10_end_1 : decode cX10_end 1 = .ok (.getfield 10, 3) := by decide +kernel
theorem dX10_end_4 : decode cX10_end 4 = .ok (.getfield 22, 3) := by decide +kernel
theorem dX10_end_7 : decode cX10_end 7 = .ok (.iload_n 1, 1) := by decide +kernel
theorem dX10_end_8 : decode cX10_end 8 = .ok (.invokevirtual 99, 3) := by decide +kernel
theorem dX10_end_11 : decode cX10_end 11 = .ok (.ifCond .eq 7, 3) := by decide +kernel
theorem dX10_end_14 : decode cX10_end 14 = .ok (.iload_n 1, 1) := by decide +kernel
theorem dX10_end_15 : decode cX10_end 15 = .ok (.goto 4, 3) := by decide +kernel
theorem dX10_end_18 : decode cX10_end 18 = .ok (.iconst (-1), 1) := by decide +kernel
theorem dX10_end_19 : decode cX10_end 19 = .ok (.ireturn, 1) := by decide +kernel
theorem dX10_text_0 : decode cX10_text 0 = .ok (.aload_n 0, 1) := by decide +kernel
theorem dX10_text_1 : decode cX10_text 1 = .ok (.getfield 29, 3) := by decide +kernel
theorem dX10_text_4 : decode cX10_text 4 = .ok (.iload_n 1, 1) := by decide +kernel
theorem dX10_text_5 : decode cX10_text 5 = .ok (.invokevirtual 102, 3) := by decide +kernel
theorem dX10_text_8 : decode cX10_text 8 = .ok (.istore_n 2, 1) := by decide +kernel
theorem dX10_text_9 : decode cX10_text 9 = .ok (.aload_n 0, 1) := by decide +kernel
theorem dX10_text_10 : decode cX10_text 10 = .ok (.getfield 10, 3) := by decide +kernel
theorem dX10_text_13 : decode cX10_text 13 = .ok (.aload_n 0, 1) := by decide +kernel
theorem dX10_text_14 : decode cX10_text 14 = .ok (.getfield 29, 3) := by decide +kernel
theorem dX10_text_17 : decode cX10_text 17 = .ok (.getfield 106, 3) := by decide +kernel
theorem dX10_text_20 : decode cX10_text 20 = .ok (.putfield 109, 3) := by decide +kernel
theorem dX10_text_23 : decode cX10_text 23 = .ok (.aload_n 0, 1) := by decide +kernel
theorem dX10_text_24 : decode cX10_text 24 = .ok (.getfield 10, 3) := by decide +kernel
theorem dX10_text_27 : decode cX10_text 27 = .ok (.aload_n 0, 1) := by decide +kernel
theorem dX10_text_28 : decode cX10_text 28 = .ok (.getfield 29, 3) := by decide +kernel
theorem dX10_text_31 : decode cX10_text 31 = .ok (.getfield 110, 3) := by decide +kernel
theorem dX10_text_34 : decode cX10_text 34 = .ok (.putfield 113, 3) := by decide +kernel
theorem dX10_text_37 : decode cX10_text 37 = .ok (.aload_n 0, 1) := by decide +kernel
theorem dX10_text_38 : decode cX10_text 38 = .ok (.getfield 10, 3) := by decide +kernel
theorem dX10_text_41 : decode cX10_text 41 = .ok (.getfield 22, 3) := by decide +kernel
theorem dX10_text_44 : decode cX10_text 44 = .ok (.iconst 0, 1) := by decide +kernel
theorem dX10_text_45 : decode cX10_text 45 = .ok (.invokevirtual 99, 3) := by decide +kernel
theorem dX10_text_48 : decode cX10_text 48 = .ok (.pop, 1) := by decide +kernel
theorem dX10_text_49 : decode cX10_text 49 = .ok (.iload_n 2, 1) := by decide +kernel
theorem dX10_text_50 : decode cX10_text 50 = .ok (.ifCond .ne 5, 3) := by decide +kernel
theorem dX10_text_53 : decode cX10_text 53 = .ok (.iconst (-1), 1) := by decide +kernel
theorem dX10_text_54 : decode cX10_text 54 = .ok (.ireturn, 1) := by decide +kernel
theorem dX10_text_55 : decode cX10_text 55 = .ok (.iload_n 1, 1) := by decide +kernel
theorem dX10_text_56 : decode cX10_text 56 = .ok (.ifCond .eq 13, 3) := by decide +kernel
theorem dX10_text_59 : decode cX10_text 59 = .ok (.aload_n 0, 1) := by decide +kernel
theorem dX10_text_60 : decode cX10_text 60 = .ok (.getfield 10, 3) := by decide +kernel
theorem dX10_text_63 : decode cX10_text 63 = .ok (.getfield 114, 3) := by decide +kernel
theorem dX10_text_66 : decode cX10_text 66 = .ok (.goto 10, 3) := by decide +kernel
theorem dX10_text_69 : decode cX10_text 69 = .ok (.aload_n 0, 1) := by decide +kernel
theorem dX10_text_70 : decode cX10_text 70 = .ok (.getfield 10, 3) := by decide +kernel
theorem dX10_text_73 : decode cX10_text 73 = .ok (.getfield 118, 3) := by decide +kernel
theorem dX10_text_76 : decode cX10_text 76 = .ok (.astore_n 3, 1) := by decide +kernel
theorem dX10_text_77 : decode cX10_text 77 = .ok (.aload_n 3, 1) := by decide +kernel
theorem dX10_text_78 : decode cX10_text 78 = .ok (.aload_n 0, 1) := by decide +kernel
theorem dX10_text_79 : decode cX10_text 79 = .ok (.getfield 29, 3) := by decide +kernel
theorem dX10_text_82 : decode cX10_text 82 = .ok (.getfield 121, 3) := by decide +kernel
theorem dX10_text_85 : decode cX10_text 85 = .ok (.invokevirtual 124, 3) := by decide +kernel
theorem dX10_text_88 : decode cX10_text 88 = .ok (.aload_n 3, 1) := by decide +kernel
theorem dX10_text_89 : decode cX10_text 89 = .ok (.getfield 130, 3) := by decide +kernel
theorem dX10_text_92 : decode cX10_text 92 = .ok (.ireturn, 1) := by decide +kernel
theorem dX10_fault_0 : decode cX10_fault 0 = .ok (.iload_n 1, 1) := by decide +kernel
theorem dX10_fault_1 : decode cX10_fault 1 = .ok (.lookupswitch 43 #[(0, 27), (1, 35)], 27) := by decide +kernel
theorem dX10_fault_28 : decode cX10_fault 28 = .ok (.aload_n 0, 1) := by decide +kernel
theorem dX10_fault_29 : decode cX10_fault 29 = .ok (.getfield 10, 3) := by decide +kernel
theorem dX10_fault_32 : decode cX10_fault 32 = .ok (.getfield 109, 3) := by decide +kernel
theorem dX10_fault_35 : decode cX10_fault 35 = .ok (.ireturn, 1) := by decide +kernel
theorem dX10_fault_36 : decode cX10_fault 36 = .ok (.aload_n 0, 1) := by decide +kernel
theorem dX10_fault_37 : decode cX10_fault 37 = .ok (.getfield 10, 3) := by decide +kernel
theorem dX10_fault_40 : decode cX10_fault 40 = .ok (.getfield 113, 3) := by decide +kernel
theorem dX10_fault_43 : decode cX10_fault 43 = .ok (.ireturn, 1) := by decide +kernel
theorem dX10_fault_44 : decode cX10_fault 44 = .ok (.iconst (-1), 1) := by decide +kernel
theorem dX10_fault_45 : decode cX10_fault 45 = .ok (.ireturn, 1) := by decide +kernel
theorem dX10_choose_0 : decode cX10_choose 0 = .ok (.aload_n 0, 1) := by decide +kernel
theorem dX10_choose_1 : decode cX10_choose 1 = .ok (.getfield 10, 3) := by decide +kernel
theorem dX10_choose_4 : decode cX10_choose 4 = .ok (.getfield 133, 3) := by decide +kernel
theorem dX10_choose_7 : decode cX10_choose 7 = .ok (.iload_n 1, 1) := by decide +kernel
theorem dX10_choose_8 : decode cX10_choose 8 = .ok (.iload_n 2, 1) := by decide +kernel
theorem dX10_choose_9 : decode cX10_choose 9 = .ok (.iload_n 3, 1) := by decide +kernel
theorem dX10_choose_10 : decode cX10_choose 10 = .ok (.iload 4, 2) := by decide +kernel
theorem dX10_choose_12 : decode cX10_choose 12 = .ok (.iload 5, 2) := by decide +kernel
theorem dX10_choose_14 : decode cX10_choose 14 = .ok (.invokevirtual 137, 3) := by decide +kernel
theorem dX10_choose_17 : decode cX10_choose 17 = .ok (.ireturn, 1) := by decide +kernel
theorem dX10_span_0 : decode cX10_span 0 = .ok (.aload_n 0, 1) := by decide +kernel
theorem dX10_span_1 : decode cX10_span 1 = .ok (.getfield 36, 3) := by decide +kernel
theorem dX10_span_4 : decode cX10_span 4 = .ok (.aload_n 0, 1) := by decide +kernel
theorem dX10_span_5 : decode cX10_span 5 = .ok (.getfield 10, 3) := by decide +kernel
theorem dX10_span_8 : decode cX10_span 8 = .ok (.iload_n 1, 1) := by decide +kernel
theorem dX10_span_9 : decode cX10_span 9 = .ok (.invokevirtual 143, 3) := by decide +kernel
theorem dX10_span_12 : decode cX10_span 12 = .ok (.ifCond .ne 5, 3) := by decide +kernel
theorem dX10_span_15 : decode cX10_span 15 = .ok (.iconst (-1), 1) := by decide +kernel
theorem dX10_span_16 : decode cX10_span 16 = .ok (.ireturn, 1) := by decide +kernel
theorem dX10_span_17 : decode cX10_span 17 = .ok (.iload_n 2, 1) := by decide +kernel
theorem dX10_span_18 : decode cX10_span 18 = .ok (.tableswitch 73 0 2 #[26, 36, 46], 26) := by decide +kernel
theorem dX10_span_44 : decode cX10_span 44 = .ok (.aload_n 0, 1) := by decide +kernel
theorem dX10_span_45 : decode cX10_span 45 = .ok (.getfield 36, 3) := by decide +kernel
theorem dX10_span_48 : decode cX10_span 48 = .ok (.getfield 147, 3) := by decide +kernel
theorem dX10_span_51 : decode cX10_span 51 = .ok (.iconst 0, 1) := by decide +kernel
theorem dX10_span_52 : decode cX10_span 52 = .ok (.iaload, 1) := by decide +kernel
theorem dX10_span_53 : decode cX10_span 53 = .ok (.ireturn, 1) := by decide +kernel
theorem dX10_span_54 : decode cX10_span 54 = .ok (.aload_n 0, 1) := by decide +kernel
theorem dX10_span_55 : decode cX10_span 55 = .ok (.getfield 36, 3) := by decide +kernel
theorem dX10_span_58 : decode cX10_span 58 = .ok (.getfield 150, 3) := by decide +kernel
theorem dX10_span_61 : decode cX10_span 61 = .ok (.iconst 0, 1) := by decide +kernel
theorem dX10_span_62 : decode cX10_span 62 = .ok (.iaload, 1) := by decide +kernel
theorem dX10_span_63 : decode cX10_span 63 = .ok (.ireturn, 1) := by decide +kernel
theorem dX10_span_64 : decode cX10_span 64 = .ok (.aload_n 0, 1) := by decide +kernel
theorem dX10_span_65 : decode cX10_span 65 = .ok (.getfield 10, 3) := by decide +kernel
theorem dX10_span_68 : decode cX10_span 68 = .ok (.getfield 133, 3) := by decide +kernel
theorem dX10_span_71 : decode cX10_span 71 = .ok (.aload_n 0, 1) := by decide +kernel
theorem dX10_span_72 : decode cX10_span 72 = .ok (.getfield 10, 3) := by decide +kernel
theorem dX10_span_75 : decode cX10_span 75 = .ok (.getfield 58, 3) := by decide +kernel
theorem dX10_span_78 : decode cX10_span 78 = .ok (.iload_n 1, 1) := by decide +kernel
theorem dX10_span_79 : decode cX10_span 79 = .ok (.invokevirtual 153, 3) := by decide +kernel
theorem dX10_span_82 : decode cX10_span 82 = .ok (.ifCond .eq 7, 3) := by decide +kernel
theorem dX10_span_85 : decode cX10_span 85 = .ok (.iconst 1, 1) := by decide +kernel
theorem dX10_span_86 : decode cX10_span 86 = .ok (.goto 4, 3) := by decide +kernel
theorem dX10_span_89 : decode cX10_span 89 = .ok (.iconst 0, 1) := by decide +kernel
theorem dX10_span_90 : decode cX10_span 90 = .ok (.ireturn, 1) := by decide +kernel
theorem dX10_span_91 : decode cX10_span 91 = .ok (.iconst (-1), 1) := by decide +kernel
theorem dX10_span_92 : decode cX10_span 92 = .ok (.ireturn, 1) := by decide +kernel
theorem dX10_by_0 : decode cX10_by 0 = .ok (.iload_n 2, 1) := by decide +kernel
theorem dX10_by_1 : decode cX10_by 1 = .ok (.invokestatic 157, 3) := by decide +kernel
theorem dX10_by_4 : decode cX10_by 4 = .ok (.ifCond .eq 18, 3) := by decide +kernel
theorem dX10_by_7 : decode cX10_by 7 = .ok (.aload_n 0, 1) := by decide +kernel
theorem dX10_by_8 : decode cX10_by 8 = .ok (.getfield 36, 3) := by decide +kernel
theorem dX10_by_11 : decode cX10_by 11 = .ok (.aload_n 0, 1) := by decide +kernel
theorem dX10_by_12 : decode cX10_by 12 = .ok (.getfield 10, 3) := by decide +kernel
theorem dX10_by_15 : decode cX10_by 15 = .ok (.iload_n 1, 1) := by decide +kernel
theorem dX10_by_16 : decode cX10_by 16 = .ok (.invokevirtual 143, 3) := by decide +kernel
theorem dX10_by_19 : decode cX10_by 19 = .ok (.ifCond .ne 5, 3) := by decide +kernel
theorem dX10_by_22 : decode cX10_by 22 = .ok (.iconst (-1), 1) := by decide +kernel
theorem dX10_by_23 : decode cX10_by 23 = .ok (.ireturn, 1) := by decide +kernel
theorem dX10_by_24 : decode cX10_by 24 = .ok (.iload_n 3, 1) := by decide +kernel
theorem dX10_by_25 : decode cX10_by 25 = .ok (.tableswitch 79 0 3 #[31, 41, 59, 69], 31) := by decide +kernel
theorem dX10_by_56 : decode cX10_by 56 = .ok (.aload_n 0, 1) := by decide +kernel
theorem dX10_by_57 : decode cX10_by 57 = .ok (.getfield 36, 3) := by decide +kernel
theorem dX10_by_60 : decode cX10_by 60 = .ok (.iconst 0, 1) := by decide +kernel
theorem dX10_by_61 : decode cX10_by 61 = .ok (.iload_n 2, 1) := by decide +kernel
theorem dX10_by_62 : decode cX10_by 62 = .ok (.invokevirtual 160, 3) := by decide +kernel
theorem dX10_by_65 : decode cX10_by 65 = .ok (.ireturn, 1) := by decide +kernel
theorem dX10_by_66 : decode cX10_by 66 = .ok (.aload_n 0, 1) := by decide +kernel
theorem dX10_by_67 : decode cX10_by 67 = .ok (.getfield 36, 3) := by decide +kernel
theorem dX10_by_70 : decode cX10_by 70 = .ok (.iconst 0, 1) := by decide +kernel
theorem dX10_by_71 : decode cX10_by 71 = .ok (.iload_n 2, 1) := by decide +kernel
theorem dX10_by_72 : decode cX10_by 72 = .ok (.invokevirtual 163, 3) := by decide +kernel
theorem dX10_by_75 : decode cX10_by 75 = .ok (.ifCond .eq 7, 3) := by decide +kernel
theorem dX10_by_78 : decode cX10_by 78 = .ok (.iconst 1, 1) := by decide +kernel
theorem dX10_by_79 : decode cX10_by 79 = .ok (.goto 4, 3) := by decide +kernel
theorem dX10_by_82 : decode cX10_by 82 = .ok (.iconst 0, 1) := by decide +kernel
theorem dX10_by_83 : decode cX10_by 83 = .ok (.ireturn, 1) := by decide +kernel
theorem dX10_by_84 : decode cX10_by 84 = .ok (.aload_n 0, 1) := by decide +kernel
theorem dX10_by_85 : decode cX10_by 85 = .ok (.getfield 36, 3) := by decide +kernel
theorem dX10_by_88 : decode cX10_by 88 = .ok (.iconst 0, 1) := by decide +kernel
theorem dX10_by_89 : decode cX10_by 89 = .ok (.iload_n 2, 1) := by decide +kernel
theorem dX10_by_90 : decode cX10_by 90 = .ok (.invokevirtual 167, 3) := by decide +kernel
theorem dX10_by_93 : decode cX10_by 93 = .ok (.ireturn, 1) := by decide +kernel
theorem dX10_by_94 : decode cX10_by 94 = .ok (.aload_n 0, 1) := by decide +kernel
theorem dX10_by_95 : decode cX10_by 95 = .ok (.getfield 36, 3) := by decide +kernel
theorem dX10_by_98 : decode cX10_by 98 = .ok (.iconst 0, 1) := by decide +kernel
theorem dX10_by_99 : decode cX10_by 99 = .ok (.iload_n 2, 1) := by decide +kernel
theorem dX10_by_100 : decode cX10_by 100 = .ok (.invokevirtual 170, 3) := by decide +kernel
theorem dX10_by_103 : decode cX10_by 103 = .ok (.ireturn, 1) := by decide +kernel
theorem dX10_by_104 : decode cX10_by 104 = .ok (.iconst (-1), 1) := by decide +kernel
theorem dX10_by_105 : decode cX10_by 105 = .ok (.ireturn, 1) := by decide +kernel
theorem dX10_score_0 : decode cX10_score 0 = .ok (.iload_n 1, 1) := by decide +kernel
theorem dX10_score_1 : decode cX10_score 1 = .ok (.invokestatic 157, 3) := by decide +kernel
theorem dX10_score_4 : decode cX10_score 4 = .ok (.ifCond .ne 6, 3) := by decide +kernel
theorem dX10_score_7 : decode cX10_score 7 = .ok (.ldc 173, 2) := by decide +kernel
theorem dX10_score_9 : decode cX10_score 9 = .ok (.ireturn, 1) := by decide +kernel
theorem dX10_score_10 : decode cX10_score 10 = .ok (.aload_n 0, 1) := by decide +kernel
theorem dX10_score_11 : decode cX10_score 11 = .ok (.getfield 36, 3) := by decide +kernel
theorem dX10_score_14 : decode cX10_score 14 = .ok (.aload_n 0, 1) := by decide +kernel
theorem dX10_score_15 : decode cX10_score 15 = .ok (.getfield 10, 3) := by decide +kernel
theorem dX10_score_18 : decode cX10_score 18 = .ok (.iconst 0, 1) := by decide +kernel
theorem dX10_score_19 : decode cX10_score 19 = .ok (.iconst 0, 1) := by decide +kernel
theorem dX10_score_20 : decode cX10_score 20 = .ok (.invokevirtual 174, 3) := by decide +kernel
theorem dX10_score_23 : decode cX10_score 23 = .ok (.pop, 1) := by decide +kernel
theorem dX10_score_24 : decode cX10_score 24 = .ok (.aload_n 0, 1) := by decide +kernel
theorem dX10_score_25 : decode cX10_score 25 = .ok (.getfield 36, 3) := by decide +kernel
theorem dX10_score_28 : decode cX10_score 28 = .ok (.iload_n 1, 1) := by decide +kernel
theorem dX10_score_29 : decode cX10_score 29 = .ok (.invokevirtual 178, 3) := by decide +kernel
theorem dX10_score_32 : decode cX10_score 32 = .ok (.ireturn, 1) := by decide +kernel
theorem dX10_best_0 : decode cX10_best 0 = .ok (.iload_n 1, 1) := by decide +kernel
theorem dX10_best_1 : decode cX10_best 1 = .ok (.iload_n 2, 1) := by decide +kernel
theorem dX10_best_2 : decode cX10_best 2 = .ok (.sipush 300, 3) := by decide +kernel
theorem dX10_best_5 : decode cX10_best 5 = .ok (.invokestatic 182, 3) := by decide +kernel
theorem dX10_best_8 : decode cX10_best 8 = .ok (.ifCond .eq 14, 3) := by decide +kernel
theorem dX10_best_11 : decode cX10_best 11 = .ok (.aload_n 0, 1) := by decide +kernel
theorem dX10_best_12 : decode cX10_best 12 = .ok (.iconst 0, 1) := by decide +kernel
theorem dX10_best_13 : decode cX10_best 13 = .ok (.iconst 0, 1) := by decide +kernel
theorem dX10_best_14 : decode cX10_best 14 = .ok (.iload_n 1, 1) := by decide +kernel
theorem dX10_best_15 : decode cX10_best 15 = .ok (.iload_n 2, 1) := by decide +kernel
theorem dX10_best_16 : decode cX10_best 16 = .ok (.invokevirtual 185, 3) := by decide +kernel
theorem dX10_best_19 : decode cX10_best 19 = .ok (.goto 4, 3) := by decide +kernel
theorem dX10_best_22 : decode cX10_best 22 = .ok (.iconst (-1), 1) := by decide +kernel
theorem dX10_best_23 : decode cX10_best 23 = .ok (.ireturn, 1) := by decide +kernel
theorem dX10_peak_0 : decode cX10_peak 0 = .ok (.iload_n 1, 1) := by decide +kernel
theorem dX10_peak_1 : decode cX10_peak 1 = .ok (.iload_n 2, 1) := by decide +kernel
theorem dX10_peak_2 : decode cX10_peak 2 = .ok (.sipush 300, 3) := by decide +kernel
theorem dX10_peak_5 : decode cX10_peak 5 = .ok (.invokestatic 182, 3) := by decide +kernel
theorem dX10_peak_8 : decode cX10_peak 8 = .ok (.ifCond .eq 19, 3) := by decide +kernel
theorem dX10_peak_11 : decode cX10_peak 11 = .ok (.aload_n 0, 1) := by decide +kernel
theorem dX10_peak_12 : decode cX10_peak 12 = .ok (.getfield 36, 3) := by decide +kernel
theorem dX10_peak_15 : decode cX10_peak 15 = .ok (.aload_n 0, 1) := by decide +kernel
theorem dX10_peak_16 : decode cX10_peak 16 = .ok (.getfield 10, 3) := by decide +kernel
theorem dX10_peak_19 : decode cX10_peak 19 = .ok (.iconst 0, 1) := by decide +kernel
theorem dX10_peak_20 : decode cX10_peak 20 = .ok (.iconst 0, 1) := by decide +kernel
theorem dX10_peak_21 : decode cX10_peak 21 = .ok (.invokevirtual 174, 3) := by decide +kernel
theorem dX10_peak_24 : decode cX10_peak 24 = .ok (.ifCond .ne 5, 3) := by decide +kernel
theorem dX10_peak_27 : decode cX10_peak 27 = .ok (.iconst (-1), 1) := by decide +kernel
theorem dX10_peak_28 : decode cX10_peak 28 = .ok (.ireturn, 1) := by decide +kernel
theorem dX10_peak_29 : decode cX10_peak 29 = .ok (.aload_n 0, 1) := by decide +kernel
theorem dX10_peak_30 : decode cX10_peak 30 = .ok (.getfield 43, 3) := by decide +kernel
theorem dX10_peak_33 : decode cX10_peak 33 = .ok (.aload_n 0, 1) := by decide +kernel
theorem dX10_peak_34 : decode cX10_peak 34 = .ok (.getfield 36, 3) := by decide +kernel
theorem dX10_peak_37 : decode cX10_peak 37 = .ok (.iload_n 1, 1) := by decide +kernel
theorem dX10_peak_38 : decode cX10_peak 38 = .ok (.iload_n 2, 1) := by decide +kernel
theorem dX10_peak_39 : decode cX10_peak 39 = .ok (.invokevirtual 189, 3) := by decide +kernel
theorem dX10_peak_42 : decode cX10_peak 42 = .ok (.aload_n 0, 1) := by decide +kernel
theorem dX10_peak_43 : decode cX10_peak 43 = .ok (.getfield 43, 3) := by decide +kernel
theorem dX10_peak_46 : decode cX10_peak 46 = .ok (.iload_n 3, 1) := by decide +kernel
theorem dX10_peak_47 : decode cX10_peak 47 = .ok (.invokevirtual 193, 3) := by decide +kernel
theorem dX10_peak_50 : decode cX10_peak 50 = .ok (.ireturn, 1) := by decide +kernel
theorem dX10_pair_0 : decode cX10_pair 0 = .ok (.iload_n 1, 1) := by decide +kernel
theorem dX10_pair_1 : decode cX10_pair 1 = .ok (.iload_n 2, 1) := by decide +kernel
theorem dX10_pair_2 : decode cX10_pair 2 = .ok (.bipush 40, 2) := by decide +kernel
theorem dX10_pair_4 : decode cX10_pair 4 = .ok (.invokestatic 182, 3) := by decide +kernel
theorem dX10_pair_7 : decode cX10_pair 7 = .ok (.ifCond .eq 24, 3) := by decide +kernel
theorem dX10_pair_10 : decode cX10_pair 10 = .ok (.iload_n 1, 1) := by decide +kernel
theorem dX10_pair_11 : decode cX10_pair 11 = .ok (.iload_n 2, 1) := by decide +kernel
theorem dX10_pair_12 : decode cX10_pair 12 = .ok (.if_icmp .eq 19, 3) := by decide +kernel
theorem dX10_pair_15 : decode cX10_pair 15 = .ok (.aload_n 0, 1) := by decide +kernel
theorem dX10_pair_16 : decode cX10_pair 16 = .ok (.getfield 36, 3) := by decide +kernel
theorem dX10_pair_19 : decode cX10_pair 19 = .ok (.aload_n 0, 1) := by decide +kernel
theorem dX10_pair_20 : decode cX10_pair 20 = .ok (.getfield 10, 3) := by decide +kernel
theorem dX10_pair_23 : decode cX10_pair 23 = .ok (.iconst 0, 1) := by decide +kernel
theorem dX10_pair_24 : decode cX10_pair 24 = .ok (.iconst 0, 1) := by decide +kernel
theorem dX10_pair_25 : decode cX10_pair 25 = .ok (.invokevirtual 174, 3) := by decide +kernel
theorem dX10_pair_28 : decode cX10_pair 28 = .ok (.ifCond .ne 5, 3) := by decide +kernel
theorem dX10_pair_31 : decode cX10_pair 31 = .ok (.iconst (-1), 1) := by decide +kernel
theorem dX10_pair_32 : decode cX10_pair 32 = .ok (.ireturn, 1) := by decide +kernel
theorem dX10_pair_33 : decode cX10_pair 33 = .ok (.aload_n 0, 1) := by decide +kernel
theorem dX10_pair_34 : decode cX10_pair 34 = .ok (.getfield 43, 3) := by decide +kernel
theorem dX10_pair_37 : decode cX10_pair 37 = .ok (.aload_n 0, 1) := by decide +kernel
theorem dX10_pair_38 : decode cX10_pair 38 = .ok (.getfield 36, 3) := by decide +kernel
theorem dX10_pair_41 : decode cX10_pair 41 = .ok (.iload_n 1, 1) := by decide +kernel
theorem dX10_pair_42 : decode cX10_pair 42 = .ok (.iload_n 2, 1) := by decide +kernel
theorem dX10_pair_43 : decode cX10_pair 43 = .ok (.invokevirtual 196, 3) := by decide +kernel
theorem dX10_pair_46 : decode cX10_pair 46 = .ok (.ireturn, 1) := by decide +kernel
theorem dX10_sum_0 : decode cX10_sum 0 = .ok (.iload_n 1, 1) := by decide +kernel
theorem dX10_sum_1 : decode cX10_sum 1 = .ok (.invokestatic 157, 3) := by decide +kernel
theorem dX10_sum_4 : decode cX10_sum 4 = .ok (.ifCond .eq 15, 3) := by decide +kernel
theorem dX10_sum_7 : decode cX10_sum 7 = .ok (.iload_n 2, 1) := by decide +kernel
theorem dX10_sum_8 : decode cX10_sum 8 = .ok (.invokestatic 157, 3) := by decide +kernel
theorem dX10_sum_11 : decode cX10_sum 11 = .ok (.ifCond .eq 8, 3) := by decide +kernel
theorem dX10_sum_14 : decode cX10_sum 14 = .ok (.iload_n 1, 1) := by decide +kernel
theorem dX10_sum_15 : decode cX10_sum 15 = .ok (.iload_n 2, 1) := by decide +kernel
theorem dX10_sum_16 : decode cX10_sum 16 = .ok (.if_icmp .lt 7, 3) := by decide +kernel
theorem dX10_sum_19 : decode cX10_sum 19 = .ok (.ldc2_w 200, 3) := by decide +kernel
theorem dX10_sum_22 : decode cX10_sum 22 = .ok (.lreturn, 1) := by decide +kernel
theorem dX10_sum_23 : decode cX10_sum 23 = .ok (.aload_n 0, 1) := by decide +kernel
theorem dX10_sum_24 : decode cX10_sum 24 = .ok (.getfield 36, 3) := by decide +kernel
theorem dX10_sum_27 : decode cX10_sum 27 = .ok (.aload_n 0, 1) := by decide +kernel
theorem dX10_sum_28 : decode cX10_sum 28 = .ok (.getfield 10, 3) := by decide +kernel
theorem dX10_sum_31 : decode cX10_sum 31 = .ok (.iconst 0, 1) := by decide +kernel
theorem dX10_sum_32 : decode cX10_sum 32 = .ok (.iconst 0, 1) := by decide +kernel
theorem dX10_sum_33 : decode cX10_sum 33 = .ok (.invokevirtual 174, 3) := by decide +kernel
theorem dX10_sum_36 : decode cX10_sum 36 = .ok (.pop, 1) := by decide +kernel
theorem dX10_sum_37 : decode cX10_sum 37 = .ok (.aload_n 0, 1) := by decide +kernel
theorem dX10_sum_38 : decode cX10_sum 38 = .ok (.getfield 43, 3) := by decide +kernel
theorem dX10_sum_41 : decode cX10_sum 41 = .ok (.aload_n 0, 1) := by decide +kernel
theorem dX10_sum_42 : decode cX10_sum 42 = .ok (.getfield 36, 3) := by decide +kernel
theorem dX10_sum_45 : decode cX10_sum 45 = .ok (.iload_n 1, 1) := by decide +kernel
theorem dX10_sum_46 : decode cX10_sum 46 = .ok (.iload_n 2, 1) := by decide +kernel
theorem dX10_sum_47 : decode cX10_sum 47 = .ok (.invokevirtual 202, 3) := by decide +kernel
theorem dX10_sum_50 : decode cX10_sum 50 = .ok (.lreturn, 1) := by decide +kernel
theorem dX10_chance_0 : decode cX10_chance 0 = .ok (.iload_n 1, 1) := by decide +kernel
theorem dX10_chance_1 : decode cX10_chance 1 = .ok (.invokestatic 157, 3) := by decide +kernel
theorem dX10_chance_4 : decode cX10_chance 4 = .ok (.ifCond .ne 5, 3) := by decide +kernel
theorem dX10_chance_7 : decode cX10_chance 7 = .ok (.iconst (-1), 1) := by decide +kernel
theorem dX10_chance_8 : decode cX10_chance 8 = .ok (.ireturn, 1) := by decide +kernel
theorem dX10_chance_9 : decode cX10_chance 9 = .ok (.aload_n 0, 1) := by decide +kernel
theorem dX10_chance_10 : decode cX10_chance 10 = .ok (.getfield 36, 3) := by decide +kernel
theorem dX10_chance_13 : decode cX10_chance 13 = .ok (.aload_n 0, 1) := by decide +kernel
theorem dX10_chance_14 : decode cX10_chance 14 = .ok (.getfield 10, 3) := by decide +kernel
theorem dX10_chance_17 : decode cX10_chance 17 = .ok (.iconst 0, 1) := by decide +kernel
theorem dX10_chance_18 : decode cX10_chance 18 = .ok (.iconst 0, 1) := by decide +kernel
theorem dX10_chance_19 : decode cX10_chance 19 = .ok (.invokevirtual 174, 3) := by decide +kernel
theorem dX10_chance_22 : decode cX10_chance 22 = .ok (.pop, 1) := by decide +kernel
theorem dX10_chance_23 : decode cX10_chance 23 = .ok (.aload_n 0, 1) := by decide +kernel
theorem dX10_chance_24 : decode cX10_chance 24 = .ok (.getfield 50, 3) := by decide +kernel
theorem dX10_chance_27 : decode cX10_chance 27 = .ok (.aload_n 0, 1) := by decide +kernel
theorem dX10_chance_28 : decode cX10_chance 28 = .ok (.getfield 36, 3) := by decide +kernel
theorem dX10_chance_31 : decode cX10_chance 31 = .ok (.iload_n 1, 1) := by decide +kernel
theorem dX10_chance_32 : decode cX10_chance 32 = .ok (.aload_n 0, 1) := by decide +kernel
theorem dX10_chance_33 : decode cX10_chance 33 = .ok (.getfield 36, 3) := by decide +kernel
theorem dX10_chance_36 : decode cX10_chance 36 = .ok (.iload_n 1, 1) := by decide +kernel
theorem dX10_chance_37 : decode cX10_chance 37 = .ok (.invokevirtual 206, 3) := by decide +kernel
theorem dX10_chance_40 : decode cX10_chance 40 = .ok (.invokevirtual 209, 3) := by decide +kernel
theorem dX10_chance_43 : decode cX10_chance 43 = .ok (.ireturn, 1) := by decide +kernel
theorem dX10_verdict_0 : decode cX10_verdict 0 = .ok (.iload_n 2, 1) := by decide +kernel
theorem dX10_verdict_1 : decode cX10_verdict 1 = .ok (.iload_n 3, 1) := by decide +kernel
theorem dX10_verdict_2 : decode cX10_verdict 2 = .ok (.sipush 300, 3) := by decide +kernel
theorem dX10_verdict_5 : decode cX10_verdict 5 = .ok (.invokestatic 182, 3) := by decide +kernel
theorem dX10_verdict_8 : decode cX10_verdict 8 = .ok (.ifCond .eq 13, 3) := by decide +kernel
theorem dX10_verdict_11 : decode cX10_verdict 11 = .ok (.iload_n 1, 1) := by decide +kernel
theorem dX10_verdict_12 : decode cX10_verdict 12 = .ok (.iload_n 2, 1) := by decide +kernel
theorem dX10_verdict_13 : decode cX10_verdict 13 = .ok (.if_icmp .lt 8, 3) := by decide +kernel
theorem dX10_verdict_16 : decode cX10_verdict 16 = .ok (.iload_n 1, 1) := by decide +kernel
theorem dX10_verdict_17 : decode cX10_verdict 17 = .ok (.iload_n 3, 1) := by decide +kernel
theorem dX10_verdict_18 : decode cX10_verdict 18 = .ok (.if_icmp .le 5, 3) := by decide +kernel
theorem dX10_verdict_21 : decode cX10_verdict 21 = .ok (.iconst (-1), 1) := by decide +kernel
theorem dX10_verdict_22 : decode cX10_verdict 22 = .ok (.ireturn, 1) := by decide +kernel
theorem dX10_verdict_23 : decode cX10_verdict 23 = .ok (.aload_n 0, 1) := by decide +kernel
theorem dX10_verdict_24 : decode cX10_verdict 24 = .ok (.getfield 36, 3) := by decide +kernel
theorem dX10_verdict_27 : decode cX10_verdict 27 = .ok (.aload_n 0, 1) := by decide +kernel
theorem dX10_verdict_28 : decode cX10_verdict 28 = .ok (.getfield 10, 3) := by decide +kernel
theorem dX10_verdict_31 : decode cX10_verdict 31 = .ok (.iconst 0, 1) := by decide +kernel
theorem dX10_verdict_32 : decode cX10_verdict 32 = .ok (.iconst 0, 1) := by decide +kernel
theorem dX10_verdict_33 : decode cX10_verdict 33 = .ok (.invokevirtual 174, 3) := by decide +kernel
theorem dX10_verdict_36 : decode cX10_verdict 36 = .ok (.pop, 1) := by decide +kernel
theorem dX10_verdict_37 : decode cX10_verdict 37 = .ok (.aload_n 0, 1) := by decide +kernel
theorem dX10_verdict_38 : decode cX10_verdict 38 = .ok (.getfield 43, 3) := by decide +kernel
theorem dX10_verdict_41 : decode cX10_verdict 41 = .ok (.aload_n 0, 1) := by decide +kernel
theorem dX10_verdict_42 : decode cX10_verdict 42 = .ok (.getfield 36, 3) := by decide +kernel
theorem dX10_verdict_45 : decode cX10_verdict 45 = .ok (.iload_n 2, 1) := by decide +kernel
theorem dX10_verdict_46 : decode cX10_verdict 46 = .ok (.iload_n 3, 1) := by decide +kernel
theorem dX10_verdict_47 : decode cX10_verdict 47 = .ok (.invokevirtual 189, 3) := by decide +kernel
theorem dX10_verdict_50 : decode cX10_verdict 50 = .ok (.aload_n 0, 1) := by decide +kernel
theorem dX10_verdict_51 : decode cX10_verdict 51 = .ok (.iload_n 1, 1) := by decide +kernel
theorem dX10_verdict_52 : decode cX10_verdict 52 = .ok (.iload_n 3, 1) := by decide +kernel
theorem dX10_verdict_53 : decode cX10_verdict 53 = .ok (.iload_n 2, 1) := by decide +kernel
theorem dX10_verdict_54 : decode cX10_verdict 54 = .ok (.isub, 1) := by decide +kernel
theorem dX10_verdict_55 : decode cX10_verdict 55 = .ok (.iconst 1, 1) := by decide +kernel
theorem dX10_verdict_56 : decode cX10_verdict 56 = .ok (.iadd, 1) := by decide +kernel
theorem dX10_verdict_57 : decode cX10_verdict 57 = .ok (.invokevirtual 212, 3) := by decide +kernel
theorem dX10_verdict_60 : decode cX10_verdict 60 = .ok (.aload_n 0, 1) := by decide +kernel
theorem dX10_verdict_61 : decode cX10_verdict 61 = .ok (.getfield 10, 3) := by decide +kernel
theorem dX10_verdict_64 : decode cX10_verdict 64 = .ok (.getfield 114, 3) := by decide +kernel
theorem dX10_verdict_67 : decode cX10_verdict 67 = .ok (.astore 4, 2) := by decide +kernel
theorem dX10_verdict_69 : decode cX10_verdict 69 = .ok (.iconst 0, 1) := by decide +kernel
theorem dX10_verdict_70 : decode cX10_verdict 70 = .ok (.istore 5, 2) := by decide +kernel
theorem dX10_verdict_72 : decode cX10_verdict 72 = .ok (.iload 5, 2) := by decide +kernel
