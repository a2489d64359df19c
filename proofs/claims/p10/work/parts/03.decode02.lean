theorem dX5_readTest_13 : decode cX5_readTest 13 = .ok (.iconst 0, 1) := by decide +kernel
theorem dX5_readTest_14 : decode cX5_readTest 14 = .ok (.istore_n 2, 1) := by decide +kernel
theorem dX5_readTest_15 : decode cX5_readTest 15 = .ok (.iload_n 2, 1) := by decide +kernel
theorem dX5_readTest_16 : decode cX5_readTest 16 = .ok (.ifCond .eq 7, 3) := by decide +kernel
theorem dX5_readTest_19 : decode cX5_readTest 19 = .ok (.aload_n 0, 1) := by decide +kernel
theorem dX5_readTest_20 : decode cX5_readTest 20 = .ok (.invokevirtual 45, 3) := by decide +kernel
theorem dX5_readTest_23 : decode cX5_readTest 23 = .ok (.aload_n 0, 1) := by decide +kernel
theorem dX5_readTest_24 : decode cX5_readTest 24 = .ok (.aload_n 0, 1) := by decide +kernel
theorem dX5_readTest_25 : decode cX5_readTest 25 = .ok (.getfield 25, 3) := by decide +kernel
theorem dX5_readTest_28 : decode cX5_readTest 28 = .ok (.ifCond .eq 8, 3) := by decide +kernel
theorem dX5_readTest_31 : decode cX5_readTest 31 = .ok (.ldc 88, 2) := by decide +kernel
theorem dX5_readTest_33 : decode cX5_readTest 33 = .ok (.goto 5, 3) := by decide +kernel
theorem dX5_readTest_36 : decode cX5_readTest 36 = .ok (.ldc 90, 2) := by decide +kernel
theorem dX5_readTest_38 : decode cX5_readTest 38 = .ok (.invokevirtual 68, 3) := by decide +kernel
theorem dX5_readTest_41 : decode cX5_readTest 41 = .ok (.istore_n 3, 1) := by decide +kernel
theorem dX5_readTest_42 : decode cX5_readTest 42 = .ok (.iload_n 3, 1) := by decide +kernel
theorem dX5_readTest_43 : decode cX5_readTest 43 = .ok (.iconst (-1), 1) := by decide +kernel
theorem dX5_readTest_44 : decode cX5_readTest 44 = .ok (.if_icmp .ne 8, 3) := by decide +kernel
theorem dX5_readTest_47 : decode cX5_readTest 47 = .ok (.aload_n 0, 1) := by decide +kernel
theorem dX5_readTest_48 : decode cX5_readTest 48 = .ok (.invokevirtual 92, 3) := by decide +kernel
theorem dX5_readTest_51 : decode cX5_readTest 51 = .ok (.ireturn, 1) := by decide +kernel
theorem dX5_readTest_52 : decode cX5_readTest 52 = .ok (.aload_n 0, 1) := by decide +kernel
theorem dX5_readTest_53 : decode cX5_readTest 53 = .ok (.invokevirtual 45, 3) := by decide +kernel
theorem dX5_readTest_56 : decode cX5_readTest 56 = .ok (.aload_n 0, 1) := by decide +kernel
theorem dX5_readTest_57 : decode cX5_readTest 57 = .ok (.bipush 60, 2) := by decide +kernel
theorem dX5_readTest_59 : decode cX5_readTest 59 = .ok (.invokevirtual 96, 3) := by decide +kernel
theorem dX5_readTest_62 : decode cX5_readTest 62 = .ok (.ifCond .ne 26, 3) := by decide +kernel
theorem dX5_readTest_65 : decode cX5_readTest 65 = .ok (.aload_n 0, 1) := by decide +kernel
theorem dX5_readTest_66 : decode cX5_readTest 66 = .ok (.bipush 62, 2) := by decide +kernel
theorem dX5_readTest_68 : decode cX5_readTest 68 = .ok (.invokevirtual 96, 3) := by decide +kernel
theorem dX5_readTest_71 : decode cX5_readTest 71 = .ok (.ifCond .ne 17, 3) := by decide +kernel
theorem dX5_readTest_74 : decode cX5_readTest 74 = .ok (.aload_n 0, 1) := by decide +kernel
theorem dX5_readTest_75 : decode cX5_readTest 75 = .ok (.bipush 61, 2) := by decide +kernel
theorem dX5_readTest_77 : decode cX5_readTest 77 = .ok (.invokevirtual 96, 3) := by decide +kernel
theorem dX5_readTest_80 : decode cX5_readTest 80 = .ok (.ifCond .ne 8, 3) := by decide +kernel
theorem dX5_readTest_83 : decode cX5_readTest 83 = .ok (.aload_n 0, 1) := by decide +kernel
theorem dX5_readTest_84 : decode cX5_readTest 84 = .ok (.invokevirtual 92, 3) := by decide +kernel
theorem dX5_readTest_87 : decode cX5_readTest 87 = .ok (.ireturn, 1) := by decide +kernel
theorem dX5_readTest_88 : decode cX5_readTest 88 = .ok (.aload_n 0, 1) := by decide +kernel
theorem dX5_readTest_89 : decode cX5_readTest 89 = .ok (.getfield 38, 3) := by decide +kernel
theorem dX5_readTest_92 : decode cX5_readTest 92 = .ok (.aload_n 0, 1) := by decide +kernel
theorem dX5_readTest_93 : decode cX5_readTest 93 = .ok (.getfield 32, 3) := by decide +kernel
theorem dX5_readTest_96 : decode cX5_readTest 96 = .ok (.invokevirtual 99, 3) := by decide +kernel
theorem dX5_readTest_99 : decode cX5_readTest 99 = .ok (.istore 4, 2) := by decide +kernel
theorem dX5_readTest_101 : decode cX5_readTest 101 = .ok (.aload_n 0, 1) := by decide +kernel
theorem dX5_readTest_102 : decode cX5_readTest 102 = .ok (.invokevirtual 45, 3) := by decide +kernel
theorem dX5_readTest_105 : decode cX5_readTest 105 = .ok (.aload_n 0, 1) := by decide +kernel
theorem dX5_readTest_106 : decode cX5_readTest 106 = .ok (.getfield 29, 3) := by decide +kernel
theorem dX5_readTest_109 : decode cX5_readTest 109 = .ok (.iconst 2, 1) := by decide +kernel
theorem dX5_readTest_110 : decode cX5_readTest 110 = .ok (.if_icmp .eq 8, 3) := by decide +kernel
theorem dX5_readTest_113 : decode cX5_readTest 113 = .ok (.aload_n 0, 1) := by decide +kernel
theorem dX5_readTest_114 : decode cX5_readTest 114 = .ok (.invokevirtual 92, 3) := by decide +kernel
theorem dX5_readTest_117 : decode cX5_readTest 117 = .ok (.ireturn, 1) := by decide +kernel
theorem dX5_readTest_118 : decode cX5_readTest 118 = .ok (.aload_n 0, 1) := by decide +kernel
theorem dX5_readTest_119 : decode cX5_readTest 119 = .ok (.getfield 12, 3) := by decide +kernel
theorem dX5_readTest_122 : decode cX5_readTest 122 = .ok (.iload_n 1, 1) := by decide +kernel
theorem dX5_readTest_123 : decode cX5_readTest 123 = .ok (.iload_n 2, 1) := by decide +kernel
theorem dX5_readTest_124 : decode cX5_readTest 124 = .ok (.iload_n 3, 1) := by decide +kernel
theorem dX5_readTest_125 : decode cX5_readTest 125 = .ok (.iload 4, 2) := by decide +kernel
theorem dX5_readTest_127 : decode cX5_readTest 127 = .ok (.aload_n 0, 1) := by decide +kernel
theorem dX5_readTest_128 : decode cX5_readTest 128 = .ok (.invokevirtual 105, 3) := by decide +kernel
theorem dX5_readTest_131 : decode cX5_readTest 131 = .ok (.invokevirtual 109, 3) := by decide +kernel
theorem dX5_readTest_134 : decode cX5_readTest 134 = .ok (.aload_n 0, 1) := by decide +kernel
theorem dX5_readTest_135 : decode cX5_readTest 135 = .ok (.invokevirtual 45, 3) := by decide +kernel
theorem dX5_readTest_138 : decode cX5_readTest 138 = .ok (.iconst 1, 1) := by decide +kernel
theorem dX5_readTest_139 : decode cX5_readTest 139 = .ok (.ireturn, 1) := by decide +kernel
theorem dX5_readDeed_0 : decode cX5_readDeed 0 = .ok (.aload_n 0, 1) := by decide +kernel
theorem dX5_readDeed_1 : decode cX5_readDeed 1 = .ok (.aload_n 0, 1) := by decide +kernel
theorem dX5_readDeed_2 : decode cX5_readDeed 2 = .ok (.getfield 25, 3) := by decide +kernel
theorem dX5_readDeed_5 : decode cX5_readDeed 5 = .ok (.ifCond .eq 8, 3) := by decide +kernel
theorem dX5_readDeed_8 : decode cX5_readDeed 8 = .ok (.ldc 113, 2) := by decide +kernel
theorem dX5_readDeed_10 : decode cX5_readDeed 10 = .ok (.goto 5, 3) := by decide +kernel
theorem dX5_readDeed_13 : decode cX5_readDeed 13 = .ok (.ldc 115, 2) := by decide +kernel
theorem dX5_readDeed_15 : decode cX5_readDeed 15 = .ok (.invokevirtual 68, 3) := by decide +kernel
theorem dX5_readDeed_18 : decode cX5_readDeed 18 = .ok (.istore_n 2, 1) := by decide +kernel
theorem dX5_readDeed_19 : decode cX5_readDeed 19 = .ok (.iload_n 2, 1) := by decide +kernel
theorem dX5_readDeed_20 : decode cX5_readDeed 20 = .ok (.iconst (-1), 1) := by decide +kernel
theorem dX5_readDeed_21 : decode cX5_readDeed 21 = .ok (.if_icmp .ne 8, 3) := by decide +kernel
theorem dX5_readDeed_24 : decode cX5_readDeed 24 = .ok (.aload_n 0, 1) := by decide +kernel
theorem dX5_readDeed_25 : decode cX5_readDeed 25 = .ok (.invokevirtual 92, 3) := by decide +kernel
theorem dX5_readDeed_28 : decode cX5_readDeed 28 = .ok (.ireturn, 1) := by decide +kernel
theorem dX5_readDeed_29 : decode cX5_readDeed 29 = .ok (.aload_n 0, 1) := by decide +kernel
theorem dX5_readDeed_30 : decode cX5_readDeed 30 = .ok (.invokevirtual 45, 3) := by decide +kernel
theorem dX5_readDeed_33 : decode cX5_readDeed 33 = .ok (.aload_n 0, 1) := by decide +kernel
theorem dX5_readDeed_34 : decode cX5_readDeed 34 = .ok (.getfield 25, 3) := by decide +kernel
theorem dX5_readDeed_37 : decode cX5_readDeed 37 = .ok (.ifCond .ne 8, 3) := by decide +kernel
theorem dX5_readDeed_40 : decode cX5_readDeed 40 = .ok (.iload_n 2, 1) := by decide +kernel
theorem dX5_readDeed_41 : decode cX5_readDeed 41 = .ok (.iconst 2, 1) := by decide +kernel
theorem dX5_readDeed_42 : decode cX5_readDeed 42 = .ok (.if_icmp .ne 16, 3) := by decide +kernel
theorem dX5_readDeed_45 : decode cX5_readDeed 45 = .ok (.aload_n 0, 1) := by decide +kernel
theorem dX5_readDeed_46 : decode cX5_readDeed 46 = .ok (.getfield 12, 3) := by decide +kernel
theorem dX5_readDeed_49 : decode cX5_readDeed 49 = .ok (.iload_n 1, 1) := by decide +kernel
theorem dX5_readDeed_50 : decode cX5_readDeed 50 = .ok (.iload_n 2, 1) := by decide +kernel
theorem dX5_readDeed_51 : decode cX5_readDeed 51 = .ok (.iconst 0, 1) := by decide +kernel
theorem dX5_readDeed_52 : decode cX5_readDeed 52 = .ok (.iconst 0, 1) := by decide +kernel
theorem dX5_readDeed_53 : decode cX5_readDeed 53 = .ok (.invokevirtual 117, 3) := by decide +kernel
theorem dX5_readDeed_56 : decode cX5_readDeed 56 = .ok (.iconst 1, 1) := by decide +kernel
theorem dX5_readDeed_57 : decode cX5_readDeed 57 = .ok (.ireturn, 1) := by decide +kernel
theorem dX5_readDeed_58 : decode cX5_readDeed 58 = .ok (.aload_n 0, 1) := by decide +kernel
theorem dX5_readDeed_59 : decode cX5_readDeed 59 = .ok (.iload_n 1, 1) := by decide +kernel
theorem dX5_readDeed_60 : decode cX5_readDeed 60 = .ok (.iload_n 2, 1) := by decide +kernel
theorem dX5_readDeed_61 : decode cX5_readDeed 61 = .ok (.invokevirtual 121, 3) := by decide +kernel
theorem dX5_readDeed_64 : decode cX5_readDeed 64 = .ok (.ireturn, 1) := by decide +kernel
theorem dX5_readAmounts_0 : decode cX5_readAmounts 0 = .ok (.aload_n 0, 1) := by decide +kernel
theorem dX5_readAmounts_1 : decode cX5_readAmounts 1 = .ok (.getfield 29, 3) := by decide +kernel
theorem dX5_readAmounts_4 : decode cX5_readAmounts 4 = .ok (.iconst 2, 1) := by decide +kernel
theorem dX5_readAmounts_5 : decode cX5_readAmounts 5 = .ok (.if_icmp .eq 8, 3) := by decide +kernel
theorem dX5_readAmounts_8 : decode cX5_readAmounts 8 = .ok (.aload_n 0, 1) := by decide +kernel
theorem dX5_readAmounts_9 : decode cX5_readAmounts 9 = .ok (.invokevirtual 92, 3) := by decide +kernel
theorem dX5_readAmounts_12 : decode cX5_readAmounts 12 = .ok (.ireturn, 1) := by decide +kernel
theorem dX5_readAmounts_13 : decode cX5_readAmounts 13 = .ok (.aload_n 0, 1) := by decide +kernel
theorem dX5_readAmounts_14 : decode cX5_readAmounts 14 = .ok (.invokevirtual 105, 3) := by decide +kernel
theorem dX5_readAmounts_17 : decode cX5_readAmounts 17 = .ok (.istore_n 3, 1) := by decide +kernel
theorem dX5_readAmounts_18 : decode cX5_readAmounts 18 = .ok (.iload_n 3, 1) := by decide +kernel
theorem dX5_readAmounts_19 : decode cX5_readAmounts 19 = .ok (.istore 4, 2) := by decide +kernel
theorem dX5_readAmounts_21 : decode cX5_readAmounts 21 = .ok (.aload_n 0, 1) := by decide +kernel
theorem dX5_readAmounts_22 : decode cX5_readAmounts 22 = .ok (.invokevirtual 45, 3) := by decide +kernel
theorem dX5_readAmounts_25 : decode cX5_readAmounts 25 = .ok (.aload_n 0, 1) := by decide +kernel
theorem dX5_readAmounts_26 : decode cX5_readAmounts 26 = .ok (.ldc 125, 2) := by decide +kernel
theorem dX5_readAmounts_28 : decode cX5_readAmounts 28 = .ok (.invokevirtual 68, 3) := by decide +kernel
theorem dX5_readAmounts_31 : decode cX5_readAmounts 31 = .ok (.ifCond .ne 45, 3) := by decide +kernel
theorem dX5_readAmounts_34 : decode cX5_readAmounts 34 = .ok (.aload_n 0, 1) := by decide +kernel
theorem dX5_readAmounts_35 : decode cX5_readAmounts 35 = .ok (.invokevirtual 45, 3) := by decide +kernel
theorem dX5_readAmounts_38 : decode cX5_readAmounts 38 = .ok (.aload_n 0, 1) := by decide +kernel
theorem dX5_readAmounts_39 : decode cX5_readAmounts 39 = .ok (.getfield 29, 3) := by decide +kernel
theorem dX5_readAmounts_42 : decode cX5_readAmounts 42 = .ok (.iconst 2, 1) := by decide +kernel
theorem dX5_readAmounts_43 : decode cX5_readAmounts 43 = .ok (.if_icmp .eq 8, 3) := by decide +kernel
theorem dX5_readAmounts_46 : decode cX5_readAmounts 46 = .ok (.aload_n 0, 1) := by decide +kernel
theorem dX5_readAmounts_47 : decode cX5_readAmounts 47 = .ok (.invokevirtual 92, 3) := by decide +kernel
theorem dX5_readAmounts_50 : decode cX5_readAmounts 50 = .ok (.ireturn, 1) := by decide +kernel
theorem dX5_readAmounts_51 : decode cX5_readAmounts 51 = .ok (.aload_n 0, 1) := by decide +kernel
theorem dX5_readAmounts_52 : decode cX5_readAmounts 52 = .ok (.invokevirtual 105, 3) := by decide +kernel
theorem dX5_readAmounts_55 : decode cX5_readAmounts 55 = .ok (.istore 4, 2) := by decide +kernel
theorem dX5_readAmounts_57 : decode cX5_readAmounts 57 = .ok (.iload 4, 2) := by decide +kernel
theorem dX5_readAmounts_59 : decode cX5_readAmounts 59 = .ok (.iload_n 3, 1) := by decide +kernel
theorem dX5_readAmounts_60 : decode cX5_readAmounts 60 = .ok (.if_icmp .ge 12, 3) := by decide +kernel
theorem dX5_readAmounts_63 : decode cX5_readAmounts 63 = .ok (.aload_n 0, 1) := by decide +kernel
theorem dX5_readAmounts_64 : decode cX5_readAmounts 64 = .ok (.iconst 2, 1) := by decide +kernel
theorem dX5_readAmounts_65 : decode cX5_readAmounts 65 = .ok (.aload_n 0, 1) := by decide +kernel
theorem dX5_readAmounts_66 : decode cX5_readAmounts 66 = .ok (.getfield 32, 3) := by decide +kernel
theorem dX5_readAmounts_69 : decode cX5_readAmounts 69 = .ok (.invokevirtual 48, 3) := by decide +kernel
theorem dX5_readAmounts_72 : decode cX5_readAmounts 72 = .ok (.aload_n 0, 1) := by decide +kernel
theorem dX5_readAmounts_73 : decode cX5_readAmounts 73 = .ok (.invokevirtual 45, 3) := by decide +kernel
theorem dX5_readAmounts_76 : decode cX5_readAmounts 76 = .ok (.aload_n 0, 1) := by decide +kernel
theorem dX5_readAmounts_77 : decode cX5_readAmounts 77 = .ok (.getfield 12, 3) := by decide +kernel
theorem dX5_readAmounts_80 : decode cX5_readAmounts 80 = .ok (.iload_n 1, 1) := by decide +kernel
theorem dX5_readAmounts_81 : decode cX5_readAmounts 81 = .ok (.iload_n 2, 1) := by decide +kernel
theorem dX5_readAmounts_82 : decode cX5_readAmounts 82 = .ok (.iload_n 3, 1) := by decide +kernel
theorem dX5_readAmounts_83 : decode cX5_readAmounts 83 = .ok (.iload 4, 2) := by decide +kernel
theorem dX5_readAmounts_85 : decode cX5_readAmounts 85 = .ok (.invokevirtual 117, 3) := by decide +kernel
theorem dX5_readAmounts_88 : decode cX5_readAmounts 88 = .ok (.iconst 1, 1) := by decide +kernel
theorem dX5_readAmounts_89 : decode cX5_readAmounts 89 = .ok (.ireturn, 1) := by decide +kernel
theorem dX5_pass_0 : decode cX5_pass 0 = .ok (.aload_n 0, 1) := by decide +kernel
theorem dX5_pass_1 : decode cX5_pass 1 = .ok (.iload_n 1, 1) := by decide +kernel
theorem dX5_pass_2 : decode cX5_pass 2 = .ok (.invokevirtual 96, 3) := by decide +kernel
theorem dX5_pass_5 : decode cX5_pass 5 = .ok (.ifCond .ne 8, 3) := by decide +kernel
theorem dX5_pass_8 : decode cX5_pass 8 = .ok (.aload_n 0, 1) := by decide +kernel
theorem dX5_pass_9 : decode cX5_pass 9 = .ok (.invokevirtual 92, 3) := by decide +kernel
theorem dX5_pass_12 : decode cX5_pass 12 = .ok (.ireturn, 1) := by decide +kernel
theorem dX5_pass_13 : decode cX5_pass 13 = .ok (.aload_n 0, 1) := by decide +kernel
theorem dX5_pass_14 : decode cX5_pass 14 = .ok (.invokevirtual 45, 3) := by decide +kernel
theorem dX5_pass_17 : decode cX5_pass 17 = .ok (.iconst 1, 1) := by decide +kernel
theorem dX5_pass_18 : decode cX5_pass 18 = .ok (.ireturn, 1) := by decide +kernel
theorem dX5_refuse_0 : decode cX5_refuse 0 = .ok (.aload_n 0, 1) := by decide +kernel
theorem dX5_refuse_1 : decode cX5_refuse 1 = .ok (.iconst 1, 1) := by decide +kernel
theorem dX5_refuse_2 : decode cX5_refuse 2 = .ok (.putfield 18, 3) := by decide +kernel
theorem dX5_refuse_5 : decode cX5_refuse 5 = .ok (.aload_n 0, 1) := by decide +kernel
theorem dX5_refuse_6 : decode cX5_refuse 6 = .ok (.aload_n 0, 1) := by decide +kernel
theorem dX5_refuse_7 : decode cX5_refuse 7 = .ok (.getfield 32, 3) := by decide +kernel
theorem dX5_refuse_10 : decode cX5_refuse 10 = .ok (.putfield 22, 3) := by decide +kernel
theorem dX5_refuse_13 : decode cX5_refuse 13 = .ok (.iconst 0, 1) := by decide +kernel
theorem dX5_refuse_14 : decode cX5_refuse 14 = .ok (.ireturn, 1) := by decide +kernel
theorem dX5_remark_0 : decode cX5_remark 0 = .ok (.aload_n 0, 1) := by decide +kernel
theorem dX5_remark_1 : decode cX5_remark 1 = .ok (.getfield 18, 3) := by decide +kernel
theorem dX5_remark_4 : decode cX5_remark 4 = .ok (.ifCond .ne 13, 3) := by decide +kernel
theorem dX5_remark_7 : decode cX5_remark 7 = .ok (.aload_n 0, 1) := by decide +kernel
theorem dX5_remark_8 : decode cX5_remark 8 = .ok (.iload_n 1, 1) := by decide +kernel
theorem dX5_remark_9 : decode cX5_remark 9 = .ok (.putfield 18, 3) := by decide +kernel
theorem dX5_remark_12 : decode cX5_remark 12 = .ok (.aload_n 0, 1) := by decide +kernel
theorem dX5_remark_13 : decode cX5_remark 13 = .ok (.iload_n 2, 1) := by decide +kernel
theorem dX5_remark_14 : decode cX5_remark 14 = .ok (.putfield 22, 3) := by decide +kernel
theorem dX5_remark_17 : decode cX5_remark 17 = .ok (.return_, 1) := by decide +kernel
theorem dX5_isSign_0 : decode cX5_isSign 0 = .ok (.aload_n 0, 1) := by decide +kernel
theorem dX5_isSign_1 : decode cX5_isSign 1 = .ok (.getfield 29, 3) := by decide +kernel
theorem dX5_isSign_4 : decode cX5_isSign 4 = .ok (.iconst 3, 1) := by decide +kernel
theorem dX5_isSign_5 : decode cX5_isSign 5 = .ok (.if_icmp .ne 22, 3) := by decide +kernel
theorem dX5_isSign_8 : decode cX5_isSign 8 = .ok (.aload_n 0, 1) := by decide +kernel
theorem dX5_isSign_9 : decode cX5_isSign 9 = .ok (.getfield 38, 3) := by decide +kernel
theorem dX5_isSign_12 : decode cX5_isSign 12 = .ok (.aload_n 0, 1) := by decide +kernel
theorem dX5_isSign_13 : decode cX5_isSign 13 = .ok (.getfield 32, 3) := by decide +kernel
theorem dX5_isSign_16 : decode cX5_isSign 16 = .ok (.invokevirtual 99, 3) := by decide +kernel
theorem dX5_isSign_19 : decode cX5_isSign 19 = .ok (.iload_n 1, 1) := by decide +kernel
theorem dX5_isSign_20 : decode cX5_isSign 20 = .ok (.if_icmp .ne 7, 3) := by decide +kernel
theorem dX5_isSign_23 : decode cX5_isSign 23 = .ok (.iconst 1, 1) := by decide +kernel
theorem dX5_isSign_24 : decode cX5_isSign 24 = .ok (.goto 4, 3) := by decide +kernel
theorem dX5_isSign_27 : decode cX5_isSign 27 = .ok (.iconst 0, 1) := by decide +kernel
theorem dX5_isSign_28 : decode cX5_isSign 28 = .ok (.ireturn, 1) := by decide +kernel
theorem dX5_wordIn_0 : decode cX5_wordIn 0 = .ok (.aload_n 0, 1) := by decide +kernel
theorem dX5_wordIn_1 : decode cX5_wordIn 1 = .ok (.getfield 29, 3) := by decide +kernel
theorem dX5_wordIn_4 : decode cX5_wordIn 4 = .ok (.iconst 1, 1) := by decide +kernel
theorem dX5_wordIn_5 : decode cX5_wordIn 5 = .ok (.if_icmp .eq 5, 3) := by decide +kernel
theorem dX5_wordIn_8 : decode cX5_wordIn 8 = .ok (.iconst (-1), 1) := by decide +kernel
theorem dX5_wordIn_9 : decode cX5_wordIn 9 = .ok (.ireturn, 1) := by decide +kernel
theorem dX5_wordIn_10 : decode cX5_wordIn 10 = .ok (.iconst 0, 1) := by decide +kernel
theorem dX5_wordIn_11 : decode cX5_wordIn 11 = .ok (.istore_n 2, 1) := by decide +kernel
theorem dX5_wordIn_12 : decode cX5_wordIn 12 = .ok (.aload_n 0, 1) := by decide +kernel
theorem dX5_wordIn_13 : decode cX5_wordIn 13 = .ok (.getfield 32, 3) := by decide +kernel
theorem dX5_wordIn_16 : decode cX5_wordIn 16 = .ok (.istore_n 3, 1) := by decide +kernel
theorem dX5_wordIn_17 : decode cX5_wordIn 17 = .ok (.iconst 1, 1) := by decide +kernel
theorem dX5_wordIn_18 : decode cX5_wordIn 18 = .ok (.istore 4, 2) := by decide +kernel
theorem dX5_wordIn_20 : decode cX5_wordIn 20 = .ok (.iconst 0, 1) := by decide +kernel
theorem dX5_wordIn_21 : decode cX5_wordIn 21 = .ok (.istore 5, 2) := by decide +kernel
theorem dX5_wordIn_23 : decode cX5_wordIn 23 = .ok (.iload 5, 2) := by decide +kernel
theorem dX5_wordIn_25 : decode cX5_wordIn 25 = .ok (.aload_n 1, 1) := by decide +kernel
theorem dX5_wordIn_26 : decode cX5_wordIn 26 = .ok (.invokevirtual 127, 3) := by decide +kernel
theorem dX5_wordIn_29 : decode cX5_wordIn 29 = .ok (.if_icmp .gt 98, 3) := by decide +kernel
theorem dX5_wordIn_32 : decode cX5_wordIn 32 = .ok (.iload 5, 2) := by decide +kernel
theorem dX5_wordIn_34 : decode cX5_wordIn 34 = .ok (.aload_n 1, 1) := by decide +kernel
theorem dX5_wordIn_35 : decode cX5_wordIn 35 = .ok (.invokevirtual 127, 3) := by decide +kernel
theorem dX5_wordIn_38 : decode cX5_wordIn 38 = .ok (.if_icmp .eq 14, 3) := by decide +kernel
theorem dX5_wordIn_41 : decode cX5_wordIn 41 = .ok (.aload_n 1, 1) := by decide +kernel
theorem dX5_wordIn_42 : decode cX5_wordIn 42 = .ok (.iload 5, 2) := by decide +kernel
theorem dX5_wordIn_44 : decode cX5_wordIn 44 = .ok (.invokevirtual 132, 3) := by decide +kernel
theorem dX5_wordIn_47 : decode cX5_wordIn 47 = .ok (.bipush 32, 2) := by decide +kernel
theorem dX5_wordIn_49 : decode cX5_wordIn 49 = .ok (.if_icmp .ne 32, 3) := by decide +kernel
theorem dX5_wordIn_52 : decode cX5_wordIn 52 = .ok (.iload 4, 2) := by decide +kernel
theorem dX5_wordIn_54 : decode cX5_wordIn 54 = .ok (.ifCond .eq 13, 3) := by decide +kernel
theorem dX5_wordIn_57 : decode cX5_wordIn 57 = .ok (.iload_n 3, 1) := by decide +kernel
theorem dX5_wordIn_58 : decode cX5_wordIn 58 = .ok (.aload_n 0, 1) := by decide +kernel
theorem dX5_wordIn_59 : decode cX5_wordIn 59 = .ok (.getfield 35, 3) := by decide +kernel
theorem dX5_wordIn_62 : decode cX5_wordIn 62 = .ok (.if_icmp .ne 5, 3) := by decide +kernel
theorem dX5_wordIn_65 : decode cX5_wordIn 65 = .ok (.iload_n 2, 1) := by decide +kernel
theorem dX5_wordIn_66 : decode cX5_wordIn 66 = .ok (.ireturn, 1) := by decide +kernel
theorem dX5_wordIn_67 : decode cX5_wordIn 67 = .ok (.iinc 2 1, 3) := by decide +kernel
theorem dX5_wordIn_70 : decode cX5_wordIn 70 = .ok (.aload_n 0, 1) := by decide +kernel
theorem dX5_wordIn_71 : decode cX5_wordIn 71 = .ok (.getfield 32, 3) := by decide +kernel
theorem dX5_wordIn_74 : decode cX5_wordIn 74 = .ok (.istore_n 3, 1) := by decide +kernel
theorem dX5_wordIn_75 : decode cX5_wordIn 75 = .ok (.iconst 1, 1) := by decide +kernel
theorem dX5_wordIn_76 : decode cX5_wordIn 76 = .ok (.istore 4, 2) := by decide +kernel
theorem dX5_wordIn_78 : decode cX5_wordIn 78 = .ok (.goto 43, 3) := by decide +kernel
theorem dX5_wordIn_81 : decode cX5_wordIn 81 = .ok (.iload 4, 2) := by decide +kernel
theorem dX5_wordIn_83 : decode cX5_wordIn 83 = .ok (.ifCond .eq 32, 3) := by decide +kernel
theorem dX5_wordIn_86 : decode cX5_wordIn 86 = .ok (.iload_n 3, 1) := by decide +kernel
theorem dX5_wordIn_87 : decode cX5_wordIn 87 = .ok (.aload_n 0, 1) := by decide +kernel
theorem dX5_wordIn_88 : decode cX5_wordIn 88 = .ok (.getfield 35, 3) := by decide +kernel
theorem dX5_wordIn_91 : decode cX5_wordIn 91 = .ok (.if_icmp .ge 24, 3) := by decide +kernel
theorem dX5_wordIn_94 : decode cX5_wordIn 94 = .ok (.aload_n 0, 1) := by decide +kernel
theorem dX5_wordIn_95 : decode cX5_wordIn 95 = .ok (.getfield 38, 3) := by decide +kernel
theorem dX5_wordIn_98 : decode cX5_wordIn 98 = .ok (.iload_n 3, 1) := by decide +kernel
theorem dX5_wordIn_99 : decode cX5_wordIn 99 = .ok (.invokevirtual 99, 3) := by decide +kernel
theorem dX5_wordIn_102 : decode cX5_wordIn 102 = .ok (.aload_n 1, 1) := by decide +kernel
theorem dX5_wordIn_103 : decode cX5_wordIn 103 = .ok (.iload 5, 2) := by decide +kernel
theorem dX5_wordIn_105 : decode cX5_wordIn 105 = .ok (.invokevirtual 132, 3) := by decide +kernel
theorem dX5_wordIn_108 : decode cX5_wordIn 108 = .ok (.if_icmp .ne 7, 3) := by decide +kernel
theorem dX5_wordIn_111 : decode cX5_wordIn 111 = .ok (.iconst 1, 1) := by decide +kernel
theorem dX5_wordIn_112 : decode cX5_wordIn 112 = .ok (.goto 4, 3) := by decide +kernel
theorem dX5_wordIn_115 : decode cX5_wordIn 115 = .ok (.iconst 0, 1) := by decide +kernel
theorem dX5_wordIn_116 : decode cX5_wordIn 116 = .ok (.istore 4, 2) := by decide +kernel
theorem dX5_wordIn_118 : decode cX5_wordIn 118 = .ok (.iinc 3 1, 3) := by decide +kernel
theorem dX5_wordIn_121 : decode cX5_wordIn 121 = .ok (.iinc 5 1, 3) := by decide +kernel
theorem dX5_wordIn_124 : decode cX5_wordIn 124 = .ok (.goto (-101), 3) := by decide +kernel
theorem dX5_wordIn_127 : decode cX5_wordIn 127 = .ok (.iconst (-1), 1) := by decide +kernel
theorem dX5_wordIn_128 : decode cX5_wordIn 128 = .ok (.ireturn, 1) := by decide +kernel
theorem dX5_number_0 : decode cX5_number 0 = .ok (.iconst 0, 1) := by decide +kernel
theorem dX5_number_1 : decode cX5_number 1 = .ok (.istore_n 1, 1) := by decide +kernel
theorem dX5_number_2 : decode cX5_number 2 = .ok (.aload_n 0, 1) := by decide +kernel
theorem dX5_number_3 : decode cX5_number 3 = .ok (.getfield 32, 3) := by decide +kernel
theorem dX5_number_6 : decode cX5_number 6 = .ok (.istore_n 2, 1) := by decide +kernel
theorem dX5_number_7 : decode cX5_number 7 = .ok (.iload_n 2, 1) := by decide +kernel
theorem dX5_number_8 : decode cX5_number 8 = .ok (.aload_n 0, 1) := by decide +kernel
theorem dX5_number_9 : decode cX5_number 9 = .ok (.getfield 35, 3) := by decide +kernel
theorem dX5_number_12 : decode cX5_number 12 = .ok (.if_icmp .ge 26, 3) := by decide +kernel
theorem dX5_number_15 : decode cX5_number 15 = .ok (.iload_n 1, 1) := by decide +kernel
theorem dX5_number_16 : decode cX5_number 16 = .ok (.bipush 10, 2) := by decide +kernel
theorem dX5_number_18 : decode cX5_number 18 = .ok (.imul, 1) := by decide +kernel
theorem dX5_number_19 : decode cX5_number 19 = .ok (.aload_n 0, 1) := by decide +kernel
theorem dX5_number_20 : decode cX5_number 20 = .ok (.getfield 38, 3) := by decide +kernel
theorem dX5_number_23 : decode cX5_number 23 = .ok (.iload_n 2, 1) := by decide +kernel
theorem dX5_number_24 : decode cX5_number 24 = .ok (.invokevirtual 99, 3) := by decide +kernel
theorem dX5_number_27 : decode cX5_number 27 = .ok (.iadd, 1) := by decide +kernel
theorem dX5_number_28 : decode cX5_number 28 = .ok (.bipush 48, 2) := by decide +kernel
theorem dX5_number_30 : decode cX5_number 30 = .ok (.isub, 1) := by decide +kernel
theorem dX5_number_31 : decode cX5_number 31 = .ok (.istore_n 1, 1) := by decide +kernel
theorem dX5_number_32 : decode cX5_number 32 = .ok (.iinc 2 1, 3) := by decide +kernel
theorem dX5_number_35 : decode cX5_number 35 = .ok (.goto (-28), 3) := by decide +kernel
theorem dX5_number_38 : decode cX5_number 38 = .ok (.iload_n 1, 1) := by decide +kernel
theorem dX5_number_39 : decode cX5_number 39 = .ok (.ireturn, 1) := by decide +kernel
theorem dX5_advance_0 : decode cX5_advance 0 = .ok (.aload_n 0, 1) := by decide +kernel
theorem dX5_advance_1 : decode cX5_advance 1 = .ok (.aload_n 0, 1) := by decide +kernel
theorem dX5_advance_2 : decode cX5_advance 2 = .ok (.getfield 35, 3) := by decide +kernel
theorem dX5_advance_5 : decode cX5_advance 5 = .ok (.putfield 32, 3) := by decide +kernel
theorem dX5_advance_8 : decode cX5_advance 8 = .ok (.aload_n 0, 1) := by decide +kernel
theorem dX5_advance_9 : decode cX5_advance 9 = .ok (.getfield 32, 3) := by decide +kernel
theorem dX5_advance_12 : decode cX5_advance 12 = .ok (.sipush 500, 3) := by decide +kernel
theorem dX5_advance_15 : decode cX5_advance 15 = .ok (.if_icmp .ge 33, 3) := by decide +kernel
theorem dX5_advance_18 : decode cX5_advance 18 = .ok (.aload_n 0, 1) := by decide +kernel
theorem dX5_advance_19 : decode cX5_advance 19 = .ok (.getfield 38, 3) := by decide +kernel
theorem dX5_advance_22 : decode cX5_advance 22 = .ok (.aload_n 0, 1) := by decide +kernel
theorem dX5_advance_23 : decode cX5_advance 23 = .ok (.getfield 32, 3) := by decide +kernel
theorem dX5_advance_26 : decode cX5_advance 26 = .ok (.invokevirtual 99, 3) := by decide +kernel
theorem dX5_advance_29 : decode cX5_advance 29 = .ok (.invokestatic 136, 3) := by decide +kernel
theorem dX5_advance_32 : decode cX5_advance 32 = .ok (.ifCond .eq 16, 3) := by decide +kernel
theorem dX5_advance_35 : decode cX5_advance 35 = .ok (.aload_n 0, 1) := by decide +kernel
theorem dX5_advance_36 : decode cX5_advance 36 = .ok (.dup, 1) := by decide +kernel
theorem dX5_advance_37 : decode cX5_advance 37 = .ok (.getfield 32, 3) := by decide +kernel
theorem dX5_advance_40 : decode cX5_advance 40 = .ok (.iconst 1, 1) := by decide +kernel
theorem dX5_advance_41 : decode cX5_advance 41 = .ok (.iadd, 1) := by decide +kernel
theorem dX5_advance_42 : decode cX5_advance 42 = .ok (.putfield 32, 3) := by decide +kernel
theorem dX5_advance_45 : decode cX5_advance 45 = .ok (.goto (-37), 3) := by decide +kernel
theorem dX5_advance_48 : decode cX5_advance 48 = .ok (.aload_n 0, 1) := by decide +kernel
theorem dX5_advance_49 : decode cX5_advance 49 = .ok (.getfield 38, 3) := by decide +kernel
theorem dX5_advance_52 : decode cX5_advance 52 = .ok (.aload_n 0, 1) := by decide +kernel
theorem dX5_advance_53 : decode cX5_advance 53 = .ok (.getfield 32, 3) := by decide +kernel
theorem dX5_advance_56 : decode cX5_advance 56 = .ok (.invokevirtual 99, 3) := by decide +kernel
theorem dX5_advance_59 : decode cX5_advance 59 = .ok (.istore_n 1, 1) := by decide +kernel
theorem dX5_advance_60 : decode cX5_advance 60 = .ok (.aload_n 0, 1) := by decide +kernel
theorem dX5_advance_61 : decode cX5_advance 61 = .ok (.aload_n 0, 1) := by decide +kernel
theorem dX5_advance_62 : decode cX5_advance 62 = .ok (.getfield 32, 3) := by decide +kernel
theorem dX5_advance_65 : decode cX5_advance 65 = .ok (.putfield 35, 3) := by decide +kernel
theorem dX5_advance_68 : decode cX5_advance 68 = .ok (.iload_n 1, 1) := by decide +kernel
theorem dX5_advance_69 : decode cX5_advance 69 = .ok (.invokestatic 139, 3) := by decide +kernel
theorem dX5_advance_72 : decode cX5_advance 72 = .ok (.ifCond .eq 51, 3) := by decide +kernel
theorem dX5_advance_75 : decode cX5_advance 75 = .ok (.aload_n 0, 1) := by decide +kernel
theorem dX5_advance_76 : decode cX5_advance 76 = .ok (.getfield 35, 3) := by decide +kernel
theorem dX5_advance_79 : decode cX5_advance 79 = .ok (.sipush 500, 3) := by decide +kernel
theorem dX5_advance_82 : decode cX5_advance 82 = .ok (.if_icmp .ge 33, 3) := by decide +kernel
theorem dX5_advance_85 : decode cX5_advance 85 = .ok (.aload_n 0, 1) := by decide +kernel
theorem dX5_advance_86 : decode cX5_advance 86 = .ok (.getfield 38, 3) := by decide +kernel
theorem dX5_advance_89 : decode cX5_advance 89 = .ok (.aload_n 0, 1) := by decide +kernel
theorem dX5_advance_90 : decode cX5_advance 90 = .ok (.getfield 35, 3) := by decide +kernel
theorem dX5_advance_93 : decode cX5_advance 93 = .ok (.invokevirtual 99, 3) := by decide +kernel
theorem dX5_advance_96 : decode cX5_advance 96 = .ok (.invokestatic 139, 3) := by decide +kernel
theorem dX5_advance_99 : decode cX5_advance 99 = .ok (.ifCond .eq 16, 3) := by decide +kernel
theorem dX5_advance_102 : decode cX5_advance 102 = .ok (.aload_n 0, 1) := by decide +kernel
theorem dX5_advance_103 : decode cX5_advance 103 = .ok (.dup, 1) := by decide +kernel
theorem dX5_advance_104 : decode cX5_advance 104 = .ok (.getfield 35, 3) := by decide +kernel
theorem dX5_advance_107 : decode cX5_advance 107 = .ok (.iconst 1, 1) := by decide +kernel
theorem dX5_advance_108 : decode cX5_advance 108 = .ok (.iadd, 1) := by decide +kernel
theorem dX5_advance_109 : decode cX5_advance 109 = .ok (.putfield 35, 3) := by decide +kernel
theorem dX5_advance_112 : decode cX5_advance 112 = .ok (.goto (-37), 3) := by decide +kernel
theorem dX5_advance_115 : decode cX5_advance 115 = .ok (.aload_n 0, 1) := by decide +kernel
theorem dX5_advance_116 : decode cX5_advance 116 = .ok (.iconst 1, 1) := by decide +kernel
theorem dX5_advance_117 : decode cX5_advance 117 = .ok (.putfield 29, 3) := by decide +kernel
theorem dX5_advance_120 : decode cX5_advance 120 = .ok (.goto 114, 3) := by decide +kernel
theorem dX5_advance_123 : decode cX5_advance 123 = .ok (.iload_n 1, 1) := by decide +kernel
theorem dX5_advance_124 : decode cX5_advance 124 = .ok (.invokestatic 142, 3) := by decide +kernel
theorem dX5_advance_127 : decode cX5_advance 127 = .ok (.ifCond .eq 68, 3) := by decide +kernel
theorem dX5_advance_130 : decode cX5_advance 130 = .ok (.aload_n 0, 1) := by decide +kernel
theorem dX5_advance_131 : decode cX5_advance 131 = .ok (.getfield 35, 3) := by decide +kernel
theorem dX5_advance_134 : decode cX5_advance 134 = .ok (.sipush 500, 3) := by decide +kernel
theorem dX5_advance_137 : decode cX5_advance 137 = .ok (.if_icmp .ge 33, 3) := by decide +kernel
theorem dX5_advance_140 : decode cX5_advance 140 = .ok (.aload_n 0, 1) := by decide +kernel
theorem dX5_advance_141 : decode cX5_advance 141 = .ok (.getfield 38, 3) := by decide +kernel
theorem dX5_advance_144 : decode cX5_advance 144 = .ok (.aload_n 0, 1) := by decide +kernel
theorem dX5_advance_145 : decode cX5_advance 145 = .ok (.getfield 35, 3) := by decide +kernel
theorem dX5_advance_148 : decode cX5_advance 148 = .ok (.invokevirtual 99, 3) := by decide +kernel
theorem dX5_advance_151 : decode cX5_advance 151 = .ok (.invokestatic 142, 3) := by decide +kernel
theorem dX5_advance_154 : decode cX5_advance 154 = .ok (.ifCond .eq 16, 3) := by decide +kernel
theorem dX5_advance_157 : decode cX5_advance 157 = .ok (.aload_n 0, 1) := by decide +kernel
theorem dX5_advance_158 : decode cX5_advance 158 = .ok (.dup, 1) := by decide +kernel
theorem dX5_advance_159 : decode cX5_advance 159 = .ok (.getfield 35, 3) := by decide +kernel
theorem dX5_advance_162 : decode cX5_advance 162 = .ok (.iconst 1, 1) := by decide +kernel
theorem dX5_advance_163 : decode cX5_advance 163 = .ok (.iadd, 1) := by decide +kernel
theorem dX5_advance_164 : decode cX5_advance 164 = .ok (.putfield 35, 3) := by decide +kernel
theorem dX5_advance_167 : decode cX5_advance 167 = .ok (.goto (-37), 3) := by decide +kernel
theorem dX5_advance_170 : decode cX5_advance 170 = .ok (.aload_n 0, 1) := by decide +kernel
theorem dX5_advance_171 : decode cX5_advance 171 = .ok (.aload_n 0, 1) := by decide +kernel
theorem dX5_advance_172 : decode cX5_advance 172 = .ok (.getfield 35, 3) := by decide +kernel
theorem dX5_advance_175 : decode cX5_advance 175 = .ok (.aload_n 0, 1) := by decide +kernel
theorem dX5_advance_176 : decode cX5_advance 176 = .ok (.getfield 32, 3) := by decide +kernel
theorem dX5_advance_179 : decode cX5_advance 179 = .ok (.isub, 1) := by decide +kernel
theorem dX5_advance_180 : decode cX5_advance 180 = .ok (.iconst 4, 1) := by decide +kernel
theorem dX5_advance_181 : decode cX5_advance 181 = .ok (.if_icmp .gt 7, 3) := by decide +kernel
theorem dX5_advance_184 : decode cX5_advance 184 = .ok (.iconst 2, 1) := by decide +kernel
theorem dX5_advance_185 : decode cX5_advance 185 = .ok (.goto 4, 3) := by decide +kernel
theorem dX5_advance_188 : decode cX5_advance 188 = .ok (.iconst 4, 1) := by decide +kernel
theorem dX5_advance_189 : decode cX5_advance 189 = .ok (.putfield 29, 3) := by decide +kernel
theorem dX5_advance_192 : decode cX5_advance 192 = .ok (.goto 42, 3) := by decide +kernel
theorem dX5_advance_195 : decode cX5_advance 195 = .ok (.iload_n 1, 1) := by decide +kernel
theorem dX5_advance_196 : decode cX5_advance 196 = .ok (.iconst (-1), 1) := by decide +kernel
theorem dX5_advance_197 : decode cX5_advance 197 = .ok (.if_icmp .ne 11, 3) := by decide +kernel
theorem dX5_advance_200 : decode cX5_advance 200 = .ok (.aload_n 0, 1) := by decide +kernel
theorem dX5_advance_201 : decode cX5_advance 201 = .ok (.iconst 0, 1) := by decide +kernel
theorem dX5_advance_202 : decode cX5_advance 202 = .ok (.putfield 29, 3) := by decide +kernel
theorem dX5_advance_205 : decode cX5_advance 205 = .ok (.goto 29, 3) := by decide +kernel
theorem dX5_advance_208 : decode cX5_advance 208 = .ok (.aload_n 0, 1) := by decide +kernel
theorem dX5_advance_209 : decode cX5_advance 209 = .ok (.dup, 1) := by decide +kernel
theorem dX5_advance_210 : decode cX5_advance 210 = .ok (.getfield 35, 3) := by decide +kernel
theorem dX5_advance_213 : decode cX5_advance 213 = .ok (.iconst 1, 1) := by decide +kernel
theorem dX5_advance_214 : decode cX5_advance 214 = .ok (.iadd, 1) := by decide +kernel
theorem dX5_advance_215 : decode cX5_advance 215 = .ok (.putfield 35, 3) := by decide +kernel
theorem dX5_advance_218 : decode cX5_advance 218 = .ok (.aload_n 0, 1) := by decide +kernel
theorem dX5_advance_219 : decode cX5_advance 219 = .ok (.iload_n 1, 1) := by decide +kernel
theorem dX5_advance_220 : decode cX5_advance 220 = .ok (.invokestatic 145, 3) := by decide +kernel
theorem dX5_advance_223 : decode cX5_advance 223 = .ok (.ifCond .eq 7, 3) := by decide +kernel
theorem dX5_advance_226 : decode cX5_advance 226 = .ok (.iconst 3, 1) := by decide +kernel
theorem dX5_advance_227 : decode cX5_advance 227 = .ok (.goto 4, 3) := by decide +kernel
theorem dX5_advance_230 : decode cX5_advance 230 = .ok (.iconst 4, 1) := by decide +kernel
theorem dX5_advance_231 : decode cX5_advance 231 = .ok (.putfield 29, 3) := by decide +kernel
theorem dX5_advance_234 : decode cX5_advance 234 = .ok (.return_, 1) := by decide +kernel
theorem dX5_isBlank_0 : decode cX5_isBlank 0 = .ok (.iload_n 0, 1) := by decide +kernel
theorem dX5_isBlank_1 : decode cX5_isBlank 1 = .ok (.bipush 10, 2) := by decide +kernel
theorem dX5_isBlank_3 : decode cX5_isBlank 3 = .ok (.if_icmp .eq 9, 3) := by decide +kernel
theorem dX5_isBlank_6 : decode cX5_isBlank 6 = .ok (.iload_n 0, 1) := by decide +kernel
theorem dX5_isBlank_7 : decode cX5_isBlank 7 = .ok (.bipush 32, 2) := by decide +kernel
theorem dX5_isBlank_9 : decode cX5_isBlank 9 = .ok (.if_icmp .ne 7, 3) := by decide +kernel
theorem dX5_isBlank_12 : decode cX5_isBlank 12 = .ok (.iconst 1, 1) := by decide +kernel
theorem dX5_isBlank_13 : decode cX5_isBlank 13 = .ok (.goto 4, 3) := by decide +kernel
theorem dX5_isBlank_16 : decode cX5_isBlank 16 = .ok (.iconst 0, 1) := by decide +kernel
theorem dX5_isBlank_17 : decode cX5_isBlank 17 = .ok (.ireturn, 1) := by decide +kernel
theorem dX5_isLetter_0 : decode cX5_isLetter 0 = .ok (.iload_n 0, 1) := by decide +kernel
theorem dX5_isLetter_1 : decode cX5_isLetter 1 = .ok (.bipush 97, 2) := by decide +kernel
theorem dX5_isLetter_3 : decode cX5_isLetter 3 = .ok (.if_icmp .lt 13, 3) := by decide +kernel
theorem dX5_isLetter_6 : decode cX5_isLetter 6 = .ok (.iload_n 0, 1) := by decide +kernel
theorem dX5_isLetter_7 : decode cX5_isLetter 7 = .ok (.bipush 122, 2) := by decide +kernel
theorem dX5_isLetter_9 : decode cX5_isLetter 9 = .ok (.if_icmp .gt 7, 3) := by decide +kernel
theorem dX5_isLetter_12 : decode cX5_isLetter 12 = .ok (.iconst 1, 1) := by decide +kernel
theorem dX5_isLetter_13 : decode cX5_isLetter 13 = .ok (.goto 4, 3) := by decide +kernel
theorem dX5_isLetter_16 : decode cX5_isLetter 16 = .ok (.iconst 0, 1) := by decide +kernel
theorem dX5_isLetter_17 : decode cX5_isLetter 17 = .ok (.ireturn, 1) := by decide +kernel
theorem dX5_isDigit_0 : decode cX5_isDigit 0 = .ok (.iload_n 0, 1) := by decide +kernel
theorem dX5_isDigit_1 : decode cX5_isDigit 1 = .ok (.bipush 48, 2) := by decide +kernel
theorem dX5_isDigit_3 : decode cX5_isDigit 3 = .ok (.if_icmp .lt 13, 3) := by decide +kernel
theorem dX5_isDigit_6 : decode cX5_isDigit 6 = .ok (.iload_n 0, 1) := by decide +kernel
theorem dX5_isDigit_7 : decode cX5_isDigit 7 = .ok (.bipush 57, 2) := by decide +kernel
theorem dX5_isDigit_9 : decode cX5_isDigit 9 = .ok (.if_icmp .gt 7, 3) := by decide +kernel
theorem dX5_isDigit_12 : decode cX5_isDigit 12 = .ok (.iconst 1, 1) := by decide +kernel
theorem dX5_isDigit_13 : decode cX5_isDigit 13 = .ok (.goto 4, 3) := by decide +kernel
theorem dX5_isDigit_16 : decode cX5_isDigit 16 = .ok (.iconst 0, 1) := by decide +kernel
theorem dX5_isDigit_17 : decode cX5_isDigit 17 = .ok (.ireturn, 1) := by decide +kernel
theorem dX5_isSignByte_0 : decode cX5_isSignByte 0 = .ok (.iload_n 0, 1) := by decide +kernel
theorem dX5_isSignByte_1 : decode cX5_isSignByte 1 = .ok (.bipush 58, 2) := by decide +kernel
theorem dX5_isSignByte_3 : decode cX5_isSignByte 3 = .ok (.if_icmp .eq 27, 3) := by decide +kernel
theorem dX5_isSignByte_6 : decode cX5_isSignByte 6 = .ok (.iload_n 0, 1) := by decide +kernel
theorem dX5_isSignByte_7 : decode cX5_isSignByte 7 = .ok (.bipush 59, 2) := by decide +kernel
theorem dX5_isSignByte_9 : decode cX5_isSignByte 9 = .ok (.if_icmp .eq 21, 3) := by decide +kernel
theorem dX5_isSignByte_12 : decode cX5_isSignByte 12 = .ok (.iload_n 0, 1) := by decide +kernel
theorem dX5_isSignByte_13 : decode cX5_isSignByte 13 = .ok (.bipush 60, 2) := by decide +kernel
theorem dX5_isSignByte_15 : decode cX5_isSignByte 15 = .ok (.if_icmp .eq 15, 3) := by decide +kernel
theorem dX5_isSignByte_18 : decode cX5_isSignByte 18 = .ok (.iload_n 0, 1) := by decide +kernel
theorem dX5_isSignByte_19 : decode cX5_isSignByte 19 = .ok (.bipush 62, 2) := by decide +kernel
theorem dX5_isSignByte_21 : decode cX5_isSignByte 21 = .ok (.if_icmp .eq 9, 3) := by decide +kernel
theorem dX5_isSignByte_24 : decode cX5_isSignByte 24 = .ok (.iload_n 0, 1) := by decide +kernel
theorem dX5_isSignByte_25 : decode cX5_isSignByte 25 = .ok (.bipush 61, 2) := by decide +kernel
theorem dX5_isSignByte_27 : decode cX5_isSignByte 27 = .ok (.if_icmp .ne 7, 3) := by decide +kernel
theorem dX5_isSignByte_30 : decode cX5_isSignByte 30 = .ok (.iconst 1, 1) := by decide +kernel
theorem dX5_isSignByte_31 : decode cX5_isSignByte 31 = .ok (.goto 4, 3) := by decide +kernel
theorem dX5_isSignByte_34 : decode cX5_isSignByte 34 = .ok (.iconst 0, 1) := by decide +kernel
theorem dX5_isSignByte_35 : decode cX5_isSignByte 35 = .ok (.ireturn, 1) := by decide +kernel
theorem dX6_init_0 : decode cX6_init 0 = .ok (.aload_n 0, 1) := by decide +kernel
theorem dX6_init_1 : decode cX6_init 1 = .ok (.invokespecial 3, 3) := by decide +kernel
theorem dX6_init_4 : decode cX6_init 4 = .ok (.aload_n 0, 1) := by decide +kernel
theorem dX6_init_5 : decode cX6_init 5 = .ok (.iconst 0, 1) := by decide +kernel
theorem dX6_init_6 : decode cX6_init 6 = .ok (.putfield 9, 3) := by decide +kernel
theorem dX6_init_9 : decode cX6_init 9 = .ok (.aload_n 0, 1) := by decide +kernel
theorem dX6_init_10 : decode cX6_init 10 = .ok (.bipush 16, 2) := by decide +kernel
theorem dX6_init_12 : decode cX6_init 12 = .ok (.newarray .int, 2) := by decide +kernel
theorem dX6_init_14 : decode cX6_init 14 = .ok (.putfield 15, 3) := by decide +kernel
theorem dX6_init_17 : decode cX6_init 17 = .ok (.aload_n 0, 1) := by decide +kernel
theorem dX6_init_18 : decode cX6_init 18 = .ok (.bipush 16, 2) := by decide +kernel
theorem dX6_init_20 : decode cX6_init 20 = .ok (.newarray .int, 2) := by decide +kernel
theorem dX6_init_22 : decode cX6_init 22 = .ok (.putfield 19, 3) := by decide +kernel
theorem dX6_init_25 : decode cX6_init 25 = .ok (.aload_n 0, 1) := by decide +kernel
theorem dX6_init_26 : decode cX6_init 26 = .ok (.bipush 16, 2) := by decide +kernel
theorem dX6_init_28 : decode cX6_init 28 = .ok (.newarray .int, 2) := by decide +kernel
theorem dX6_init_30 : decode cX6_init 30 = .ok (.putfield 22, 3) := by decide +kernel
theorem dX6_init_33 : decode cX6_init 33 = .ok (.aload_n 0, 1) := by decide +kernel
theorem dX6_init_34 : decode cX6_init 34 = .ok (.bipush 16, 2) := by decide +kernel
theorem dX6_init_36 : decode cX6_init 36 = .ok (.newarray .int, 2) := by decide +kernel
theorem dX6_init_38 : decode cX6_init 38 = .ok (.putfield 25, 3) := by decide +kernel
theorem dX6_init_41 : decode cX6_init 41 = .ok (.aload_n 0, 1) := by decide +kernel
theorem dX6_init_42 : decode cX6_init 42 = .ok (.bipush 64, 2) := by decide +kernel
theorem dX6_init_44 : decode cX6_init 44 = .ok (.newarray .int, 2) := by decide +kernel
theorem dX6_init_46 : decode cX6_init 46 = .ok (.putfield 28, 3) := by decide +kernel
theorem dX6_init_49 : decode cX6_init 49 = .ok (.aload_n 0, 1) := by decide +kernel
theorem dX6_init_50 : decode cX6_init 50 = .ok (.bipush 64, 2) := by decide +kernel
theorem dX6_init_52 : decode cX6_init 52 = .ok (.newarray .int, 2) := by decide +kernel
theorem dX6_init_54 : decode cX6_init 54 = .ok (.putfield 31, 3) := by decide +kernel
theorem dX6_init_57 : decode cX6_init 57 = .ok (.aload_n 0, 1) := by decide +kernel
theorem dX6_init_58 : decode cX6_init 58 = .ok (.bipush 64, 2) := by decide +kernel
theorem dX6_init_60 : decode cX6_init 60 = .ok (.newarray .int, 2) := by decide +kernel
theorem dX6_init_62 : decode cX6_init 62 = .ok (.putfield 34, 3) := by decide +kernel
theorem dX6_init_65 : decode cX6_init 65 = .ok (.aload_n 0, 1) := by decide +kernel
theorem dX6_init_66 : decode cX6_init 66 = .ok (.bipush 64, 2) := by decide +kernel
theorem dX6_init_68 : decode cX6_init 68 = .ok (.newarray .boolean, 2) := by decide +kernel
theorem dX6_init_70 : decode cX6_init 70 = .ok (.putfield 37, 3) := by decide +kernel
theorem dX6_init_73 : decode cX6_init 73 = .ok (.return_, 1) := by decide +kernel
theorem dX6_setDeed_0 : decode cX6_setDeed 0 = .ok (.iload_n 1, 1) := by decide +kernel
theorem dX6_setDeed_1 : decode cX6_setDeed 1 = .ok (.invokestatic 41, 3) := by decide +kernel
theorem dX6_setDeed_4 : decode cX6_setDeed 4 = .ok (.ifCond .ne 4, 3) := by decide +kernel
theorem dX6_setDeed_7 : decode cX6_setDeed 7 = .ok (.return_, 1) := by decide +kernel
theorem dX6_setDeed_8 : decode cX6_setDeed 8 = .ok (.aload_n 0, 1) := by decide +kernel
theorem dX6_setDeed_9 : decode cX6_setDeed 9 = .ok (.getfield 15, 3) := by decide +kernel
theorem dX6_setDeed_12 : decode cX6_setDeed 12 = .ok (.iload_n 1, 1) := by decide +kernel
theorem dX6_setDeed_13 : decode cX6_setDeed 13 = .ok (.iload_n 2, 1) := by decide +kernel
theorem dX6_setDeed_14 : decode cX6_setDeed 14 = .ok (.iastore, 1) := by decide +kernel
theorem dX6_setDeed_15 : decode cX6_setDeed 15 = .ok (.aload_n 0, 1) := by decide +kernel
theorem dX6_setDeed_16 : decode cX6_setDeed 16 = .ok (.getfield 19, 3) := by decide +kernel
theorem dX6_setDeed_19 : decode cX6_setDeed 19 = .ok (.iload_n 1, 1) := by decide +kernel
theorem dX6_setDeed_20 : decode cX6_setDeed 20 = .ok (.iload_n 3, 1) := by decide +kernel
theorem dX6_setDeed_21 : decode cX6_setDeed 21 = .ok (.iastore, 1) := by decide +kernel
theorem dX6_setDeed_22 : decode cX6_setDeed 22 = .ok (.aload_n 0, 1) := by decide +kernel
theorem dX6_setDeed_23 : decode cX6_setDeed 23 = .ok (.getfield 22, 3) := by decide +kernel
theorem dX6_setDeed_26 : decode cX6_setDeed 26 = .ok (.iload_n 1, 1) := by decide +kernel
theorem dX6_setDeed_27 : decode cX6_setDeed 27 = .ok (.iload 4, 2) := by decide +kernel
theorem dX6_setDeed_29 : decode cX6_setDeed 29 = .ok (.iastore, 1) := by decide +kernel
theorem dX6_setDeed_30 : decode cX6_setDeed 30 = .ok (.return_, 1) := by decide +kernel
theorem dX6_clearTests_0 : decode cX6_clearTests 0 = .ok (.iload_n 1, 1) := by decide +kernel
theorem dX6_clearTests_1 : decode cX6_clearTests 1 = .ok (.invokestatic 41, 3) := by decide +kernel
theorem dX6_clearTests_4 : decode cX6_clearTests 4 = .ok (.ifCond .eq 10, 3) := by decide +kernel
theorem dX6_clearTests_7 : decode cX6_clearTests 7 = .ok (.aload_n 0, 1) := by decide +kernel
theorem dX6_clearTests_8 : decode cX6_clearTests 8 = .ok (.getfield 25, 3) := by decide +kernel
theorem dX6_clearTests_11 : decode cX6_clearTests 11 = .ok (.iload_n 1, 1) := by decide +kernel
theorem dX6_clearTests_12 : decode cX6_clearTests 12 = .ok (.iconst 0, 1) := by decide +kernel
theorem dX6_clearTests_13 : decode cX6_clearTests 13 = .ok (.iastore, 1) := by decide +kernel
theorem dX6_clearTests_14 : decode cX6_clearTests 14 = .ok (.return_, 1) := by decide +kernel
theorem dX6_addTest_0 : decode cX6_addTest 0 = .ok (.iload_n 1, 1) := by decide +kernel
theorem dX6_addTest_1 : decode cX6_addTest 1 = .ok (.invokestatic 41, 3) := by decide +kernel
theorem dX6_addTest_4 : decode cX6_addTest 4 = .ok (.ifCond .eq 13, 3) := by decide +kernel
theorem dX6_addTest_7 : decode cX6_addTest 7 = .ok (.aload_n 0, 1) := by decide +kernel
theorem dX6_addTest_8 : decode cX6_addTest 8 = .ok (.getfield 25, 3) := by decide +kernel
theorem dX6_addTest_11 : decode cX6_addTest 11 = .ok (.iload_n 1, 1) := by decide +kernel
theorem dX6_addTest_12 : decode cX6_addTest 12 = .ok (.iaload, 1) := by decide +kernel
theorem dX6_addTest_13 : decode cX6_addTest 13 = .ok (.iconst 4, 1) := by decide +kernel
theorem dX6_addTest_14 : decode cX6_addTest 14 = .ok (.if_icmp .lt 4, 3) := by decide +kernel
theorem dX6_addTest_17 : decode cX6_addTest 17 = .ok (.return_, 1) := by decide +kernel
theorem dX6_addTest_18 : decode cX6_addTest 18 = .ok (.iload_n 1, 1) := by decide +kernel
theorem dX6_addTest_19 : decode cX6_addTest 19 = .ok (.iconst 4, 1) := by decide +kernel
theorem dX6_addTest_20 : decode cX6_addTest 20 = .ok (.imul, 1) := by decide +kernel
theorem dX6_addTest_21 : decode cX6_addTest 21 = .ok (.aload_n 0, 1) := by decide +kernel
theorem dX6_addTest_22 : decode cX6_addTest 22 = .ok (.getfield 25, 3) := by decide +kernel
theorem dX6_addTest_25 : decode cX6_addTest 25 = .ok (.iload_n 1, 1) := by decide +kernel
theorem dX6_addTest_26 : decode cX6_addTest 26 = .ok (.iaload, 1) := by decide +kernel
theorem dX6_addTest_27 : decode cX6_addTest 27 = .ok (.iadd, 1) := by decide +kernel
theorem dX6_addTest_28 : decode cX6_addTest 28 = .ok (.istore 6, 2) := by decide +kernel
theorem dX6_addTest_30 : decode cX6_addTest 30 = .ok (.aload_n 0, 1) := by decide +kernel
theorem dX6_addTest_31 : decode cX6_addTest 31 = .ok (.getfield 37, 3) := by decide +kernel
theorem dX6_addTest_34 : decode cX6_addTest 34 = .ok (.iload 6, 2) := by decide +kernel
theorem dX6_addTest_36 : decode cX6_addTest 36 = .ok (.iload_n 2, 1) := by decide +kernel
theorem dX6_addTest_37 : decode cX6_addTest 37 = .ok (.bastore, 1) := by decide +kernel
theorem dX6_addTest_38 : decode cX6_addTest 38 = .ok (.aload_n 0, 1) := by decide +kernel
theorem dX6_addTest_39 : decode cX6_addTest 39 = .ok (.getfield 28, 3) := by decide +kernel
theorem dX6_addTest_42 : decode cX6_addTest 42 = .ok (.iload 6, 2) := by decide +kernel
theorem dX6_addTest_44 : decode cX6_addTest 44 = .ok (.iload_n 3, 1) := by decide +kernel
theorem dX6_addTest_45 : decode cX6_addTest 45 = .ok (.iastore, 1) := by decide +kernel
theorem dX6_addTest_46 : decode cX6_addTest 46 = .ok (.aload_n 0, 1) := by decide +kernel
theorem dX6_addTest_47 : decode cX6_addTest 47 = .ok (.getfield 31, 3) := by decide +kernel
theorem dX6_addTest_50 : decode cX6_addTest 50 = .ok (.iload 6, 2) := by decide +kernel
theorem dX6_addTest_52 : decode cX6_addTest 52 = .ok (.iload 4, 2) := by decide +kernel
theorem dX6_addTest_54 : decode cX6_addTest 54 = .ok (.iastore, 1) := by decide +kernel
theorem dX6_addTest_55 : decode cX6_addTest 55 = .ok (.aload_n 0, 1) := by decide +kernel
theorem dX6_addTest_56 : decode cX6_addTest 56 = .ok (.getfield 34, 3) := by decide +kernel
theorem dX6_addTest_59 : decode cX6_addTest 59 = .ok (.iload 6, 2) := by decide +kernel
theorem dX6_addTest_61 : decode cX6_addTest 61 = .ok (.iload 5, 2) := by decide +kernel
theorem dX6_addTest_63 : decode cX6_addTest 63 = .ok (.iastore, 1) := by decide +kernel
theorem dX6_addTest_64 : decode cX6_addTest 64 = .ok (.aload_n 0, 1) := by decide +kernel
theorem dX6_addTest_65 : decode cX6_addTest 65 = .ok (.getfield 25, 3) := by decide +kernel
theorem dX6_addTest_68 : decode cX6_addTest 68 = .ok (.iload_n 1, 1) := by decide +kernel
theorem dX6_addTest_69 : decode cX6_addTest 69 = .ok (.dup2, 1) := by decide +kernel
theorem dX6_addTest_70 : decode cX6_addTest 70 = .ok (.iaload, 1) := by decide +kernel
theorem dX6_addTest_71 : decode cX6_addTest 71 = .ok (.iconst 1, 1) := by decide +kernel
theorem dX6_addTest_72 : decode cX6_addTest 72 = .ok (.iadd, 1) := by decide +kernel
theorem dX6_addTest_73 : decode cX6_addTest 73 = .ok (.iastore, 1) := by decide +kernel
theorem dX6_addTest_74 : decode cX6_addTest 74 = .ok (.return_, 1) := by decide +kernel
theorem dX6_holds_0 : decode cX6_holds 0 = .ok (.iload_n 1, 1) := by decide +kernel
theorem dX6_holds_1 : decode cX6_holds 1 = .ok (.invokestatic 41, 3) := by decide +kernel
theorem dX6_holds_4 : decode cX6_holds 4 = .ok (.ifCond .ne 5, 3) := by decide +kernel
theorem dX6_holds_7 : decode cX6_holds 7 = .ok (.iconst 0, 1) := by decide +kernel
theorem dX6_holds_8 : decode cX6_holds 8 = .ok (.ireturn, 1) := by decide +kernel
theorem dX6_holds_9 : decode cX6_holds 9 = .ok (.iconst 0, 1) := by decide +kernel
theorem dX6_holds_10 : decode cX6_holds 10 = .ok (.istore_n 3, 1) := by decide +kernel
theorem dX6_holds_11 : decode cX6_holds 11 = .ok (.iload_n 3, 1) := by decide +kernel
theorem dX6_holds_12 : decode cX6_holds 12 = .ok (.aload_n 0, 1) := by decide +kernel
theorem dX6_holds_13 : decode cX6_holds 13 = .ok (.getfield 25, 3) := by decide +kernel
theorem dX6_holds_16 : decode cX6_holds 16 = .ok (.iload_n 1, 1) := by decide +kernel
theorem dX6_holds_17 : decode cX6_holds 17 = .ok (.iaload, 1) := by decide +kernel
theorem dX6_holds_18 : decode cX6_holds 18 = .ok (.if_icmp .ge 39, 3) := by decide +kernel
theorem dX6_holds_21 : decode cX6_holds 21 = .ok (.iload_n 3, 1) := by decide +kernel
theorem dX6_holds_22 : decode cX6_holds 22 = .ok (.iconst 4, 1) := by decide +kernel
theorem dX6_holds_23 : decode cX6_holds 23 = .ok (.if_icmp .ge 34, 3) := by decide +kernel
theorem dX6_holds_26 : decode cX6_holds 26 = .ok (.aload_n 0, 1) := by decide +kernel
theorem dX6_holds_27 : decode cX6_holds 27 = .ok (.iload_n 1, 1) := by decide +kernel
theorem dX6_holds_28 : decode cX6_holds 28 = .ok (.iconst 4, 1) := by decide +kernel
theorem dX6_holds_29 : decode cX6_holds 29 = .ok (.imul, 1) := by decide +kernel
theorem dX6_holds_30 : decode cX6_holds 30 = .ok (.iload_n 3, 1) := by decide +kernel
theorem dX6_holds_31 : decode cX6_holds 31 = .ok (.iadd, 1) := by decide +kernel
theorem dX6_holds_32 : decode cX6_holds 32 = .ok (.aload_n 2, 1) := by decide +kernel
theorem dX6_holds_33 : decode cX6_holds 33 = .ok (.invokevirtual 45, 3) := by decide +kernel
theorem dX6_holds_36 : decode cX6_holds 36 = .ok (.aload_n 0, 1) := by decide +kernel
theorem dX6_holds_37 : decode cX6_holds 37 = .ok (.getfield 37, 3) := by decide +kernel
theorem dX6_holds_40 : decode cX6_holds 40 = .ok (.iload_n 1, 1) := by decide +kernel
theorem dX6_holds_41 : decode cX6_holds 41 = .ok (.iconst 4, 1) := by decide +kernel
theorem dX6_holds_42 : decode cX6_holds 42 = .ok (.imul, 1) := by decide +kernel
theorem dX6_holds_43 : decode cX6_holds 43 = .ok (.iload_n 3, 1) := by decide +kernel
theorem dX6_holds_44 : decode cX6_holds 44 = .ok (.iadd, 1) := by decide +kernel
theorem dX6_holds_45 : decode cX6_holds 45 = .ok (.baload, 1) := by decide +kernel
theorem dX6_holds_46 : decode cX6_holds 46 = .ok (.if_icmp .ne 5, 3) := by decide +kernel
theorem dX6_holds_49 : decode cX6_holds 49 = .ok (.iconst 0, 1) := by decide +kernel
theorem dX6_holds_50 : decode cX6_holds 50 = .ok (.ireturn, 1) := by decide +kernel
theorem dX6_holds_51 : decode cX6_holds 51 = .ok (.iinc 3 1, 3) := by decide +kernel
theorem dX6_holds_54 : decode cX6_holds 54 = .ok (.goto (-43), 3) := by decide +kernel
theorem dX6_holds_57 : decode cX6_holds 57 = .ok (.iconst 1, 1) := by decide +kernel
theorem dX6_holds_58 : decode cX6_holds 58 = .ok (.ireturn, 1) := by decide +kernel
theorem dX6_deedOf_0 : decode cX6_deedOf 0 = .ok (.iload_n 1, 1) := by decide +kernel
theorem dX6_deedOf_1 : decode cX6_deedOf 1 = .ok (.invokestatic 41, 3) := by decide +kernel
theorem dX6_deedOf_4 : decode cX6_deedOf 4 = .ok (.ifCond .eq 12, 3) := by decide +kernel
theorem dX6_deedOf_7 : decode cX6_deedOf 7 = .ok (.aload_n 0, 1) := by decide +kernel
theorem dX6_deedOf_8 : decode cX6_deedOf 8 = .ok (.getfield 15, 3) := by decide +kernel
theorem dX6_deedOf_11 : decode cX6_deedOf 11 = .ok (.iload_n 1, 1) := by decide +kernel
theorem dX6_deedOf_12 : decode cX6_deedOf 12 = .ok (.iaload, 1) := by decide +kernel
theorem dX6_deedOf_13 : decode cX6_deedOf 13 = .ok (.goto 4, 3) := by decide +kernel
theorem dX6_deedOf_16 : decode cX6_deedOf 16 = .ok (.iconst (-1), 1) := by decide +kernel
theorem dX6_deedOf_17 : decode cX6_deedOf 17 = .ok (.ireturn, 1) := by decide +kernel
theorem dX6_leastOf_0 : decode cX6_leastOf 0 = .ok (.iload_n 1, 1) := by decide +kernel
theorem dX6_leastOf_1 : decode cX6_leastOf 1 = .ok (.invokestatic 41, 3) := by decide +kernel
theorem dX6_leastOf_4 : decode cX6_leastOf 4 = .ok (.ifCond .eq 12, 3) := by decide +kernel
theorem dX6_leastOf_7 : decode cX6_leastOf 7 = .ok (.aload_n 0, 1) := by decide +kernel
theorem dX6_leastOf_8 : decode cX6_leastOf 8 = .ok (.getfield 19, 3) := by decide +kernel
theorem dX6_leastOf_11 : decode cX6_leastOf 11 = .ok (.iload_n 1, 1) := by decide +kernel
theorem dX6_leastOf_12 : decode cX6_leastOf 12 = .ok (.iaload, 1) := by decide +kernel
theorem dX6_leastOf_13 : decode cX6_leastOf 13 = .ok (.goto 4, 3) := by decide +kernel
theorem dX6_leastOf_16 : decode cX6_leastOf 16 = .ok (.iconst 0, 1) := by decide +kernel
theorem dX6_leastOf_17 : decode cX6_leastOf 17 = .ok (.ireturn, 1) := by decide +kernel
theorem dX6_mostOf_0 : decode cX6_mostOf 0 = .ok (.iload_n 1, 1) := by decide +kernel
theorem dX6_mostOf_1 : decode cX6_mostOf 1 = .ok (.invokestatic 41, 3) := by decide +kernel
theorem dX6_mostOf_4 : decode cX6_mostOf 4 = .ok (.ifCond .eq 12, 3) := by decide +kernel
theorem dX6_mostOf_7 : decode cX6_mostOf 7 = .ok (.aload_n 0, 1) := by decide +kernel
theorem dX6_mostOf_8 : decode cX6_mostOf 8 = .ok (.getfield 22, 3) := by decide +kernel
theorem dX6_mostOf_11 : decode cX6_mostOf 11 = .ok (.iload_n 1, 1) := by decide +kernel
theorem dX6_mostOf_12 : decode cX6_mostOf 12 = .ok (.iaload, 1) := by decide +kernel
theorem dX6_mostOf_13 : decode cX6_mostOf 13 = .ok (.goto 4, 3) := by decide +kernel
theorem dX6_mostOf_16 : decode cX6_mostOf 16 = .ok (.iconst 0, 1) := by decide +kernel
theorem dX6_mostOf_17 : decode cX6_mostOf 17 = .ok (.ireturn, 1) := by decide +kernel
theorem dX6_copyFrom_0 : decode cX6_copyFrom 0 = .ok (.aload_n 0, 1) := by decide +kernel
theorem dX6_copyFrom_1 : decode cX6_copyFrom 1 = .ok (.aload_n 1, 1) := by decide +kernel
theorem dX6_copyFrom_2 : decode cX6_copyFrom 2 = .ok (.getfield 9, 3) := by decide +kernel
theorem dX6_copyFrom_5 : decode cX6_copyFrom 5 = .ok (.putfield 9, 3) := by decide +kernel
theorem dX6_copyFrom_8 : decode cX6_copyFrom 8 = .ok (.aload_n 1, 1) := by decide +kernel
theorem dX6_copyFrom_9 : decode cX6_copyFrom 9 = .ok (.getfield 15, 3) := by decide +kernel
theorem dX6_copyFrom_12 : decode cX6_copyFrom 12 = .ok (.iconst 0, 1) := by decide +kernel
theorem dX6_copyFrom_13 : decode cX6_copyFrom 13 = .ok (.aload_n 0, 1) := by decide +kernel
theorem dX6_copyFrom_14 : decode cX6_copyFrom 14 = .ok (.getfield 15, 3) := by decide +kernel
theorem dX6_copyFrom_17 : decode cX6_copyFrom 17 = .ok (.iconst 0, 1) := by decide +kernel
theorem dX6_copyFrom_18 : decode cX6_copyFrom 18 = .ok (.bipush 16, 2) := by decide +kernel
theorem dX6_copyFrom_20 : decode cX6_copyFrom 20 = .ok (.invokestatic 49, 3) := by decide +kernel
theorem dX6_copyFrom_23 : decode cX6_copyFrom 23 = .ok (.aload_n 1, 1) := by decide +kernel
theorem dX6_copyFrom_24 : decode cX6_copyFrom 24 = .ok (.getfield 19, 3) := by decide +kernel
theorem dX6_copyFrom_27 : decode cX6_copyFrom 27 = .ok (.iconst 0, 1) := by decide +kernel
theorem dX6_copyFrom_28 : decode cX6_copyFrom 28 = .ok (.aload_n 0, 1) := by decide +kernel
theorem dX6_copyFrom_29 : decode cX6_copyFrom 29 = .ok (.getfield 19, 3) := by decide +kernel
theorem dX6_copyFrom_32 : decode cX6_copyFrom 32 = .ok (.iconst 0, 1) := by decide +kernel
theorem dX6_copyFrom_33 : decode cX6_copyFrom 33 = .ok (.bipush 16, 2) := by decide +kernel
theorem dX6_copyFrom_35 : decode cX6_copyFrom 35 = .ok (.invokestatic 49, 3) := by decide +kernel
theorem dX6_copyFrom_38 : decode cX6_copyFrom 38 = .ok (.aload_n 1, 1) := by decide +kernel
theorem dX6_copyFrom_39 : decode cX6_copyFrom 39 = .ok (.getfield 22, 3) := by decide +kernel
theorem dX6_copyFrom_42 : decode cX6_copyFrom 42 = .ok (.iconst 0, 1) := by decide +kernel
theorem dX6_copyFrom_43 : decode cX6_copyFrom 43 = .ok (.aload_n 0, 1) := by decide +kernel
theorem dX6_copyFrom_44 : decode cX6_copyFrom 44 = .ok (.getfield 22, 3) := by decide +kernel
theorem dX6_copyFrom_47 : decode cX6_copyFrom 47 = .ok (.iconst 0, 1) := by decide +kernel
theorem dX6_copyFrom_48 : decode cX6_copyFrom 48 = .ok (.bipush 16, 2) := by decide +kernel
theorem dX6_copyFrom_50 : decode cX6_copyFrom 50 = .ok (.invokestatic 49, 3) := by decide +kernel
theorem dX6_copyFrom_53 : decode cX6_copyFrom 53 = .ok (.aload_n 1, 1) := by decide +kernel
theorem dX6_copyFrom_54 : decode cX6_copyFrom 54 = .ok (.getfield 25, 3) := by decide +kernel
theorem dX6_copyFrom_57 : decode cX6_copyFrom 57 = .ok (.iconst 0, 1) := by decide +kernel
theorem dX6_copyFrom_58 : decode cX6_copyFrom 58 = .ok (.aload_n 0, 1) := by decide +kernel
theorem dX6_copyFrom_59 : decode cX6_copyFrom 59 = .ok (.getfield 25, 3) := by decide +kernel
theorem dX6_copyFrom_62 : decode cX6_copyFrom 62 = .ok (.iconst 0, 1) := by decide +kernel
theorem dX6_copyFrom_63 : decode cX6_copyFrom 63 = .ok (.bipush 16, 2) := by decide +kernel
theorem dX6_copyFrom_65 : decode cX6_copyFrom 65 = .ok (.invokestatic 49, 3) := by decide +kernel
theorem dX6_copyFrom_68 : decode cX6_copyFrom 68 = .ok (.aload_n 1, 1) := by decide +kernel
theorem dX6_copyFrom_69 : decode cX6_copyFrom 69 = .ok (.getfield 28, 3) := by decide +kernel
theorem dX6_copyFrom_72 : decode cX6_copyFrom 72 = .ok (.iconst 0, 1) := by decide +kernel
theorem dX6_copyFrom_73 : decode cX6_copyFrom 73 = .ok (.aload_n 0, 1) := by decide +kernel
theorem dX6_copyFrom_74 : decode cX6_copyFrom 74 = .ok (.getfield 28, 3) := by decide +kernel
theorem dX6_copyFrom_77 : decode cX6_copyFrom 77 = .ok (.iconst 0, 1) := by decide +kernel
theorem dX6_copyFrom_78 : decode cX6_copyFrom 78 = .ok (.bipush 64, 2) := by decide +kernel
theorem dX6_copyFrom_80 : decode cX6_copyFrom 80 = .ok (.invokestatic 49, 3) := by decide +kernel
theorem dX6_copyFrom_83 : decode cX6_copyFrom 83 = .ok (.aload_n 1, 1) := by decide +kernel
theorem dX6_copyFrom_84 : decode cX6_copyFrom 84 = .ok (.getfield 31, 3) := by decide +kernel
theorem dX6_copyFrom_87 : decode cX6_copyFrom 87 = .ok (.iconst 0, 1) := by decide +kernel
theorem dX6_copyFrom_88 : decode cX6_copyFrom 88 = .ok (.aload_n 0, 1) := by decide +kernel
theorem dX6_copyFrom_89 : decode cX6_copyFrom 89 = .ok (.getfield 31, 3) := by decide +kernel
theorem dX6_copyFrom_92 : decode cX6_copyFrom 92 = .ok (.iconst 0, 1) := by decide +kernel
theorem dX6_copyFrom_93 : decode cX6_copyFrom 93 = .ok (.bipush 64, 2) := by decide +kernel
theorem dX6_copyFrom_95 : decode cX6_copyFrom 95 = .ok (.invokestatic 49, 3) := by decide +kernel
theorem dX6_copyFrom_98 : decode cX6_copyFrom 98 = .ok (.aload_n 1, 1) := by decide +kernel
theorem dX6_copyFrom_99 : decode cX6_copyFrom 99 = .ok (.getfield 34, 3) := by decide +kernel
theorem dX6_copyFrom_102 : decode cX6_copyFrom 102 = .ok (.iconst 0, 1) := by decide +kernel
theorem dX6_copyFrom_103 : decode cX6_copyFrom 103 = .ok (.aload_n 0, 1) := by decide +kernel
theorem dX6_copyFrom_104 : decode cX6_copyFrom 104 = .ok (.getfield 34, 3) := by decide +kernel
theorem dX6_copyFrom_107 : decode cX6_copyFrom 107 = .ok (.iconst 0, 1) := by decide +kernel
theorem dX6_copyFrom_108 : decode cX6_copyFrom 108 = .ok (.bipush 64, 2) := by decide +kernel
theorem dX6_copyFrom_110 : decode cX6_copyFrom 110 = .ok (.invokestatic 49, 3) := by decide +kernel
theorem dX6_copyFrom_113 : decode cX6_copyFrom 113 = .ok (.aload_n 1, 1) := by decide +kernel
theorem dX6_copyFrom_114 : decode cX6_copyFrom 114 = .ok (.getfield 37, 3) := by decide +kernel
theorem dX6_copyFrom_117 : decode cX6_copyFrom 117 = .ok (.iconst 0, 1) := by decide +kernel
theorem dX6_copyFrom_118 : decode cX6_copyFrom 118 = .ok (.aload_n 0, 1) := by decide +kernel
theorem dX6_copyFrom_119 : decode cX6_copyFrom 119 = .ok (.getfield 37, 3) := by decide +kernel
theorem dX6_copyFrom_122 : decode cX6_copyFrom 122 = .ok (.iconst 0, 1) := by decide +kernel
theorem dX6_copyFrom_123 : decode cX6_copyFrom 123 = .ok (.bipush 64, 2) := by decide +kernel
theorem dX6_copyFrom_125 : decode cX6_copyFrom 125 = .ok (.invokestatic 49, 3) := by decide +kernel
theorem dX6_copyFrom_128 : decode cX6_copyFrom 128 = .ok (.return_, 1) := by decide +kernel
theorem dX6_hasLine_0 : decode cX6_hasLine 0 = .ok (.iload_n 0, 1) := by decide +kernel
theorem dX6_hasLine_1 : decode cX6_hasLine 1 = .ok (.ifCond .lt 13, 3) := by decide +kernel
theorem dX6_hasLine_4 : decode cX6_hasLine 4 = .ok (.iload_n 0, 1) := by decide +kernel
theorem dX6_hasLine_5 : decode cX6_hasLine 5 = .ok (.bipush 16, 2) := by decide +kernel
theorem dX6_hasLine_7 : decode cX6_hasLine 7 = .ok (.if_icmp .ge 7, 3) := by decide +kernel
theorem dX6_hasLine_10 : decode cX6_hasLine 10 = .ok (.iconst 1, 1) := by decide +kernel
theorem dX6_hasLine_11 : decode cX6_hasLine 11 = .ok (.goto 4, 3) := by decide +kernel
theorem dX6_hasLine_14 : decode cX6_hasLine 14 = .ok (.iconst 0, 1) := by decide +kernel
theorem dX6_hasLine_15 : decode cX6_hasLine 15 = .ok (.ireturn, 1) := by decide +kernel
theorem dX6_passes_0 : decode cX6_passes 0 = .ok (.aload_n 0, 1) := by decide +kernel
theorem dX6_passes_1 : decode cX6_passes 1 = .ok (.getfield 28, 3) := by decide +kernel
theorem dX6_passes_4 : decode cX6_passes 4 = .ok (.iload_n 1, 1) := by decide +kernel
theorem dX6_passes_5 : decode cX6_passes 5 = .ok (.iaload, 1) := by decide +kernel
theorem dX6_passes_6 : decode cX6_passes 6 = .ok (.istore_n 3, 1) := by decide +kernel
theorem dX6_passes_7 : decode cX6_passes 7 = .ok (.iload_n 3, 1) := by decide +kernel
theorem dX6_passes_8 : decode cX6_passes 8 = .ok (.ifCond .lt 9, 3) := by decide +kernel
theorem dX6_passes_11 : decode cX6_passes 11 = .ok (.iload_n 3, 1) := by decide +kernel
theorem dX6_passes_12 : decode cX6_passes 12 = .ok (.aload_n 2, 1) := by decide +kernel
theorem dX6_passes_13 : decode cX6_passes 13 = .ok (.arraylength, 1) := by decide +kernel
theorem dX6_passes_14 : decode cX6_passes 14 = .ok (.if_icmp .lt 5, 3) := by decide +kernel
theorem dX6_passes_17 : decode cX6_passes 17 = .ok (.iconst 0, 1) := by decide +kernel
theorem dX6_passes_18 : decode cX6_passes 18 = .ok (.ireturn, 1) := by decide +kernel
theorem dX6_passes_19 : decode cX6_passes 19 = .ok (.aload_n 0, 1) := by decide +kernel
theorem dX6_passes_20 : decode cX6_passes 20 = .ok (.getfield 31, 3) := by decide +kernel
theorem dX6_passes_23 : decode cX6_passes 23 = .ok (.iload_n 1, 1) := by decide +kernel
theorem dX6_passes_24 : decode cX6_passes 24 = .ok (.iaload, 1) := by decide +kernel
theorem dX6_passes_25 : decode cX6_passes 25 = .ok (.lookupswitch 63 #[(60, 27), (62, 45)], 27) := by decide +kernel
theorem dX6_passes_52 : decode cX6_passes 52 = .ok (.aload_n 2, 1) := by decide +kernel
theorem dX6_passes_53 : decode cX6_passes 53 = .ok (.iload_n 3, 1) := by decide +kernel
theorem dX6_passes_54 : decode cX6_passes 54 = .ok (.iaload, 1) := by decide +kernel
theorem dX6_passes_55 : decode cX6_passes 55 = .ok (.aload_n 0, 1) := by decide +kernel
theorem dX6_passes_56 : decode cX6_passes 56 = .ok (.getfield 34, 3) := by decide +kernel
theorem dX6_passes_59 : decode cX6_passes 59 = .ok (.iload_n 1, 1) := by decide +kernel
theorem dX6_passes_60 : decode cX6_passes 60 = .ok (.iaload, 1) := by decide +kernel
theorem dX6_passes_61 : decode cX6_passes 61 = .ok (.if_icmp .ge 7, 3) := by decide +kernel
theorem dX6_passes_64 : decode cX6_passes 64 = .ok (.iconst 1, 1) := by decide +kernel
theorem dX6_passes_65 : decode cX6_passes 65 = .ok (.goto 4, 3) := by decide +kernel
theorem dX6_passes_68 : decode cX6_passes 68 = .ok (.iconst 0, 1) := by decide +kernel
theorem dX6_passes_69 : decode cX6_passes 69 = .ok (.ireturn, 1) := by decide +kernel
theorem dX6_passes_70 : decode cX6_passes 70 = .ok (.aload_n 2, 1) := by decide +kernel
theorem dX6_passes_71 : decode cX6_passes 71 = .ok (.iload_n 3, 1) := by decide +kernel
theorem dX6_passes_72 : decode cX6_passes 72 = .ok (.iaload, 1) := by decide +kernel
theorem dX6_passes_73 : decode cX6_passes 73 = .ok (.aload_n 0, 1) := by decide +kernel
theorem dX6_passes_74 : decode cX6_passes 74 = .ok (.getfield 34, 3) := by decide +kernel
theorem dX6_passes_77 : decode cX6_passes 77 = .ok (.iload_n 1, 1) := by decide +kernel
theorem dX6_passes_78 : decode cX6_passes 78 = .ok (.iaload, 1) := by decide +kernel
theorem dX6_passes_79 : decode cX6_passes 79 = .ok (.if_icmp .le 7, 3) := by decide +kernel
theorem dX6_passes_82 : decode cX6_passes 82 = .ok (.iconst 1, 1) := by decide +kernel
theorem dX6_passes_83 : decode cX6_passes 83 = .ok (.goto 4, 3) := by decide +kernel
theorem dX6_passes_86 : decode cX6_passes 86 = .ok (.iconst 0, 1) := by decide +kernel
theorem dX6_passes_87 : decode cX6_passes 87 = .ok (.ireturn, 1) := by decide +kernel
theorem dX6_passes_88 : decode cX6_passes 88 = .ok (.aload_n 2, 1) := by decide +kernel
theorem dX6_passes_89 : decode cX6_passes 89 = .ok (.iload_n 3, 1) := by decide +kernel
theorem dX6_passes_90 : decode cX6_passes 90 = .ok (.iaload, 1) := by decide +kernel
theorem dX6_passes_91 : decode cX6_passes 91 = .ok (.aload_n 0, 1) := by decide +kernel
theorem dX6_passes_92 : decode cX6_passes 92 = .ok (.getfield 34, 3) := by decide +kernel
theorem dX6_passes_95 : decode cX6_passes 95 = .ok (.iload_n 1, 1) := by decide +kernel
theorem dX6_passes_96 : decode cX6_passes 96 = .ok (.iaload, 1) := by decide +kernel
theorem dX6_passes_97 : decode cX6_passes 97 = .ok (.if_icmp .ne 7, 3) := by decide +kernel
theorem dX6_passes_100 : decode cX6_passes 100 = .ok (.iconst 1, 1) := by decide +kernel
theorem dX6_passes_101 : decode cX6_passes 101 = .ok (.goto 4, 3) := by decide +kernel
theorem dX6_passes_104 : decode cX6_passes 104 = .ok (.iconst 0, 1) := by decide +kernel
theorem dX6_passes_105 : decode cX6_passes 105 = .ok (.ireturn, 1) := by decide +kernel
theorem dX7_init_0 : decode cX7_init 0 = .ok (.aload_n 0, 1) := by decide +kernel
theorem dX7_init_1 : decode cX7_init 1 = .ok (.invokespecial 3, 3) := by decide +kernel
theorem dX7_init_4 : decode cX7_init 4 = .ok (.aload_n 0, 1) := by decide +kernel
theorem dX7_init_5 : decode cX7_init 5 = .ok (.bipush 10, 2) := by decide +kernel
theorem dX7_init_7 : decode cX7_init 7 = .ok (.putfield 9, 3) := by decide +kernel
theorem dX7_init_10 : decode cX7_init 10 = .ok (.aload_n 0, 1) := by decide +kernel
theorem dX7_init_11 : decode cX7_init 11 = .ok (.bipush 10, 2) := by decide +kernel
theorem dX7_init_13 : decode cX7_init 13 = .ok (.putfield 15, 3) := by decide +kernel
theorem dX7_init_16 : decode cX7_init 16 = .ok (.aload_n 0, 1) := by decide +kernel
theorem dX7_init_17 : decode cX7_init 17 = .ok (.sipush 301, 3) := by decide +kernel
theorem dX7_init_20 : decode cX7_init 20 = .ok (.newarray .int, 2) := by decide +kernel
theorem dX7_init_22 : decode cX7_init 22 = .ok (.putfield 18, 3) := by decide +kernel
theorem dX7_init_25 : decode cX7_init 25 = .ok (.aload_n 0, 1) := by decide +kernel
theorem dX7_init_26 : decode cX7_init 26 = .ok (.sipush 301, 3) := by decide +kernel
theorem dX7_init_29 : decode cX7_init 29 = .ok (.newarray .int, 2) := by decide +kernel
theorem dX7_init_31 : decode cX7_init 31 = .ok (.putfield 22, 3) := by decide +kernel
theorem dX7_init_34 : decode cX7_init 34 = .ok (.aload_n 0, 1) := by decide +kernel
theorem dX7_init_35 : decode cX7_init 35 = .ok (.sipush 301, 3) := by decide +kernel
theorem dX7_init_38 : decode cX7_init 38 = .ok (.newarray .int, 2) := by decide +kernel
theorem dX7_init_40 : decode cX7_init 40 = .ok (.putfield 25, 3) := by decide +kernel
theorem dX7_init_43 : decode cX7_init 43 = .ok (.aload_n 0, 1) := by decide +kernel
theorem dX7_init_44 : decode cX7_init 44 = .ok (.iconst 0, 1) := by decide +kernel
theorem dX7_init_45 : decode cX7_init 45 = .ok (.putfield 28, 3) := by decide +kernel
theorem dX7_init_48 : decode cX7_init 48 = .ok (.aload_n 0, 1) := by decide +kernel
theorem dX7_init_49 : decode cX7_init 49 = .ok (.sipush 1312, 3) := by decide +kernel
theorem dX7_init_52 : decode cX7_init 52 = .ok (.newarray .int, 2) := by decide +kernel
theorem dX7_init_54 : decode cX7_init 54 = .ok (.putfield 31, 3) := by decide +kernel
theorem dX7_init_57 : decode cX7_init 57 = .ok (.return_, 1) := by decide +kernel
theorem dX7_scoreUnits_0 : decode cX7_scoreUnits 0 = .ok (.aload_n 0, 1) := by decide +kernel
theorem dX7_scoreUnits_1 : decode cX7_scoreUnits 1 = .ok (.iload_n 2, 1) := by decide +kernel
theorem dX7_scoreUnits_2 : decode cX7_scoreUnits 2 = .ok (.putfield 9, 3) := by decide +kernel
theorem dX7_scoreUnits_5 : decode cX7_scoreUnits 5 = .ok (.aload_n 0, 1) := by decide +kernel
theorem dX7_scoreUnits_6 : decode cX7_scoreUnits 6 = .ok (.iload_n 3, 1) := by decide +kernel
theorem dX7_scoreUnits_7 : decode cX7_scoreUnits 7 = .ok (.iload_n 2, 1) := by decide +kernel
theorem dX7_scoreUnits_8 : decode cX7_scoreUnits 8 = .ok (.sipush 300, 3) := by decide +kernel
theorem dX7_scoreUnits_11 : decode cX7_scoreUnits 11 = .ok (.iadd, 1) := by decide +kernel
theorem dX7_scoreUnits_12 : decode cX7_scoreUnits 12 = .ok (.invokestatic 34, 3) := by decide +kernel
theorem dX7_scoreUnits_15 : decode cX7_scoreUnits 15 = .ok (.putfield 15, 3) := by decide +kernel
theorem dX7_scoreUnits_18 : decode cX7_scoreUnits 18 = .ok (.aload_n 0, 1) := by decide +kernel
theorem dX7_scoreUnits_19 : decode cX7_scoreUnits 19 = .ok (.getfield 9, 3) := by decide +kernel
theorem dX7_scoreUnits_22 : decode cX7_scoreUnits 22 = .ok (.istore 4, 2) := by decide +kernel
theorem dX7_scoreUnits_24 : decode cX7_scoreUnits 24 = .ok (.iload 4, 2) := by decide +kernel
theorem dX7_scoreUnits_26 : decode cX7_scoreUnits 26 = .ok (.aload_n 0, 1) := by decide +kernel
theorem dX7_scoreUnits_27 : decode cX7_scoreUnits 27 = .ok (.getfield 15, 3) := by decide +kernel
theorem dX7_scoreUnits_30 : decode cX7_scoreUnits 30 = .ok (.if_icmp .gt 27, 3) := by decide +kernel
theorem dX7_scoreUnits_33 : decode cX7_scoreUnits 33 = .ok (.aload_n 0, 1) := by decide +kernel
theorem dX7_scoreUnits_34 : decode cX7_scoreUnits 34 = .ok (.getfield 18, 3) := by decide +kernel
theorem dX7_scoreUnits_37 : decode cX7_scoreUnits 37 = .ok (.iload 4, 2) := by decide +kernel
theorem dX7_scoreUnits_39 : decode cX7_scoreUnits 39 = .ok (.aload_n 0, 1) := by decide +kernel
theorem dX7_scoreUnits_40 : decode cX7_scoreUnits 40 = .ok (.getfield 9, 3) := by decide +kernel
theorem dX7_scoreUnits_43 : decode cX7_scoreUnits 43 = .ok (.isub, 1) := by decide +kernel
theorem dX7_scoreUnits_44 : decode cX7_scoreUnits 44 = .ok (.aload_n 1, 1) := by decide +kernel
theorem dX7_scoreUnits_45 : decode cX7_scoreUnits 45 = .ok (.iload 4, 2) := by decide +kernel
theorem dX7_scoreUnits_47 : decode cX7_scoreUnits 47 = .ok (.invokevirtual 40, 3) := by decide +kernel
theorem dX7_scoreUnits_50 : decode cX7_scoreUnits 50 = .ok (.iastore, 1) := by decide +kernel
theorem dX7_scoreUnits_51 : decode cX7_scoreUnits 51 = .ok (.iinc 4 1, 3) := by decide +kernel
theorem dX7_scoreUnits_54 : decode cX7_scoreUnits 54 = .ok (.goto (-30), 3) := by decide +kernel
theorem dX7_scoreUnits_57 : decode cX7_scoreUnits 57 = .ok (.return_, 1) := by decide +kernel
theorem dX7_bestUnit_0 : decode cX7_bestUnit 0 = .ok (.aload_n 0, 1) := by decide +kernel
theorem dX7_bestUnit_1 : decode cX7_bestUnit 1 = .ok (.getfield 9, 3) := by decide +kernel
theorem dX7_bestUnit_4 : decode cX7_bestUnit 4 = .ok (.istore_n 1, 1) := by decide +kernel
theorem dX7_bestUnit_5 : decode cX7_bestUnit 5 = .ok (.aload_n 0, 1) := by decide +kernel
theorem dX7_bestUnit_6 : decode cX7_bestUnit 6 = .ok (.getfield 9, 3) := by decide +kernel
theorem dX7_bestUnit_9 : decode cX7_bestUnit 9 = .ok (.iconst 1, 1) := by decide +kernel
theorem dX7_bestUnit_10 : decode cX7_bestUnit 10 = .ok (.iadd, 1) := by decide +kernel
theorem dX7_bestUnit_11 : decode cX7_bestUnit 11 = .ok (.istore_n 2, 1) := by decide +kernel
theorem dX7_bestUnit_12 : decode cX7_bestUnit 12 = .ok (.iload_n 2, 1) := by decide +kernel
theorem dX7_bestUnit_13 : decode cX7_bestUnit 13 = .ok (.aload_n 0, 1) := by decide +kernel
theorem dX7_bestUnit_14 : decode cX7_bestUnit 14 = .ok (.getfield 15, 3) := by decide +kernel
theorem dX7_bestUnit_17 : decode cX7_bestUnit 17 = .ok (.if_icmp .gt 20, 3) := by decide +kernel
theorem dX7_bestUnit_20 : decode cX7_bestUnit 20 = .ok (.aload_n 0, 1) := by decide +kernel
theorem dX7_bestUnit_21 : decode cX7_bestUnit 21 = .ok (.iload_n 2, 1) := by decide +kernel
theorem dX7_bestUnit_22 : decode cX7_bestUnit 22 = .ok (.iload_n 1, 1) := by decide +kernel
theorem dX7_bestUnit_23 : decode cX7_bestUnit 23 = .ok (.invokevirtual 46, 3) := by decide +kernel
theorem dX7_bestUnit_26 : decode cX7_bestUnit 26 = .ok (.ifCond .lt 5, 3) := by decide +kernel
theorem dX7_bestUnit_29 : decode cX7_bestUnit 29 = .ok (.iload_n 2, 1) := by decide +kernel
theorem dX7_bestUnit_30 : decode cX7_bestUnit 30 = .ok (.istore_n 1, 1) := by decide +kernel
theorem dX7_bestUnit_31 : decode cX7_bestUnit 31 = .ok (.iinc 2 1, 3) := by decide +kernel
theorem dX7_bestUnit_34 : decode cX7_bestUnit 34 = .ok (.goto (-22), 3) := by decide +kernel
theorem dX7_bestUnit_37 : decode cX7_bestUnit 37 = .ok (.iload_n 1, 1) := by decide +kernel
theorem dX7_bestUnit_38 : decode cX7_bestUnit 38 = .ok (.ireturn, 1) := by decide +kernel
theorem dX7_peakAt_0 : decode cX7_peakAt 0 = .ok (.aload_n 0, 1) := by decide +kernel
theorem dX7_peakAt_1 : decode cX7_peakAt 1 = .ok (.invokevirtual 49, 3) := by decide +kernel
theorem dX7_peakAt_4 : decode cX7_peakAt 4 = .ok (.iconst 0, 1) := by decide +kernel
theorem dX7_peakAt_5 : decode cX7_peakAt 5 = .ok (.istore_n 2, 1) := by decide +kernel
theorem dX7_peakAt_6 : decode cX7_peakAt 6 = .ok (.iload_n 2, 1) := by decide +kernel
theorem dX7_peakAt_7 : decode cX7_peakAt 7 = .ok (.aload_n 0, 1) := by decide +kernel
theorem dX7_peakAt_8 : decode cX7_peakAt 8 = .ok (.getfield 28, 3) := by decide +kernel
theorem dX7_peakAt_11 : decode cX7_peakAt 11 = .ok (.if_icmp .ge 39, 3) := by decide +kernel
theorem dX7_peakAt_14 : decode cX7_peakAt 14 = .ok (.iload_n 2, 1) := by decide +kernel
theorem dX7_peakAt_15 : decode cX7_peakAt 15 = .ok (.aload_n 0, 1) := by decide +kernel
theorem dX7_peakAt_16 : decode cX7_peakAt 16 = .ok (.getfield 25, 3) := by decide +kernel
theorem dX7_peakAt_19 : decode cX7_peakAt 19 = .ok (.arraylength, 1) := by decide +kernel
theorem dX7_peakAt_20 : decode cX7_peakAt 20 = .ok (.if_icmp .ge 30, 3) := by decide +kernel
theorem dX7_peakAt_23 : decode cX7_peakAt 23 = .ok (.aload_n 0, 1) := by decide +kernel
theorem dX7_peakAt_24 : decode cX7_peakAt 24 = .ok (.aload_n 0, 1) := by decide +kernel
theorem dX7_peakAt_25 : decode cX7_peakAt 25 = .ok (.getfield 25, 3) := by decide +kernel
theorem dX7_peakAt_28 : decode cX7_peakAt 28 = .ok (.iload_n 2, 1) := by decide +kernel
theorem dX7_peakAt_29 : decode cX7_peakAt 29 = .ok (.iaload, 1) := by decide +kernel
theorem dX7_peakAt_30 : decode cX7_peakAt 30 = .ok (.invokevirtual 52, 3) := by decide +kernel
theorem dX7_peakAt_33 : decode cX7_peakAt 33 = .ok (.iload_n 1, 1) := by decide +kernel
theorem dX7_peakAt_34 : decode cX7_peakAt 34 = .ok (.if_icmp .ne 10, 3) := by decide +kernel
theorem dX7_peakAt_37 : decode cX7_peakAt 37 = .ok (.aload_n 0, 1) := by decide +kernel
theorem dX7_peakAt_38 : decode cX7_peakAt 38 = .ok (.getfield 25, 3) := by decide +kernel
theorem dX7_peakAt_41 : decode cX7_peakAt 41 = .ok (.iload_n 2, 1) := by decide +kernel
theorem dX7_peakAt_42 : decode cX7_peakAt 42 = .ok (.iaload, 1) := by decide +kernel
theorem dX7_peakAt_43 : decode cX7_peakAt 43 = .ok (.ireturn, 1) := by decide +kernel
theorem dX7_peakAt_44 : decode cX7_peakAt 44 = .ok (.iinc 2 1, 3) := by decide +kernel
theorem dX7_peakAt_47 : decode cX7_peakAt 47 = .ok (.goto (-41), 3) := by decide +kernel
theorem dX7_peakAt_50 : decode cX7_peakAt 50 = .ok (.iconst (-1), 1) := by decide +kernel
theorem dX7_peakAt_51 : decode cX7_peakAt 51 = .ok (.ireturn, 1) := by decide +kernel
theorem dX7_placeOf_0 : decode cX7_placeOf 0 = .ok (.aload_n 0, 1) := by decide +kernel
theorem dX7_placeOf_1 : decode cX7_placeOf 1 = .ok (.iload_n 1, 1) := by decide +kernel
theorem dX7_placeOf_2 : decode cX7_placeOf 2 = .ok (.invokevirtual 55, 3) := by decide +kernel
theorem dX7_placeOf_5 : decode cX7_placeOf 5 = .ok (.ifCond .ne 7, 3) := by decide +kernel
theorem dX7_placeOf_8 : decode cX7_placeOf 8 = .ok (.sipush 9999, 3) := by decide +kernel
theorem dX7_placeOf_11 : decode cX7_placeOf 11 = .ok (.ireturn, 1) := by decide +kernel
theorem dX7_placeOf_12 : decode cX7_placeOf 12 = .ok (.aload_n 0, 1) := by decide +kernel
theorem dX7_placeOf_13 : decode cX7_placeOf 13 = .ok (.invokevirtual 49, 3) := by decide +kernel
theorem dX7_placeOf_16 : decode cX7_placeOf 16 = .ok (.aload_n 0, 1) := by decide +kernel
theorem dX7_placeOf_17 : decode cX7_placeOf 17 = .ok (.iload_n 1, 1) := by decide +kernel
theorem dX7_placeOf_18 : decode cX7_placeOf 18 = .ok (.invokevirtual 52, 3) := by decide +kernel
theorem dX7_placeOf_21 : decode cX7_placeOf 21 = .ok (.ireturn, 1) := by decide +kernel
theorem dX7_worthOf_0 : decode cX7_worthOf 0 = .ok (.iload_n 2, 1) := by decide +kernel
theorem dX7_worthOf_1 : decode cX7_worthOf 1 = .ok (.ifCond .lt 9, 3) := by decide +kernel
theorem dX7_worthOf_4 : decode cX7_worthOf 4 = .ok (.iload_n 2, 1) := by decide +kernel
theorem dX7_worthOf_5 : decode cX7_worthOf 5 = .ok (.bipush 32, 2) := by decide +kernel
theorem dX7_worthOf_7 : decode cX7_worthOf 7 = .ok (.if_icmp .lt 5, 3) := by decide +kernel
theorem dX7_worthOf_10 : decode cX7_worthOf 10 = .ok (.iconst 0, 1) := by decide +kernel
theorem dX7_worthOf_11 : decode cX7_worthOf 11 = .ok (.ireturn, 1) := by decide +kernel
theorem dX7_worthOf_12 : decode cX7_worthOf 12 = .ok (.aload_n 1, 1) := by decide +kernel
theorem dX7_worthOf_13 : decode cX7_worthOf 13 = .ok (.getfield 59, 3) := by decide +kernel
theorem dX7_worthOf_16 : decode cX7_worthOf 16 = .ok (.iload_n 2, 1) := by decide +kernel
theorem dX7_worthOf_17 : decode cX7_worthOf 17 = .ok (.iaload, 1) := by decide +kernel
theorem dX7_worthOf_18 : decode cX7_worthOf 18 = .ok (.istore_n 3, 1) := by decide +kernel
theorem dX7_worthOf_19 : decode cX7_worthOf 19 = .ok (.aload_n 1, 1) := by decide +kernel
theorem dX7_worthOf_20 : decode cX7_worthOf 20 = .ok (.getfield 62, 3) := by decide +kernel
theorem dX7_worthOf_23 : decode cX7_worthOf 23 = .ok (.iload_n 2, 1) := by decide +kernel
theorem dX7_worthOf_24 : decode cX7_worthOf 24 = .ok (.iaload, 1) := by decide +kernel
theorem dX7_worthOf_25 : decode cX7_worthOf 25 = .ok (.istore 4, 2) := by decide +kernel
theorem dX7_worthOf_27 : decode cX7_worthOf 27 = .ok (.iload_n 3, 1) := by decide +kernel
theorem dX7_worthOf_28 : decode cX7_worthOf 28 = .ok (.iload 4, 2) := by decide +kernel
theorem dX7_worthOf_30 : decode cX7_worthOf 30 = .ok (.if_icmp .ne 5, 3) := by decide +kernel
theorem dX7_worthOf_33 : decode cX7_worthOf 33 = .ok (.iconst 0, 1) := by decide +kernel
theorem dX7_worthOf_34 : decode cX7_worthOf 34 = .ok (.ireturn, 1) := by decide +kernel
theorem dX7_worthOf_35 : decode cX7_worthOf 35 = .ok (.aload_n 0, 1) := by decide +kernel
theorem dX7_worthOf_36 : decode cX7_worthOf 36 = .ok (.aload_n 1, 1) := by decide +kernel
theorem dX7_worthOf_37 : decode cX7_worthOf 37 = .ok (.iload_n 2, 1) := by decide +kernel
theorem dX7_worthOf_38 : decode cX7_worthOf 38 = .ok (.invokevirtual 65, 3) := by decide +kernel
theorem dX7_worthOf_41 : decode cX7_worthOf 41 = .ok (.aload_n 0, 1) := by decide +kernel
theorem dX7_worthOf_42 : decode cX7_worthOf 42 = .ok (.aload_n 1, 1) := by decide +kernel
theorem dX7_worthOf_43 : decode cX7_worthOf 43 = .ok (.iload_n 2, 1) := by decide +kernel
theorem dX7_worthOf_44 : decode cX7_worthOf 44 = .ok (.iload_n 3, 1) := by decide +kernel
theorem dX7_worthOf_45 : decode cX7_worthOf 45 = .ok (.invokevirtual 69, 3) := by decide +kernel
theorem dX7_worthOf_48 : decode cX7_worthOf 48 = .ok (.aload_n 0, 1) := by decide +kernel
theorem dX7_worthOf_49 : decode cX7_worthOf 49 = .ok (.aload_n 1, 1) := by decide +kernel
theorem dX7_worthOf_50 : decode cX7_worthOf 50 = .ok (.iload_n 2, 1) := by decide +kernel
theorem dX7_worthOf_51 : decode cX7_worthOf 51 = .ok (.iload 4, 2) := by decide +kernel
theorem dX7_worthOf_53 : decode cX7_worthOf 53 = .ok (.invokevirtual 69, 3) := by decide +kernel
theorem dX7_worthOf_56 : decode cX7_worthOf 56 = .ok (.isub, 1) := by decide +kernel
theorem dX7_worthOf_57 : decode cX7_worthOf 57 = .ok (.invokestatic 73, 3) := by decide +kernel
theorem dX7_worthOf_60 : decode cX7_worthOf 60 = .ok (.ireturn, 1) := by decide +kernel
theorem dX7_sumOfTwo_0 : decode cX7_sumOfTwo 0 = .ok (.lconst 0, 1) := by decide +kernel
theorem dX7_sumOfTwo_1 : decode cX7_sumOfTwo 1 = .ok (.lstore 4, 2) := by decide +kernel
theorem dX7_sumOfTwo_3 : decode cX7_sumOfTwo 3 = .ok (.iconst 0, 1) := by decide +kernel
theorem dX7_sumOfTwo_4 : decode cX7_sumOfTwo 4 = .ok (.istore 6, 2) := by decide +kernel
theorem dX7_sumOfTwo_6 : decode cX7_sumOfTwo 6 = .ok (.iload 6, 2) := by decide +kernel
theorem dX7_sumOfTwo_8 : decode cX7_sumOfTwo 8 = .ok (.aload_n 1, 1) := by decide +kernel
theorem dX7_sumOfTwo_9 : decode cX7_sumOfTwo 9 = .ok (.getfield 76, 3) := by decide +kernel
theorem dX7_sumOfTwo_12 : decode cX7_sumOfTwo 12 = .ok (.if_icmp .ge 36, 3) := by decide +kernel
theorem dX7_sumOfTwo_15 : decode cX7_sumOfTwo 15 = .ok (.lload 4, 2) := by decide +kernel
theorem dX7_sumOfTwo_17 : decode cX7_sumOfTwo 17 = .ok (.aload_n 1, 1) := by decide +kernel
theorem dX7_sumOfTwo_18 : decode cX7_sumOfTwo 18 = .ok (.iload 6, 2) := by decide +kernel
theorem dX7_sumOfTwo_20 : decode cX7_sumOfTwo 20 = .ok (.iload_n 2, 1) := by decide +kernel
theorem dX7_sumOfTwo_21 : decode cX7_sumOfTwo 21 = .ok (.invokevirtual 79, 3) := by decide +kernel
theorem dX7_sumOfTwo_24 : decode cX7_sumOfTwo 24 = .ok (.iload_n 3, 1) := by decide +kernel
theorem dX7_sumOfTwo_25 : decode cX7_sumOfTwo 25 = .ok (.imul, 1) := by decide +kernel
theorem dX7_sumOfTwo_26 : decode cX7_sumOfTwo 26 = .ok (.aload_n 1, 1) := by decide +kernel
theorem dX7_sumOfTwo_27 : decode cX7_sumOfTwo 27 = .ok (.iload 6, 2) := by decide +kernel
theorem dX7_sumOfTwo_29 : decode cX7_sumOfTwo 29 = .ok (.iload_n 3, 1) := by decide +kernel
theorem dX7_sumOfTwo_30 : decode cX7_sumOfTwo 30 = .ok (.invokevirtual 79, 3) := by decide +kernel
theorem dX7_sumOfTwo_33 : decode cX7_sumOfTwo 33 = .ok (.iload_n 2, 1) := by decide +kernel
theorem dX7_sumOfTwo_34 : decode cX7_sumOfTwo 34 = .ok (.imul, 1) := by decide +kernel
theorem dX7_sumOfTwo_35 : decode cX7_sumOfTwo 35 = .ok (.invokestatic 34, 3) := by decide +kernel
theorem dX7_sumOfTwo_38 : decode cX7_sumOfTwo 38 = .ok (.i2l, 1) := by decide +kernel
theorem dX7_sumOfTwo_39 : decode cX7_sumOfTwo 39 = .ok (.ladd, 1) := by decide +kernel
theorem dX7_sumOfTwo_40 : decode cX7_sumOfTwo 40 = .ok (.lstore 4, 2) := by decide +kernel
theorem dX7_sumOfTwo_42 : decode cX7_sumOfTwo 42 = .ok (.iinc 6 1, 3) := by decide +kernel
theorem dX7_sumOfTwo_45 : decode cX7_sumOfTwo 45 = .ok (.goto (-39), 3) := by decide +kernel
theorem dX7_sumOfTwo_48 : decode cX7_sumOfTwo 48 = .ok (.iload_n 2, 1) := by decide +kernel
theorem dX7_sumOfTwo_49 : decode cX7_sumOfTwo 49 = .ok (.i2l, 1) := by decide +kernel
theorem dX7_sumOfTwo_50 : decode cX7_sumOfTwo 50 = .ok (.iload_n 3, 1) := by decide +kernel
theorem dX7_sumOfTwo_51 : decode cX7_sumOfTwo 51 = .ok (.i2l, 1) := by decide +kernel
theorem dX7_sumOfTwo_52 : decode cX7_sumOfTwo 52 = .ok (.lmul, 1) := by decide +kernel
theorem dX7_sumOfTwo_53 : decode cX7_sumOfTwo 53 = .ok (.aload_n 1, 1) := by decide +kernel
theorem dX7_sumOfTwo_54 : decode cX7_sumOfTwo 54 = .ok (.getfield 76, 3) := by decide +kernel
theorem dX7_sumOfTwo_57 : decode cX7_sumOfTwo 57 = .ok (.i2l, 1) := by decide +kernel
theorem dX7_sumOfTwo_58 : decode cX7_sumOfTwo 58 = .ok (.lmul, 1) := by decide +kernel
theorem dX7_sumOfTwo_59 : decode cX7_sumOfTwo 59 = .ok (.ldc2_w 82, 3) := by decide +kernel
theorem dX7_sumOfTwo_62 : decode cX7_sumOfTwo 62 = .ok (.lload 4, 2) := by decide +kernel
theorem dX7_sumOfTwo_64 : decode cX7_sumOfTwo 64 = .ok (.lmul, 1) := by decide +kernel
theorem dX7_sumOfTwo_65 : decode cX7_sumOfTwo 65 = .ok (.lsub, 1) := by decide +kernel
theorem dX7_sumOfTwo_66 : decode cX7_sumOfTwo 66 = .ok (.lreturn, 1) := by decide +kernel
theorem dX7_bestPair_0 : decode cX7_bestPair 0 = .ok (.aload_n 0, 1) := by decide +kernel
theorem dX7_bestPair_1 : decode cX7_bestPair 1 = .ok (.aload_n 1, 1) := by decide +kernel
theorem dX7_bestPair_2 : decode cX7_bestPair 2 = .ok (.iload_n 2, 1) := by decide +kernel
theorem dX7_bestPair_3 : decode cX7_bestPair 3 = .ok (.iload_n 3, 1) := by decide +kernel
theorem dX7_bestPair_4 : decode cX7_bestPair 4 = .ok (.invokevirtual 84, 3) := by decide +kernel
theorem dX7_bestPair_7 : decode cX7_bestPair 7 = .ok (.iload_n 2, 1) := by decide +kernel
theorem dX7_bestPair_8 : decode cX7_bestPair 8 = .ok (.istore 4, 2) := by decide +kernel
theorem dX7_bestPair_10 : decode cX7_bestPair 10 = .ok (.iload_n 2, 1) := by decide +kernel
theorem dX7_bestPair_11 : decode cX7_bestPair 11 = .ok (.iconst 1, 1) := by decide +kernel
theorem dX7_bestPair_12 : decode cX7_bestPair 12 = .ok (.iadd, 1) := by decide +kernel
theorem dX7_bestPair_13 : decode cX7_bestPair 13 = .ok (.istore 5, 2) := by decide +kernel
theorem dX7_bestPair_15 : decode cX7_bestPair 15 = .ok (.aload_n 0, 1) := by decide +kernel
theorem dX7_bestPair_16 : decode cX7_bestPair 16 = .ok (.aload_n 1, 1) := by decide +kernel
theorem dX7_bestPair_17 : decode cX7_bestPair 17 = .ok (.getfield 76, 3) := by decide +kernel
theorem dX7_bestPair_20 : decode cX7_bestPair 20 = .ok (.iload_n 2, 1) := by decide +kernel
theorem dX7_bestPair_21 : decode cX7_bestPair 21 = .ok (.iload 4, 2) := by decide +kernel
theorem dX7_bestPair_23 : decode cX7_bestPair 23 = .ok (.iload 5, 2) := by decide +kernel
theorem dX7_bestPair_25 : decode cX7_bestPair 25 = .ok (.invokevirtual 88, 3) := by decide +kernel
theorem dX7_bestPair_28 : decode cX7_bestPair 28 = .ok (.lstore 6, 2) := by decide +kernel
theorem dX7_bestPair_30 : decode cX7_bestPair 30 = .ok (.iload_n 2, 1) := by decide +kernel
theorem dX7_bestPair_31 : decode cX7_bestPair 31 = .ok (.iconst 2, 1) := by decide +kernel
theorem dX7_bestPair_32 : decode cX7_bestPair 32 = .ok (.iadd, 1) := by decide +kernel
theorem dX7_bestPair_33 : decode cX7_bestPair 33 = .ok (.istore 8, 2) := by decide +kernel
theorem dX7_bestPair_35 : decode cX7_bestPair 35 = .ok (.iload 8, 2) := by decide +kernel
theorem dX7_bestPair_37 : decode cX7_bestPair 37 = .ok (.iload_n 3, 1) := by decide +kernel
theorem dX7_bestPair_38 : decode cX7_bestPair 38 = .ok (.if_icmp .gt 76, 3) := by decide +kernel
theorem dX7_bestPair_41 : decode cX7_bestPair 41 = .ok (.iload_n 2, 1) := by decide +kernel
theorem dX7_bestPair_42 : decode cX7_bestPair 42 = .ok (.istore 9, 2) := by decide +kernel
theorem dX7_bestPair_44 : decode cX7_bestPair 44 = .ok (.iload 9, 2) := by decide +kernel
theorem dX7_bestPair_46 : decode cX7_bestPair 46 = .ok (.iload 8, 2) := by decide +kernel
theorem dX7_bestPair_48 : decode cX7_bestPair 48 = .ok (.if_icmp .ge 60, 3) := by decide +kernel
theorem dX7_bestPair_51 : decode cX7_bestPair 51 = .ok (.aload_n 0, 1) := by decide +kernel
