theorem dX10_verdict_74 : decode cX10_verdict 74 = .ok (.aload 4, 2) := by decide +kernel
theorem dX10_verdict_76 : decode cX10_verdict 76 = .ok (.getfield 130, 3) := by decide +kernel
theorem dX10_verdict_79 : decode cX10_verdict 79 = .ok (.if_icmp .ge 31, 3) := by decide +kernel
theorem dX10_verdict_82 : decode cX10_verdict 82 = .ok (.aload 4, 2) := by decide +kernel
theorem dX10_verdict_84 : decode cX10_verdict 84 = .ok (.iload 5, 2) := by decide +kernel
theorem dX10_verdict_86 : decode cX10_verdict 86 = .ok (.aload_n 0, 1) := by decide +kernel
theorem dX10_verdict_87 : decode cX10_verdict 87 = .ok (.getfield 54, 3) := by decide +kernel
theorem dX10_verdict_90 : decode cX10_verdict 90 = .ok (.invokevirtual 216, 3) := by decide +kernel
theorem dX10_verdict_93 : decode cX10_verdict 93 = .ok (.ifCond .eq 11, 3) := by decide +kernel
theorem dX10_verdict_96 : decode cX10_verdict 96 = .ok (.aload 4, 2) := by decide +kernel
theorem dX10_verdict_98 : decode cX10_verdict 98 = .ok (.iload 5, 2) := by decide +kernel
theorem dX10_verdict_100 : decode cX10_verdict 100 = .ok (.invokevirtual 220, 3) := by decide +kernel
theorem dX10_verdict_103 : decode cX10_verdict 103 = .ok (.ireturn, 1) := by decide +kernel
theorem dX10_verdict_104 : decode cX10_verdict 104 = .ok (.iinc 5 1, 3) := by decide +kernel
theorem dX10_verdict_107 : decode cX10_verdict 107 = .ok (.goto (-35), 3) := by decide +kernel
theorem dX10_verdict_110 : decode cX10_verdict 110 = .ok (.iconst 2, 1) := by decide +kernel
theorem dX10_verdict_111 : decode cX10_verdict 111 = .ok (.ireturn, 1) := by decide +kernel
theorem dX10_set_0 : decode cX10_set 0 = .ok (.iload_n 1, 1) := by decide +kernel
theorem dX10_set_1 : decode cX10_set 1 = .ok (.iconst 1, 1) := by decide +kernel
theorem dX10_set_2 : decode cX10_set 2 = .ok (.if_icmp .lt 16, 3) := by decide +kernel
theorem dX10_set_5 : decode cX10_set 5 = .ok (.iload_n 1, 1) := by decide +kernel
theorem dX10_set_6 : decode cX10_set 6 = .ok (.bipush 8, 2) := by decide +kernel
theorem dX10_set_8 : decode cX10_set 8 = .ok (.if_icmp .gt 10, 3) := by decide +kernel
theorem dX10_set_11 : decode cX10_set 11 = .ok (.iload_n 2, 1) := by decide +kernel
theorem dX10_set_12 : decode cX10_set 12 = .ok (.invokestatic 157, 3) := by decide +kernel
theorem dX10_set_15 : decode cX10_set 15 = .ok (.ifCond .ne 5, 3) := by decide +kernel
theorem dX10_set_18 : decode cX10_set 18 = .ok (.iconst (-1), 1) := by decide +kernel
theorem dX10_set_19 : decode cX10_set 19 = .ok (.ireturn, 1) := by decide +kernel
theorem dX10_set_20 : decode cX10_set 20 = .ok (.aload_n 0, 1) := by decide +kernel
theorem dX10_set_21 : decode cX10_set 21 = .ok (.getfield 36, 3) := by decide +kernel
theorem dX10_set_24 : decode cX10_set 24 = .ok (.aload_n 0, 1) := by decide +kernel
theorem dX10_set_25 : decode cX10_set 25 = .ok (.getfield 10, 3) := by decide +kernel
theorem dX10_set_28 : decode cX10_set 28 = .ok (.iconst 5, 1) := by decide +kernel
theorem dX10_set_29 : decode cX10_set 29 = .ok (.iload_n 1, 1) := by decide +kernel
theorem dX10_set_30 : decode cX10_set 30 = .ok (.invokevirtual 174, 3) := by decide +kernel
theorem dX10_set_33 : decode cX10_set 33 = .ok (.pop, 1) := by decide +kernel
theorem dX10_set_34 : decode cX10_set 34 = .ok (.iload_n 3, 1) := by decide +kernel
theorem dX10_set_35 : decode cX10_set 35 = .ok (.tableswitch 64 0 3 #[29, 37, 46, 55], 29) := by decide +kernel
theorem dX10_set_64 : decode cX10_set 64 = .ok (.aload_n 0, 1) := by decide +kernel
theorem dX10_set_65 : decode cX10_set 65 = .ok (.getfield 36, 3) := by decide +kernel
theorem dX10_set_68 : decode cX10_set 68 = .ok (.getfield 223, 3) := by decide +kernel
theorem dX10_set_71 : decode cX10_set 71 = .ok (.ireturn, 1) := by decide +kernel
theorem dX10_set_72 : decode cX10_set 72 = .ok (.aload_n 0, 1) := by decide +kernel
theorem dX10_set_73 : decode cX10_set 73 = .ok (.getfield 36, 3) := by decide +kernel
theorem dX10_set_76 : decode cX10_set 76 = .ok (.iload_n 2, 1) := by decide +kernel
theorem dX10_set_77 : decode cX10_set 77 = .ok (.invokevirtual 226, 3) := by decide +kernel
theorem dX10_set_80 : decode cX10_set 80 = .ok (.ireturn, 1) := by decide +kernel
theorem dX10_set_81 : decode cX10_set 81 = .ok (.aload_n 0, 1) := by decide +kernel
theorem dX10_set_82 : decode cX10_set 82 = .ok (.getfield 36, 3) := by decide +kernel
theorem dX10_set_85 : decode cX10_set 85 = .ok (.iload_n 2, 1) := by decide +kernel
theorem dX10_set_86 : decode cX10_set 86 = .ok (.invokevirtual 229, 3) := by decide +kernel
theorem dX10_set_89 : decode cX10_set 89 = .ok (.ireturn, 1) := by decide +kernel
theorem dX10_set_90 : decode cX10_set 90 = .ok (.aload_n 0, 1) := by decide +kernel
theorem dX10_set_91 : decode cX10_set 91 = .ok (.getfield 36, 3) := by decide +kernel
theorem dX10_set_94 : decode cX10_set 94 = .ok (.iload_n 2, 1) := by decide +kernel
theorem dX10_set_95 : decode cX10_set 95 = .ok (.invokevirtual 232, 3) := by decide +kernel
theorem dX10_set_98 : decode cX10_set 98 = .ok (.ireturn, 1) := by decide +kernel
theorem dX10_set_99 : decode cX10_set 99 = .ok (.iconst (-1), 1) := by decide +kernel
theorem dX10_set_100 : decode cX10_set 100 = .ok (.ireturn, 1) := by decide +kernel
theorem dX10_rate_0 : decode cX10_rate 0 = .ok (.iload_n 1, 1) := by decide +kernel
theorem dX10_rate_1 : decode cX10_rate 1 = .ok (.invokestatic 235, 3) := by decide +kernel
theorem dX10_rate_4 : decode cX10_rate 4 = .ok (.ifCond .eq 40, 3) := by decide +kernel
theorem dX10_rate_7 : decode cX10_rate 7 = .ok (.iload_n 2, 1) := by decide +kernel
theorem dX10_rate_8 : decode cX10_rate 8 = .ok (.invokestatic 235, 3) := by decide +kernel
theorem dX10_rate_11 : decode cX10_rate 11 = .ok (.ifCond .eq 33, 3) := by decide +kernel
theorem dX10_rate_14 : decode cX10_rate 14 = .ok (.iload_n 1, 1) := by decide +kernel
theorem dX10_rate_15 : decode cX10_rate 15 = .ok (.iload_n 2, 1) := by decide +kernel
theorem dX10_rate_16 : decode cX10_rate 16 = .ok (.if_icmp .eq 28, 3) := by decide +kernel
theorem dX10_rate_19 : decode cX10_rate 19 = .ok (.iload 5, 2) := by decide +kernel
theorem dX10_rate_21 : decode cX10_rate 21 = .ok (.ifCond .lt 23, 3) := by decide +kernel
theorem dX10_rate_24 : decode cX10_rate 24 = .ok (.iload 5, 2) := by decide +kernel
theorem dX10_rate_26 : decode cX10_rate 26 = .ok (.sipush 200, 3) := by decide +kernel
theorem dX10_rate_29 : decode cX10_rate 29 = .ok (.if_icmp .gt 15, 3) := by decide +kernel
theorem dX10_rate_32 : decode cX10_rate 32 = .ok (.iload_n 3, 1) := by decide +kernel
theorem dX10_rate_33 : decode cX10_rate 33 = .ok (.iload 4, 2) := by decide +kernel
theorem dX10_rate_35 : decode cX10_rate 35 = .ok (.sipush 300, 3) := by decide +kernel
theorem dX10_rate_38 : decode cX10_rate 38 = .ok (.invokestatic 182, 3) := by decide +kernel
theorem dX10_rate_41 : decode cX10_rate 41 = .ok (.ifCond .ne 5, 3) := by decide +kernel
theorem dX10_rate_44 : decode cX10_rate 44 = .ok (.iconst (-1), 1) := by decide +kernel
theorem dX10_rate_45 : decode cX10_rate 45 = .ok (.ireturn, 1) := by decide +kernel
theorem dX10_rate_46 : decode cX10_rate 46 = .ok (.aload_n 0, 1) := by decide +kernel
theorem dX10_rate_47 : decode cX10_rate 47 = .ok (.iconst 1, 1) := by decide +kernel
theorem dX10_rate_48 : decode cX10_rate 48 = .ok (.iload_n 1, 1) := by decide +kernel
theorem dX10_rate_49 : decode cX10_rate 49 = .ok (.iload_n 3, 1) := by decide +kernel
theorem dX10_rate_50 : decode cX10_rate 50 = .ok (.iload 4, 2) := by decide +kernel
theorem dX10_rate_52 : decode cX10_rate 52 = .ok (.invokevirtual 185, 3) := by decide +kernel
theorem dX10_rate_55 : decode cX10_rate 55 = .ok (.istore 6, 2) := by decide +kernel
theorem dX10_rate_57 : decode cX10_rate 57 = .ok (.aload_n 0, 1) := by decide +kernel
theorem dX10_rate_58 : decode cX10_rate 58 = .ok (.iconst 1, 1) := by decide +kernel
theorem dX10_rate_59 : decode cX10_rate 59 = .ok (.iload_n 2, 1) := by decide +kernel
theorem dX10_rate_60 : decode cX10_rate 60 = .ok (.iload_n 3, 1) := by decide +kernel
theorem dX10_rate_61 : decode cX10_rate 61 = .ok (.iload 4, 2) := by decide +kernel
theorem dX10_rate_63 : decode cX10_rate 63 = .ok (.invokevirtual 185, 3) := by decide +kernel
theorem dX10_rate_66 : decode cX10_rate 66 = .ok (.istore 7, 2) := by decide +kernel
theorem dX10_rate_68 : decode cX10_rate 68 = .ok (.iload 6, 2) := by decide +kernel
theorem dX10_rate_70 : decode cX10_rate 70 = .ok (.iconst (-1), 1) := by decide +kernel
theorem dX10_rate_71 : decode cX10_rate 71 = .ok (.if_icmp .eq 9, 3) := by decide +kernel
theorem dX10_rate_74 : decode cX10_rate 74 = .ok (.iload 7, 2) := by decide +kernel
theorem dX10_rate_76 : decode cX10_rate 76 = .ok (.iconst (-1), 1) := by decide +kernel
theorem dX10_rate_77 : decode cX10_rate 77 = .ok (.if_icmp .ne 7, 3) := by decide +kernel
theorem dX10_rate_80 : decode cX10_rate 80 = .ok (.iconst (-1), 1) := by decide +kernel
theorem dX10_rate_81 : decode cX10_rate 81 = .ok (.goto 12, 3) := by decide +kernel
theorem dX10_rate_84 : decode cX10_rate 84 = .ok (.iload 6, 2) := by decide +kernel
theorem dX10_rate_86 : decode cX10_rate 86 = .ok (.iload 7, 2) := by decide +kernel
theorem dX10_rate_88 : decode cX10_rate 88 = .ok (.iload 5, 2) := by decide +kernel
theorem dX10_rate_90 : decode cX10_rate 90 = .ok (.invokestatic 238, 3) := by decide +kernel
theorem dX10_rate_93 : decode cX10_rate 93 = .ok (.ireturn, 1) := by decide +kernel
theorem dX10_drift_0 : decode cX10_drift 0 = .ok (.iload_n 2, 1) := by decide +kernel
theorem dX10_drift_1 : decode cX10_drift 1 = .ok (.iload_n 3, 1) := by decide +kernel
theorem dX10_drift_2 : decode cX10_drift 2 = .ok (.sipush 300, 3) := by decide +kernel
theorem dX10_drift_5 : decode cX10_drift 5 = .ok (.invokestatic 182, 3) := by decide +kernel
theorem dX10_drift_8 : decode cX10_drift 8 = .ok (.ifCond .ne 6, 3) := by decide +kernel
theorem dX10_drift_11 : decode cX10_drift 11 = .ok (.ldc 241, 2) := by decide +kernel
theorem dX10_drift_13 : decode cX10_drift 13 = .ok (.ireturn, 1) := by decide +kernel
theorem dX10_drift_14 : decode cX10_drift 14 = .ok (.aload_n 0, 1) := by decide +kernel
theorem dX10_drift_15 : decode cX10_drift 15 = .ok (.iconst 2, 1) := by decide +kernel
theorem dX10_drift_16 : decode cX10_drift 16 = .ok (.iload_n 1, 1) := by decide +kernel
theorem dX10_drift_17 : decode cX10_drift 17 = .ok (.iload_n 2, 1) := by decide +kernel
theorem dX10_drift_18 : decode cX10_drift 18 = .ok (.iload_n 3, 1) := by decide +kernel
theorem dX10_drift_19 : decode cX10_drift 19 = .ok (.invokevirtual 185, 3) := by decide +kernel
theorem dX10_drift_22 : decode cX10_drift 22 = .ok (.istore 4, 2) := by decide +kernel
theorem dX10_drift_24 : decode cX10_drift 24 = .ok (.aload_n 0, 1) := by decide +kernel
theorem dX10_drift_25 : decode cX10_drift 25 = .ok (.iconst 3, 1) := by decide +kernel
theorem dX10_drift_26 : decode cX10_drift 26 = .ok (.iload_n 1, 1) := by decide +kernel
theorem dX10_drift_27 : decode cX10_drift 27 = .ok (.iload_n 2, 1) := by decide +kernel
theorem dX10_drift_28 : decode cX10_drift 28 = .ok (.iload_n 3, 1) := by decide +kernel
theorem dX10_drift_29 : decode cX10_drift 29 = .ok (.invokevirtual 185, 3) := by decide +kernel
theorem dX10_drift_32 : decode cX10_drift 32 = .ok (.istore 5, 2) := by decide +kernel
theorem dX10_drift_34 : decode cX10_drift 34 = .ok (.iload 4, 2) := by decide +kernel
theorem dX10_drift_36 : decode cX10_drift 36 = .ok (.iconst (-1), 1) := by decide +kernel
theorem dX10_drift_37 : decode cX10_drift 37 = .ok (.if_icmp .eq 9, 3) := by decide +kernel
theorem dX10_drift_40 : decode cX10_drift 40 = .ok (.iload 5, 2) := by decide +kernel
theorem dX10_drift_42 : decode cX10_drift 42 = .ok (.iconst (-1), 1) := by decide +kernel
theorem dX10_drift_43 : decode cX10_drift 43 = .ok (.if_icmp .ne 8, 3) := by decide +kernel
theorem dX10_drift_46 : decode cX10_drift 46 = .ok (.ldc 241, 2) := by decide +kernel
theorem dX10_drift_48 : decode cX10_drift 48 = .ok (.goto 8, 3) := by decide +kernel
theorem dX10_drift_51 : decode cX10_drift 51 = .ok (.iload 4, 2) := by decide +kernel
theorem dX10_drift_53 : decode cX10_drift 53 = .ok (.iload 5, 2) := by decide +kernel
theorem dX10_drift_55 : decode cX10_drift 55 = .ok (.isub, 1) := by decide +kernel
theorem dX10_drift_56 : decode cX10_drift 56 = .ok (.ireturn, 1) := by decide +kernel
theorem dX10_owner_0 : decode cX10_owner 0 = .ok (.iload_n 1, 1) := by decide +kernel
theorem dX10_owner_1 : decode cX10_owner 1 = .ok (.iconst 1, 1) := by decide +kernel
theorem dX10_owner_2 : decode cX10_owner 2 = .ok (.if_icmp .lt 16, 3) := by decide +kernel
theorem dX10_owner_5 : decode cX10_owner 5 = .ok (.iload_n 1, 1) := by decide +kernel
theorem dX10_owner_6 : decode cX10_owner 6 = .ok (.bipush 9, 2) := by decide +kernel
theorem dX10_owner_8 : decode cX10_owner 8 = .ok (.if_icmp .gt 10, 3) := by decide +kernel
theorem dX10_owner_11 : decode cX10_owner 11 = .ok (.iload_n 2, 1) := by decide +kernel
theorem dX10_owner_12 : decode cX10_owner 12 = .ok (.invokestatic 157, 3) := by decide +kernel
theorem dX10_owner_15 : decode cX10_owner 15 = .ok (.ifCond .ne 5, 3) := by decide +kernel
theorem dX10_owner_18 : decode cX10_owner 18 = .ok (.iconst (-1), 1) := by decide +kernel
theorem dX10_owner_19 : decode cX10_owner 19 = .ok (.ireturn, 1) := by decide +kernel
theorem dX10_owner_20 : decode cX10_owner 20 = .ok (.aload_n 0, 1) := by decide +kernel
theorem dX10_owner_21 : decode cX10_owner 21 = .ok (.getfield 36, 3) := by decide +kernel
theorem dX10_owner_24 : decode cX10_owner 24 = .ok (.aload_n 0, 1) := by decide +kernel
theorem dX10_owner_25 : decode cX10_owner 25 = .ok (.getfield 10, 3) := by decide +kernel
theorem dX10_owner_28 : decode cX10_owner 28 = .ok (.iconst 4, 1) := by decide +kernel
theorem dX10_owner_29 : decode cX10_owner 29 = .ok (.iload_n 1, 1) := by decide +kernel
theorem dX10_owner_30 : decode cX10_owner 30 = .ok (.invokevirtual 174, 3) := by decide +kernel
theorem dX10_owner_33 : decode cX10_owner 33 = .ok (.pop, 1) := by decide +kernel
theorem dX10_owner_34 : decode cX10_owner 34 = .ok (.iload_n 3, 1) := by decide +kernel
theorem dX10_owner_35 : decode cX10_owner 35 = .ok (.tableswitch 65 0 2 #[25, 33, 42], 25) := by decide +kernel
theorem dX10_owner_60 : decode cX10_owner 60 = .ok (.aload_n 0, 1) := by decide +kernel
theorem dX10_owner_61 : decode cX10_owner 61 = .ok (.getfield 36, 3) := by decide +kernel
theorem dX10_owner_64 : decode cX10_owner 64 = .ok (.getfield 223, 3) := by decide +kernel
theorem dX10_owner_67 : decode cX10_owner 67 = .ok (.ireturn, 1) := by decide +kernel
theorem dX10_owner_68 : decode cX10_owner 68 = .ok (.aload_n 0, 1) := by decide +kernel
theorem dX10_owner_69 : decode cX10_owner 69 = .ok (.getfield 36, 3) := by decide +kernel
theorem dX10_owner_72 : decode cX10_owner 72 = .ok (.iload_n 2, 1) := by decide +kernel
theorem dX10_owner_73 : decode cX10_owner 73 = .ok (.invokevirtual 242, 3) := by decide +kernel
theorem dX10_owner_76 : decode cX10_owner 76 = .ok (.ireturn, 1) := by decide +kernel
theorem dX10_owner_77 : decode cX10_owner 77 = .ok (.aload_n 0, 1) := by decide +kernel
theorem dX10_owner_78 : decode cX10_owner 78 = .ok (.getfield 50, 3) := by decide +kernel
theorem dX10_owner_81 : decode cX10_owner 81 = .ok (.aload_n 0, 1) := by decide +kernel
theorem dX10_owner_82 : decode cX10_owner 82 = .ok (.getfield 36, 3) := by decide +kernel
theorem dX10_owner_85 : decode cX10_owner 85 = .ok (.getfield 223, 3) := by decide +kernel
theorem dX10_owner_88 : decode cX10_owner 88 = .ok (.aload_n 0, 1) := by decide +kernel
theorem dX10_owner_89 : decode cX10_owner 89 = .ok (.getfield 36, 3) := by decide +kernel
theorem dX10_owner_92 : decode cX10_owner 92 = .ok (.iload_n 2, 1) := by decide +kernel
theorem dX10_owner_93 : decode cX10_owner 93 = .ok (.invokevirtual 242, 3) := by decide +kernel
theorem dX10_owner_96 : decode cX10_owner 96 = .ok (.invokevirtual 245, 3) := by decide +kernel
theorem dX10_owner_99 : decode cX10_owner 99 = .ok (.ireturn, 1) := by decide +kernel
theorem dX10_owner_100 : decode cX10_owner 100 = .ok (.iconst (-1), 1) := by decide +kernel
theorem dX10_owner_101 : decode cX10_owner 101 = .ok (.ireturn, 1) := by decide +kernel
theorem dX10_heap_0 : decode cX10_heap 0 = .ok (.iload_n 2, 1) := by decide +kernel
theorem dX10_heap_1 : decode cX10_heap 1 = .ok (.ifCond .lt 10, 3) := by decide +kernel
theorem dX10_heap_4 : decode cX10_heap 4 = .ok (.iload_n 2, 1) := by decide +kernel
theorem dX10_heap_5 : decode cX10_heap 5 = .ok (.sipush 500, 3) := by decide +kernel
theorem dX10_heap_8 : decode cX10_heap 8 = .ok (.if_icmp .le 5, 3) := by decide +kernel
theorem dX10_heap_11 : decode cX10_heap 11 = .ok (.iconst (-1), 1) := by decide +kernel
theorem dX10_heap_12 : decode cX10_heap 12 = .ok (.ireturn, 1) := by decide +kernel
theorem dX10_heap_13 : decode cX10_heap 13 = .ok (.aload_n 0, 1) := by decide +kernel
theorem dX10_heap_14 : decode cX10_heap 14 = .ok (.getfield 36, 3) := by decide +kernel
theorem dX10_heap_17 : decode cX10_heap 17 = .ok (.aload_n 0, 1) := by decide +kernel
theorem dX10_heap_18 : decode cX10_heap 18 = .ok (.getfield 10, 3) := by decide +kernel
theorem dX10_heap_21 : decode cX10_heap 21 = .ok (.iconst 0, 1) := by decide +kernel
theorem dX10_heap_22 : decode cX10_heap 22 = .ok (.iconst 0, 1) := by decide +kernel
theorem dX10_heap_23 : decode cX10_heap 23 = .ok (.invokevirtual 174, 3) := by decide +kernel
theorem dX10_heap_26 : decode cX10_heap 26 = .ok (.pop, 1) := by decide +kernel
theorem dX10_heap_27 : decode cX10_heap 27 = .ok (.aload_n 0, 1) := by decide +kernel
theorem dX10_heap_28 : decode cX10_heap 28 = .ok (.getfield 36, 3) := by decide +kernel
theorem dX10_heap_31 : decode cX10_heap 31 = .ok (.iload_n 1, 1) := by decide +kernel
theorem dX10_heap_32 : decode cX10_heap 32 = .ok (.invokevirtual 248, 3) := by decide +kernel
theorem dX10_heap_35 : decode cX10_heap 35 = .ok (.istore_n 3, 1) := by decide +kernel
theorem dX10_heap_36 : decode cX10_heap 36 = .ok (.iload_n 3, 1) := by decide +kernel
theorem dX10_heap_37 : decode cX10_heap 37 = .ok (.iconst (-1), 1) := by decide +kernel
theorem dX10_heap_38 : decode cX10_heap 38 = .ok (.if_icmp .ne 7, 3) := by decide +kernel
theorem dX10_heap_41 : decode cX10_heap 41 = .ok (.iconst (-1), 1) := by decide +kernel
theorem dX10_heap_42 : decode cX10_heap 42 = .ok (.goto 19, 3) := by decide +kernel
theorem dX10_heap_45 : decode cX10_heap 45 = .ok (.aload_n 0, 1) := by decide +kernel
theorem dX10_heap_46 : decode cX10_heap 46 = .ok (.getfield 36, 3) := by decide +kernel
theorem dX10_heap_49 : decode cX10_heap 49 = .ok (.aload_n 0, 1) := by decide +kernel
theorem dX10_heap_50 : decode cX10_heap 50 = .ok (.getfield 10, 3) := by decide +kernel
theorem dX10_heap_53 : decode cX10_heap 53 = .ok (.getfield 58, 3) := by decide +kernel
theorem dX10_heap_56 : decode cX10_heap 56 = .ok (.iload_n 3, 1) := by decide +kernel
theorem dX10_heap_57 : decode cX10_heap 57 = .ok (.iload_n 2, 1) := by decide +kernel
theorem dX10_heap_58 : decode cX10_heap 58 = .ok (.invokevirtual 251, 3) := by decide +kernel
theorem dX10_heap_61 : decode cX10_heap 61 = .ok (.ireturn, 1) := by decide +kernel
theorem dX10_anew_0 : decode cX10_anew 0 = .ok (.iload_n 1, 1) := by decide +kernel
theorem dX10_anew_1 : decode cX10_anew 1 = .ok (.iload_n 2, 1) := by decide +kernel
theorem dX10_anew_2 : decode cX10_anew 2 = .ok (.sipush 300, 3) := by decide +kernel
theorem dX10_anew_5 : decode cX10_anew 5 = .ok (.invokestatic 182, 3) := by decide +kernel
theorem dX10_anew_8 : decode cX10_anew 8 = .ok (.ifCond .eq 19, 3) := by decide +kernel
theorem dX10_anew_11 : decode cX10_anew 11 = .ok (.aload_n 0, 1) := by decide +kernel
theorem dX10_anew_12 : decode cX10_anew 12 = .ok (.getfield 36, 3) := by decide +kernel
theorem dX10_anew_15 : decode cX10_anew 15 = .ok (.aload_n 0, 1) := by decide +kernel
theorem dX10_anew_16 : decode cX10_anew 16 = .ok (.getfield 10, 3) := by decide +kernel
theorem dX10_anew_19 : decode cX10_anew 19 = .ok (.iconst 0, 1) := by decide +kernel
theorem dX10_anew_20 : decode cX10_anew 20 = .ok (.iconst 0, 1) := by decide +kernel
theorem dX10_anew_21 : decode cX10_anew 21 = .ok (.invokevirtual 174, 3) := by decide +kernel
theorem dX10_anew_24 : decode cX10_anew 24 = .ok (.ifCond .ne 5, 3) := by decide +kernel
theorem dX10_anew_27 : decode cX10_anew 27 = .ok (.iconst (-1), 1) := by decide +kernel
theorem dX10_anew_28 : decode cX10_anew 28 = .ok (.ireturn, 1) := by decide +kernel
theorem dX10_anew_29 : decode cX10_anew 29 = .ok (.aload_n 0, 1) := by decide +kernel
theorem dX10_anew_30 : decode cX10_anew 30 = .ok (.getfield 43, 3) := by decide +kernel
theorem dX10_anew_33 : decode cX10_anew 33 = .ok (.aload_n 0, 1) := by decide +kernel
theorem dX10_anew_34 : decode cX10_anew 34 = .ok (.getfield 36, 3) := by decide +kernel
theorem dX10_anew_37 : decode cX10_anew 37 = .ok (.iload_n 1, 1) := by decide +kernel
theorem dX10_anew_38 : decode cX10_anew 38 = .ok (.iload_n 2, 1) := by decide +kernel
theorem dX10_anew_39 : decode cX10_anew 39 = .ok (.invokevirtual 189, 3) := by decide +kernel
theorem dX10_anew_42 : decode cX10_anew 42 = .ok (.iconst (-1), 1) := by decide +kernel
theorem dX10_anew_43 : decode cX10_anew 43 = .ok (.istore_n 3, 1) := by decide +kernel
theorem dX10_anew_44 : decode cX10_anew 44 = .ok (.iconst (-1), 1) := by decide +kernel
theorem dX10_anew_45 : decode cX10_anew 45 = .ok (.istore 4, 2) := by decide +kernel
theorem dX10_anew_47 : decode cX10_anew 47 = .ok (.iconst 0, 1) := by decide +kernel
theorem dX10_anew_48 : decode cX10_anew 48 = .ok (.istore 5, 2) := by decide +kernel
theorem dX10_anew_50 : decode cX10_anew 50 = .ok (.iload 5, 2) := by decide +kernel
theorem dX10_anew_52 : decode cX10_anew 52 = .ok (.aload_n 0, 1) := by decide +kernel
theorem dX10_anew_53 : decode cX10_anew 53 = .ok (.getfield 36, 3) := by decide +kernel
theorem dX10_anew_56 : decode cX10_anew 56 = .ok (.getfield 223, 3) := by decide +kernel
theorem dX10_anew_59 : decode cX10_anew 59 = .ok (.if_icmp .ge 44, 3) := by decide +kernel
theorem dX10_anew_62 : decode cX10_anew 62 = .ok (.aload_n 0, 1) := by decide +kernel
theorem dX10_anew_63 : decode cX10_anew 63 = .ok (.getfield 43, 3) := by decide +kernel
theorem dX10_anew_66 : decode cX10_anew 66 = .ok (.aload_n 0, 1) := by decide +kernel
theorem dX10_anew_67 : decode cX10_anew 67 = .ok (.getfield 36, 3) := by decide +kernel
theorem dX10_anew_70 : decode cX10_anew 70 = .ok (.iload 5, 2) := by decide +kernel
theorem dX10_anew_72 : decode cX10_anew 72 = .ok (.invokevirtual 255, 3) := by decide +kernel
theorem dX10_anew_75 : decode cX10_anew 75 = .ok (.istore 6, 2) := by decide +kernel
theorem dX10_anew_77 : decode cX10_anew 77 = .ok (.iload 6, 2) := by decide +kernel
theorem dX10_anew_79 : decode cX10_anew 79 = .ok (.iload_n 3, 1) := by decide +kernel
theorem dX10_anew_80 : decode cX10_anew 80 = .ok (.if_icmp .le 17, 3) := by decide +kernel
theorem dX10_anew_83 : decode cX10_anew 83 = .ok (.iload 6, 2) := by decide +kernel
theorem dX10_anew_85 : decode cX10_anew 85 = .ok (.istore_n 3, 1) := by decide +kernel
theorem dX10_anew_86 : decode cX10_anew 86 = .ok (.aload_n 0, 1) := by decide +kernel
theorem dX10_anew_87 : decode cX10_anew 87 = .ok (.getfield 36, 3) := by decide +kernel
theorem dX10_anew_90 : decode cX10_anew 90 = .ok (.iload 5, 2) := by decide +kernel
theorem dX10_anew_92 : decode cX10_anew 92 = .ok (.invokevirtual 259, 3) := by decide +kernel
theorem dX10_anew_95 : decode cX10_anew 95 = .ok (.istore 4, 2) := by decide +kernel
theorem dX10_anew_97 : decode cX10_anew 97 = .ok (.iinc 5 1, 3) := by decide +kernel
theorem dX10_anew_100 : decode cX10_anew 100 = .ok (.goto (-50), 3) := by decide +kernel
theorem dX10_anew_103 : decode cX10_anew 103 = .ok (.iload 4, 2) := by decide +kernel
theorem dX10_anew_105 : decode cX10_anew 105 = .ok (.ireturn, 1) := by decide +kernel
theorem dX10_worth_0 : decode cX10_worth 0 = .ok (.iload_n 2, 1) := by decide +kernel
theorem dX10_worth_1 : decode cX10_worth 1 = .ok (.iload_n 3, 1) := by decide +kernel
theorem dX10_worth_2 : decode cX10_worth 2 = .ok (.sipush 300, 3) := by decide +kernel
theorem dX10_worth_5 : decode cX10_worth 5 = .ok (.invokestatic 182, 3) := by decide +kernel
theorem dX10_worth_8 : decode cX10_worth 8 = .ok (.ifCond .ne 5, 3) := by decide +kernel
theorem dX10_worth_11 : decode cX10_worth 11 = .ok (.iconst (-1), 1) := by decide +kernel
theorem dX10_worth_12 : decode cX10_worth 12 = .ok (.ireturn, 1) := by decide +kernel
theorem dX10_worth_13 : decode cX10_worth 13 = .ok (.aload_n 0, 1) := by decide +kernel
theorem dX10_worth_14 : decode cX10_worth 14 = .ok (.getfield 36, 3) := by decide +kernel
theorem dX10_worth_17 : decode cX10_worth 17 = .ok (.aload_n 0, 1) := by decide +kernel
theorem dX10_worth_18 : decode cX10_worth 18 = .ok (.getfield 10, 3) := by decide +kernel
theorem dX10_worth_21 : decode cX10_worth 21 = .ok (.iconst 0, 1) := by decide +kernel
theorem dX10_worth_22 : decode cX10_worth 22 = .ok (.iconst 0, 1) := by decide +kernel
theorem dX10_worth_23 : decode cX10_worth 23 = .ok (.invokevirtual 174, 3) := by decide +kernel
theorem dX10_worth_26 : decode cX10_worth 26 = .ok (.pop, 1) := by decide +kernel
theorem dX10_worth_27 : decode cX10_worth 27 = .ok (.aload_n 0, 1) := by decide +kernel
theorem dX10_worth_28 : decode cX10_worth 28 = .ok (.getfield 36, 3) := by decide +kernel
theorem dX10_worth_31 : decode cX10_worth 31 = .ok (.iload_n 1, 1) := by decide +kernel
theorem dX10_worth_32 : decode cX10_worth 32 = .ok (.invokevirtual 248, 3) := by decide +kernel
theorem dX10_worth_35 : decode cX10_worth 35 = .ok (.istore 4, 2) := by decide +kernel
theorem dX10_worth_37 : decode cX10_worth 37 = .ok (.iload 4, 2) := by decide +kernel
theorem dX10_worth_39 : decode cX10_worth 39 = .ok (.iconst (-1), 1) := by decide +kernel
theorem dX10_worth_40 : decode cX10_worth 40 = .ok (.if_icmp .ne 5, 3) := by decide +kernel
theorem dX10_worth_43 : decode cX10_worth 43 = .ok (.iconst (-1), 1) := by decide +kernel
theorem dX10_worth_44 : decode cX10_worth 44 = .ok (.ireturn, 1) := by decide +kernel
theorem dX10_worth_45 : decode cX10_worth 45 = .ok (.aload_n 0, 1) := by decide +kernel
theorem dX10_worth_46 : decode cX10_worth 46 = .ok (.getfield 43, 3) := by decide +kernel
theorem dX10_worth_49 : decode cX10_worth 49 = .ok (.aload_n 0, 1) := by decide +kernel
theorem dX10_worth_50 : decode cX10_worth 50 = .ok (.getfield 36, 3) := by decide +kernel
theorem dX10_worth_53 : decode cX10_worth 53 = .ok (.iload_n 2, 1) := by decide +kernel
theorem dX10_worth_54 : decode cX10_worth 54 = .ok (.iload_n 3, 1) := by decide +kernel
theorem dX10_worth_55 : decode cX10_worth 55 = .ok (.invokevirtual 189, 3) := by decide +kernel
theorem dX10_worth_58 : decode cX10_worth 58 = .ok (.aload_n 0, 1) := by decide +kernel
theorem dX10_worth_59 : decode cX10_worth 59 = .ok (.getfield 43, 3) := by decide +kernel
theorem dX10_worth_62 : decode cX10_worth 62 = .ok (.aload_n 0, 1) := by decide +kernel
theorem dX10_worth_63 : decode cX10_worth 63 = .ok (.getfield 36, 3) := by decide +kernel
theorem dX10_worth_66 : decode cX10_worth 66 = .ok (.iload 4, 2) := by decide +kernel
theorem dX10_worth_68 : decode cX10_worth 68 = .ok (.invokevirtual 255, 3) := by decide +kernel
theorem dX10_worth_71 : decode cX10_worth 71 = .ok (.ireturn, 1) := by decide +kernel
theorem dX10_count_0 : decode cX10_count 0 = .ok (.iload_n 1, 1) := by decide +kernel
theorem dX10_count_1 : decode cX10_count 1 = .ok (.tableswitch 123 0 6 #[43, 54, 68, 79, 90, 101, 112], 43) := by decide +kernel
theorem dX10_count_44 : decode cX10_count 44 = .ok (.aload_n 0, 1) := by decide +kernel
theorem dX10_count_45 : decode cX10_count 45 = .ok (.getfield 10, 3) := by decide +kernel
theorem dX10_count_48 : decode cX10_count 48 = .ok (.getfield 58, 3) := by decide +kernel
theorem dX10_count_51 : decode cX10_count 51 = .ok (.getfield 262, 3) := by decide +kernel
theorem dX10_count_54 : decode cX10_count 54 = .ok (.ireturn, 1) := by decide +kernel
theorem dX10_count_55 : decode cX10_count 55 = .ok (.aload_n 0, 1) := by decide +kernel
theorem dX10_count_56 : decode cX10_count 56 = .ok (.getfield 36, 3) := by decide +kernel
theorem dX10_count_59 : decode cX10_count 59 = .ok (.aload_n 0, 1) := by decide +kernel
theorem dX10_count_60 : decode cX10_count 60 = .ok (.getfield 10, 3) := by decide +kernel
theorem dX10_count_63 : decode cX10_count 63 = .ok (.iconst 0, 1) := by decide +kernel
theorem dX10_count_64 : decode cX10_count 64 = .ok (.iconst 0, 1) := by decide +kernel
theorem dX10_count_65 : decode cX10_count 65 = .ok (.invokevirtual 174, 3) := by decide +kernel
theorem dX10_count_68 : decode cX10_count 68 = .ok (.ireturn, 1) := by decide +kernel
theorem dX10_count_69 : decode cX10_count 69 = .ok (.aload_n 0, 1) := by decide +kernel
theorem dX10_count_70 : decode cX10_count 70 = .ok (.getfield 10, 3) := by decide +kernel
theorem dX10_count_73 : decode cX10_count 73 = .ok (.getfield 58, 3) := by decide +kernel
theorem dX10_count_76 : decode cX10_count 76 = .ok (.getfield 265, 3) := by decide +kernel
theorem dX10_count_79 : decode cX10_count 79 = .ok (.ireturn, 1) := by decide +kernel
theorem dX10_count_80 : decode cX10_count 80 = .ok (.aload_n 0, 1) := by decide +kernel
theorem dX10_count_81 : decode cX10_count 81 = .ok (.getfield 10, 3) := by decide +kernel
theorem dX10_count_84 : decode cX10_count 84 = .ok (.getfield 58, 3) := by decide +kernel
theorem dX10_count_87 : decode cX10_count 87 = .ok (.getfield 268, 3) := by decide +kernel
theorem dX10_count_90 : decode cX10_count 90 = .ok (.ireturn, 1) := by decide +kernel
theorem dX10_count_91 : decode cX10_count 91 = .ok (.aload_n 0, 1) := by decide +kernel
theorem dX10_count_92 : decode cX10_count 92 = .ok (.getfield 10, 3) := by decide +kernel
theorem dX10_count_95 : decode cX10_count 95 = .ok (.getfield 58, 3) := by decide +kernel
theorem dX10_count_98 : decode cX10_count 98 = .ok (.getfield 271, 3) := by decide +kernel
theorem dX10_count_101 : decode cX10_count 101 = .ok (.ireturn, 1) := by decide +kernel
theorem dX10_count_102 : decode cX10_count 102 = .ok (.aload_n 0, 1) := by decide +kernel
theorem dX10_count_103 : decode cX10_count 103 = .ok (.getfield 10, 3) := by decide +kernel
theorem dX10_count_106 : decode cX10_count 106 = .ok (.getfield 118, 3) := by decide +kernel
theorem dX10_count_109 : decode cX10_count 109 = .ok (.getfield 130, 3) := by decide +kernel
theorem dX10_count_112 : decode cX10_count 112 = .ok (.ireturn, 1) := by decide +kernel
theorem dX10_count_113 : decode cX10_count 113 = .ok (.aload_n 0, 1) := by decide +kernel
theorem dX10_count_114 : decode cX10_count 114 = .ok (.getfield 10, 3) := by decide +kernel
theorem dX10_count_117 : decode cX10_count 117 = .ok (.getfield 114, 3) := by decide +kernel
theorem dX10_count_120 : decode cX10_count 120 = .ok (.getfield 130, 3) := by decide +kernel
theorem dX10_count_123 : decode cX10_count 123 = .ok (.ireturn, 1) := by decide +kernel
theorem dX10_count_124 : decode cX10_count 124 = .ok (.iload_n 1, 1) := by decide +kernel
theorem dX10_count_125 : decode cX10_count 125 = .ok (.bipush 10, 2) := by decide +kernel
theorem dX10_count_127 : decode cX10_count 127 = .ok (.if_icmp .lt 28, 3) := by decide +kernel
theorem dX10_count_130 : decode cX10_count 130 = .ok (.iload_n 1, 1) := by decide +kernel
theorem dX10_count_131 : decode cX10_count 131 = .ok (.bipush 16, 2) := by decide +kernel
theorem dX10_count_133 : decode cX10_count 133 = .ok (.if_icmp .ge 22, 3) := by decide +kernel
theorem dX10_count_136 : decode cX10_count 136 = .ok (.aload_n 0, 1) := by decide +kernel
theorem dX10_count_137 : decode cX10_count 137 = .ok (.getfield 36, 3) := by decide +kernel
theorem dX10_count_140 : decode cX10_count 140 = .ok (.aload_n 0, 1) := by decide +kernel
theorem dX10_count_141 : decode cX10_count 141 = .ok (.getfield 10, 3) := by decide +kernel
theorem dX10_count_144 : decode cX10_count 144 = .ok (.iconst 1, 1) := by decide +kernel
theorem dX10_count_145 : decode cX10_count 145 = .ok (.iload_n 1, 1) := by decide +kernel
theorem dX10_count_146 : decode cX10_count 146 = .ok (.bipush 10, 2) := by decide +kernel
theorem dX10_count_148 : decode cX10_count 148 = .ok (.isub, 1) := by decide +kernel
theorem dX10_count_149 : decode cX10_count 149 = .ok (.invokevirtual 174, 3) := by decide +kernel
theorem dX10_count_152 : decode cX10_count 152 = .ok (.goto 4, 3) := by decide +kernel
theorem dX10_count_155 : decode cX10_count 155 = .ok (.iconst (-1), 1) := by decide +kernel
theorem dX10_count_156 : decode cX10_count 156 = .ok (.ireturn, 1) := by decide +kernel
theorem dX10_image_0 : decode cX10_image 0 = .ok (.iload_n 1, 1) := by decide +kernel
theorem dX10_image_1 : decode cX10_image 1 = .ok (.ifCond .lt 12, 3) := by decide +kernel
theorem dX10_image_4 : decode cX10_image 4 = .ok (.iload_n 1, 1) := by decide +kernel
theorem dX10_image_5 : decode cX10_image 5 = .ok (.aload_n 0, 1) := by decide +kernel
theorem dX10_image_6 : decode cX10_image 6 = .ok (.getfield 16, 3) := by decide +kernel
theorem dX10_image_9 : decode cX10_image 9 = .ok (.arraylength, 1) := by decide +kernel
theorem dX10_image_10 : decode cX10_image 10 = .ok (.if_icmp .lt 5, 3) := by decide +kernel
theorem dX10_image_13 : decode cX10_image 13 = .ok (.iconst 0, 1) := by decide +kernel
theorem dX10_image_14 : decode cX10_image 14 = .ok (.ireturn, 1) := by decide +kernel
theorem dX10_image_15 : decode cX10_image 15 = .ok (.aload_n 0, 1) := by decide +kernel
theorem dX10_image_16 : decode cX10_image 16 = .ok (.getfield 16, 3) := by decide +kernel
theorem dX10_image_19 : decode cX10_image 19 = .ok (.iload_n 1, 1) := by decide +kernel
theorem dX10_image_20 : decode cX10_image 20 = .ok (.aaload, 1) := by decide +kernel
theorem dX10_image_21 : decode cX10_image 21 = .ok (.astore_n 2, 1) := by decide +kernel
theorem dX10_image_22 : decode cX10_image 22 = .ok (.aload_n 2, 1) := by decide +kernel
theorem dX10_image_23 : decode cX10_image 23 = .ok (.ifnonnull 18, 3) := by decide +kernel
theorem dX10_image_26 : decode cX10_image 26 = .ok (.new 7, 3) := by decide +kernel
theorem dX10_image_29 : decode cX10_image 29 = .ok (.dup, 1) := by decide +kernel
theorem dX10_image_30 : decode cX10_image 30 = .ok (.invokespecial 9, 3) := by decide +kernel
theorem dX10_image_33 : decode cX10_image 33 = .ok (.astore_n 2, 1) := by decide +kernel
theorem dX10_image_34 : decode cX10_image 34 = .ok (.aload_n 0, 1) := by decide +kernel
theorem dX10_image_35 : decode cX10_image 35 = .ok (.getfield 16, 3) := by decide +kernel
theorem dX10_image_38 : decode cX10_image 38 = .ok (.iload_n 1, 1) := by decide +kernel
theorem dX10_image_39 : decode cX10_image 39 = .ok (.aload_n 2, 1) := by decide +kernel
theorem dX10_image_40 : decode cX10_image 40 = .ok (.aastore, 1) := by decide +kernel
theorem dX10_image_41 : decode cX10_image 41 = .ok (.aload_n 2, 1) := by decide +kernel
theorem dX10_image_42 : decode cX10_image 42 = .ok (.aload_n 0, 1) := by decide +kernel
theorem dX10_image_43 : decode cX10_image 43 = .ok (.getfield 10, 3) := by decide +kernel
theorem dX10_image_46 : decode cX10_image 46 = .ok (.invokevirtual 274, 3) := by decide +kernel
theorem dX10_image_49 : decode cX10_image 49 = .ok (.iconst 1, 1) := by decide +kernel
theorem dX10_image_50 : decode cX10_image 50 = .ok (.ireturn, 1) := by decide +kernel
theorem dX10_again_0 : decode cX10_again 0 = .ok (.iload_n 1, 1) := by decide +kernel
theorem dX10_again_1 : decode cX10_again 1 = .ok (.ifCond .lt 12, 3) := by decide +kernel
theorem dX10_again_4 : decode cX10_again 4 = .ok (.iload_n 1, 1) := by decide +kernel
theorem dX10_again_5 : decode cX10_again 5 = .ok (.aload_n 0, 1) := by decide +kernel
theorem dX10_again_6 : decode cX10_again 6 = .ok (.getfield 16, 3) := by decide +kernel
theorem dX10_again_9 : decode cX10_again 9 = .ok (.arraylength, 1) := by decide +kernel
theorem dX10_again_10 : decode cX10_again 10 = .ok (.if_icmp .lt 5, 3) := by decide +kernel
theorem dX10_again_13 : decode cX10_again 13 = .ok (.iconst 0, 1) := by decide +kernel
theorem dX10_again_14 : decode cX10_again 14 = .ok (.ireturn, 1) := by decide +kernel
theorem dX10_again_15 : decode cX10_again 15 = .ok (.aload_n 0, 1) := by decide +kernel
theorem dX10_again_16 : decode cX10_again 16 = .ok (.getfield 16, 3) := by decide +kernel
theorem dX10_again_19 : decode cX10_again 19 = .ok (.iload_n 1, 1) := by decide +kernel
theorem dX10_again_20 : decode cX10_again 20 = .ok (.aaload, 1) := by decide +kernel
theorem dX10_again_21 : decode cX10_again 21 = .ok (.astore_n 2, 1) := by decide +kernel
theorem dX10_again_22 : decode cX10_again 22 = .ok (.aload_n 2, 1) := by decide +kernel
theorem dX10_again_23 : decode cX10_again 23 = .ok (.ifnonnull 5, 3) := by decide +kernel
theorem dX10_again_26 : decode cX10_again 26 = .ok (.iconst 0, 1) := by decide +kernel
theorem dX10_again_27 : decode cX10_again 27 = .ok (.ireturn, 1) := by decide +kernel
theorem dX10_again_28 : decode cX10_again 28 = .ok (.aload_n 0, 1) := by decide +kernel
theorem dX10_again_29 : decode cX10_again 29 = .ok (.getfield 10, 3) := by decide +kernel
theorem dX10_again_32 : decode cX10_again 32 = .ok (.aload_n 2, 1) := by decide +kernel
theorem dX10_again_33 : decode cX10_again 33 = .ok (.invokevirtual 274, 3) := by decide +kernel
theorem dX10_again_36 : decode cX10_again 36 = .ok (.iconst 1, 1) := by decide +kernel
theorem dX10_again_37 : decode cX10_again 37 = .ok (.ireturn, 1) := by decide +kernel
theorem dX10_isUnit_0 : decode cX10_isUnit 0 = .ok (.iload_n 0, 1) := by decide +kernel
theorem dX10_isUnit_1 : decode cX10_isUnit 1 = .ok (.bipush 10, 2) := by decide +kernel
theorem dX10_isUnit_3 : decode cX10_isUnit 3 = .ok (.if_icmp .lt 14, 3) := by decide +kernel
theorem dX10_isUnit_6 : decode cX10_isUnit 6 = .ok (.iload_n 0, 1) := by decide +kernel
theorem dX10_isUnit_7 : decode cX10_isUnit 7 = .ok (.sipush 2000, 3) := by decide +kernel
theorem dX10_isUnit_10 : decode cX10_isUnit 10 = .ok (.if_icmp .gt 7, 3) := by decide +kernel
theorem dX10_isUnit_13 : decode cX10_isUnit 13 = .ok (.iconst 1, 1) := by decide +kernel
theorem dX10_isUnit_14 : decode cX10_isUnit 14 = .ok (.goto 4, 3) := by decide +kernel
theorem dX10_isUnit_17 : decode cX10_isUnit 17 = .ok (.iconst 0, 1) := by decide +kernel
theorem dX10_isUnit_18 : decode cX10_isUnit 18 = .ok (.ireturn, 1) := by decide +kernel
theorem dX10_isRange_0 : decode cX10_isRange 0 = .ok (.iload_n 0, 1) := by decide +kernel
theorem dX10_isRange_1 : decode cX10_isRange 1 = .ok (.invokestatic 157, 3) := by decide +kernel
theorem dX10_isRange_4 : decode cX10_isRange 4 = .ok (.ifCond .eq 26, 3) := by decide +kernel
theorem dX10_isRange_7 : decode cX10_isRange 7 = .ok (.iload_n 1, 1) := by decide +kernel
theorem dX10_isRange_8 : decode cX10_isRange 8 = .ok (.invokestatic 157, 3) := by decide +kernel
theorem dX10_isRange_11 : decode cX10_isRange 11 = .ok (.ifCond .eq 19, 3) := by decide +kernel
theorem dX10_isRange_14 : decode cX10_isRange 14 = .ok (.iload_n 0, 1) := by decide +kernel
theorem dX10_isRange_15 : decode cX10_isRange 15 = .ok (.iload_n 1, 1) := by decide +kernel
theorem dX10_isRange_16 : decode cX10_isRange 16 = .ok (.if_icmp .gt 14, 3) := by decide +kernel
theorem dX10_isRange_19 : decode cX10_isRange 19 = .ok (.iload_n 1, 1) := by decide +kernel
theorem dX10_isRange_20 : decode cX10_isRange 20 = .ok (.iload_n 0, 1) := by decide +kernel
theorem dX10_isRange_21 : decode cX10_isRange 21 = .ok (.isub, 1) := by decide +kernel
theorem dX10_isRange_22 : decode cX10_isRange 22 = .ok (.iload_n 2, 1) := by decide +kernel
theorem dX10_isRange_23 : decode cX10_isRange 23 = .ok (.if_icmp .gt 7, 3) := by decide +kernel
theorem dX10_isRange_26 : decode cX10_isRange 26 = .ok (.iconst 1, 1) := by decide +kernel
theorem dX10_isRange_27 : decode cX10_isRange 27 = .ok (.goto 4, 3) := by decide +kernel
theorem dX10_isRange_30 : decode cX10_isRange 30 = .ok (.iconst 0, 1) := by decide +kernel
theorem dX10_isRange_31 : decode cX10_isRange 31 = .ok (.ireturn, 1) := by decide +kernel
theorem dX10_isTown_0 : decode cX10_isTown 0 = .ok (.iload_n 0, 1) := by decide +kernel
theorem dX10_isTown_1 : decode cX10_isTown 1 = .ok (.ifCond .lt 13, 3) := by decide +kernel
theorem dX10_isTown_4 : decode cX10_isTown 4 = .ok (.iload_n 0, 1) := by decide +kernel
theorem dX10_isTown_5 : decode cX10_isTown 5 = .ok (.bipush 6, 2) := by decide +kernel
theorem dX10_isTown_7 : decode cX10_isTown 7 = .ok (.if_icmp .ge 7, 3) := by decide +kernel
theorem dX10_isTown_10 : decode cX10_isTown 10 = .ok (.iconst 1, 1) := by decide +kernel
theorem dX10_isTown_11 : decode cX10_isTown 11 = .ok (.goto 4, 3) := by decide +kernel
theorem dX10_isTown_14 : decode cX10_isTown 14 = .ok (.iconst 0, 1) := by decide +kernel
theorem dX10_isTown_15 : decode cX10_isTown 15 = .ok (.ireturn, 1) := by decide +kernel
theorem dX10_bestAmong_0 : decode cX10_bestAmong 0 = .ok (.aload_n 0, 1) := by decide +kernel
theorem dX10_bestAmong_1 : decode cX10_bestAmong 1 = .ok (.getfield 36, 3) := by decide +kernel
theorem dX10_bestAmong_4 : decode cX10_bestAmong 4 = .ok (.aload_n 0, 1) := by decide +kernel
theorem dX10_bestAmong_5 : decode cX10_bestAmong 5 = .ok (.getfield 10, 3) := by decide +kernel
theorem dX10_bestAmong_8 : decode cX10_bestAmong 8 = .ok (.iload_n 1, 1) := by decide +kernel
theorem dX10_bestAmong_9 : decode cX10_bestAmong 9 = .ok (.iload_n 2, 1) := by decide +kernel
theorem dX10_bestAmong_10 : decode cX10_bestAmong 10 = .ok (.invokevirtual 174, 3) := by decide +kernel
theorem dX10_bestAmong_13 : decode cX10_bestAmong 13 = .ok (.ifCond .ne 5, 3) := by decide +kernel
theorem dX10_bestAmong_16 : decode cX10_bestAmong 16 = .ok (.iconst (-1), 1) := by decide +kernel
theorem dX10_bestAmong_17 : decode cX10_bestAmong 17 = .ok (.ireturn, 1) := by decide +kernel
theorem dX10_bestAmong_18 : decode cX10_bestAmong 18 = .ok (.aload_n 0, 1) := by decide +kernel
theorem dX10_bestAmong_19 : decode cX10_bestAmong 19 = .ok (.getfield 43, 3) := by decide +kernel
theorem dX10_bestAmong_22 : decode cX10_bestAmong 22 = .ok (.aload_n 0, 1) := by decide +kernel
theorem dX10_bestAmong_23 : decode cX10_bestAmong 23 = .ok (.getfield 36, 3) := by decide +kernel
theorem dX10_bestAmong_26 : decode cX10_bestAmong 26 = .ok (.iload_n 3, 1) := by decide +kernel
theorem dX10_bestAmong_27 : decode cX10_bestAmong 27 = .ok (.iload 4, 2) := by decide +kernel
theorem dX10_bestAmong_29 : decode cX10_bestAmong 29 = .ok (.invokevirtual 189, 3) := by decide +kernel
theorem dX10_bestAmong_32 : decode cX10_bestAmong 32 = .ok (.aload_n 0, 1) := by decide +kernel
theorem dX10_bestAmong_33 : decode cX10_bestAmong 33 = .ok (.getfield 43, 3) := by decide +kernel
theorem dX10_bestAmong_36 : decode cX10_bestAmong 36 = .ok (.invokevirtual 277, 3) := by decide +kernel
theorem dX10_bestAmong_39 : decode cX10_bestAmong 39 = .ok (.ireturn, 1) := by decide +kernel
theorem dX10_simplestRate_0 : decode cX10_simplestRate 0 = .ok (.iconst 2, 1) := by decide +kernel
theorem dX10_simplestRate_1 : decode cX10_simplestRate 1 = .ok (.istore_n 3, 1) := by decide +kernel
theorem dX10_simplestRate_2 : decode cX10_simplestRate 2 = .ok (.iload_n 3, 1) := by decide +kernel
theorem dX10_simplestRate_3 : decode cX10_simplestRate 3 = .ok (.bipush 24, 2) := by decide +kernel
theorem dX10_simplestRate_5 : decode cX10_simplestRate 5 = .ok (.if_icmp .gt 86, 3) := by decide +kernel
theorem dX10_simplestRate_8 : decode cX10_simplestRate 8 = .ok (.iconst 1, 1) := by decide +kernel
theorem dX10_simplestRate_9 : decode cX10_simplestRate 9 = .ok (.iload_n 3, 1) := by decide +kernel
theorem dX10_simplestRate_10 : decode cX10_simplestRate 10 = .ok (.bipush 12, 2) := by decide +kernel
theorem dX10_simplestRate_12 : decode cX10_simplestRate 12 = .ok (.isub, 1) := by decide +kernel
theorem dX10_simplestRate_13 : decode cX10_simplestRate 13 = .ok (.invokestatic 281, 3) := by decide +kernel
theorem dX10_simplestRate_16 : decode cX10_simplestRate 16 = .ok (.istore 4, 2) := by decide +kernel
theorem dX10_simplestRate_18 : decode cX10_simplestRate 18 = .ok (.bipush 12, 2) := by decide +kernel
theorem dX10_simplestRate_20 : decode cX10_simplestRate 20 = .ok (.iload_n 3, 1) := by decide +kernel
theorem dX10_simplestRate_21 : decode cX10_simplestRate 21 = .ok (.iconst 1, 1) := by decide +kernel
theorem dX10_simplestRate_22 : decode cX10_simplestRate 22 = .ok (.isub, 1) := by decide +kernel
theorem dX10_simplestRate_23 : decode cX10_simplestRate 23 = .ok (.invokestatic 286, 3) := by decide +kernel
theorem dX10_simplestRate_26 : decode cX10_simplestRate 26 = .ok (.istore 5, 2) := by decide +kernel
theorem dX10_simplestRate_28 : decode cX10_simplestRate 28 = .ok (.iload 4, 2) := by decide +kernel
theorem dX10_simplestRate_30 : decode cX10_simplestRate 30 = .ok (.istore 6, 2) := by decide +kernel
theorem dX10_simplestRate_32 : decode cX10_simplestRate 32 = .ok (.iload 6, 2) := by decide +kernel
theorem dX10_simplestRate_34 : decode cX10_simplestRate 34 = .ok (.iload 5, 2) := by decide +kernel
theorem dX10_simplestRate_36 : decode cX10_simplestRate 36 = .ok (.if_icmp .gt 49, 3) := by decide +kernel
theorem dX10_simplestRate_39 : decode cX10_simplestRate 39 = .ok (.iload_n 3, 1) := by decide +kernel
theorem dX10_simplestRate_40 : decode cX10_simplestRate 40 = .ok (.iload 6, 2) := by decide +kernel
theorem dX10_simplestRate_42 : decode cX10_simplestRate 42 = .ok (.isub, 1) := by decide +kernel
theorem dX10_simplestRate_43 : decode cX10_simplestRate 43 = .ok (.istore 7, 2) := by decide +kernel
theorem dX10_simplestRate_45 : decode cX10_simplestRate 45 = .ok (.sipush 1000, 3) := by decide +kernel
theorem dX10_simplestRate_48 : decode cX10_simplestRate 48 = .ok (.iload_n 0, 1) := by decide +kernel
theorem dX10_simplestRate_49 : decode cX10_simplestRate 49 = .ok (.iload 7, 2) := by decide +kernel
theorem dX10_simplestRate_51 : decode cX10_simplestRate 51 = .ok (.imul, 1) := by decide +kernel
theorem dX10_simplestRate_52 : decode cX10_simplestRate 52 = .ok (.iload_n 1, 1) := by decide +kernel
theorem dX10_simplestRate_53 : decode cX10_simplestRate 53 = .ok (.iload 6, 2) := by decide +kernel
theorem dX10_simplestRate_55 : decode cX10_simplestRate 55 = .ok (.imul, 1) := by decide +kernel
theorem dX10_simplestRate_56 : decode cX10_simplestRate 56 = .ok (.isub, 1) := by decide +kernel
theorem dX10_simplestRate_57 : decode cX10_simplestRate 57 = .ok (.invokestatic 289, 3) := by decide +kernel
theorem dX10_simplestRate_60 : decode cX10_simplestRate 60 = .ok (.imul, 1) := by decide +kernel
theorem dX10_simplestRate_61 : decode cX10_simplestRate 61 = .ok (.iload_n 2, 1) := by decide +kernel
theorem dX10_simplestRate_62 : decode cX10_simplestRate 62 = .ok (.iload_n 1, 1) := by decide +kernel
theorem dX10_simplestRate_63 : decode cX10_simplestRate 63 = .ok (.imul, 1) := by decide +kernel
theorem dX10_simplestRate_64 : decode cX10_simplestRate 64 = .ok (.iload 6, 2) := by decide +kernel
theorem dX10_simplestRate_66 : decode cX10_simplestRate 66 = .ok (.imul, 1) := by decide +kernel
theorem dX10_simplestRate_67 : decode cX10_simplestRate 67 = .ok (.if_icmp .gt 12, 3) := by decide +kernel
theorem dX10_simplestRate_70 : decode cX10_simplestRate 70 = .ok (.bipush 100, 2) := by decide +kernel
theorem dX10_simplestRate_72 : decode cX10_simplestRate 72 = .ok (.iload 6, 2) := by decide +kernel
theorem dX10_simplestRate_74 : decode cX10_simplestRate 74 = .ok (.imul, 1) := by decide +kernel
theorem dX10_simplestRate_75 : decode cX10_simplestRate 75 = .ok (.iload 7, 2) := by decide +kernel
theorem dX10_simplestRate_77 : decode cX10_simplestRate 77 = .ok (.iadd, 1) := by decide +kernel
theorem dX10_simplestRate_78 : decode cX10_simplestRate 78 = .ok (.ireturn, 1) := by decide +kernel
theorem dX10_simplestRate_79 : decode cX10_simplestRate 79 = .ok (.iinc 6 1, 3) := by decide +kernel
theorem dX10_simplestRate_82 : decode cX10_simplestRate 82 = .ok (.goto (-50), 3) := by decide +kernel
theorem dX10_simplestRate_85 : decode cX10_simplestRate 85 = .ok (.iinc 3 1, 3) := by decide +kernel
theorem dX10_simplestRate_88 : decode cX10_simplestRate 88 = .ok (.goto (-86), 3) := by decide +kernel
theorem dX10_simplestRate_91 : decode cX10_simplestRate 91 = .ok (.iconst (-1), 1) := by decide +kernel
theorem dX10_simplestRate_92 : decode cX10_simplestRate 92 = .ok (.ireturn, 1) := by decide +kernel
theorem dX10_weighEvidence_0 : decode cX10_weighEvidence 0 = .ok (.aload_n 0, 1) := by decide +kernel
theorem dX10_weighEvidence_1 : decode cX10_weighEvidence 1 = .ok (.getfield 36, 3) := by decide +kernel
theorem dX10_weighEvidence_4 : decode cX10_weighEvidence 4 = .ok (.getfield 223, 3) := by decide +kernel
theorem dX10_weighEvidence_7 : decode cX10_weighEvidence 7 = .ok (.istore_n 3, 1) := by decide +kernel
theorem dX10_weighEvidence_8 : decode cX10_weighEvidence 8 = .ok (.iload_n 1, 1) := by decide +kernel
theorem dX10_weighEvidence_9 : decode cX10_weighEvidence 9 = .ok (.iload_n 3, 1) := by decide +kernel
theorem dX10_weighEvidence_10 : decode cX10_weighEvidence 10 = .ok (.imul, 1) := by decide +kernel
theorem dX10_weighEvidence_11 : decode cX10_weighEvidence 11 = .ok (.istore 4, 2) := by decide +kernel
theorem dX10_weighEvidence_13 : decode cX10_weighEvidence 13 = .ok (.aload_n 0, 1) := by decide +kernel
theorem dX10_weighEvidence_14 : decode cX10_weighEvidence 14 = .ok (.getfield 36, 3) := by decide +kernel
theorem dX10_weighEvidence_17 : decode cX10_weighEvidence 17 = .ok (.iload_n 1, 1) := by decide +kernel
theorem dX10_weighEvidence_18 : decode cX10_weighEvidence 18 = .ok (.invokevirtual 206, 3) := by decide +kernel
theorem dX10_weighEvidence_21 : decode cX10_weighEvidence 21 = .ok (.istore 5, 2) := by decide +kernel
theorem dX10_weighEvidence_23 : decode cX10_weighEvidence 23 = .ok (.aload_n 0, 1) := by decide +kernel
theorem dX10_weighEvidence_24 : decode cX10_weighEvidence 24 = .ok (.getfield 50, 3) := by decide +kernel
theorem dX10_weighEvidence_27 : decode cX10_weighEvidence 27 = .ok (.aload_n 0, 1) := by decide +kernel
theorem dX10_weighEvidence_28 : decode cX10_weighEvidence 28 = .ok (.getfield 36, 3) := by decide +kernel
theorem dX10_weighEvidence_31 : decode cX10_weighEvidence 31 = .ok (.iload_n 1, 1) := by decide +kernel
theorem dX10_weighEvidence_32 : decode cX10_weighEvidence 32 = .ok (.iload 5, 2) := by decide +kernel
theorem dX10_weighEvidence_34 : decode cX10_weighEvidence 34 = .ok (.invokevirtual 209, 3) := by decide +kernel
theorem dX10_weighEvidence_37 : decode cX10_weighEvidence 37 = .ok (.i2l, 1) := by decide +kernel
theorem dX10_weighEvidence_38 : decode cX10_weighEvidence 38 = .ok (.lstore 6, 2) := by decide +kernel
theorem dX10_weighEvidence_40 : decode cX10_weighEvidence 40 = .ok (.ldc2_w 292, 3) := by decide +kernel
theorem dX10_weighEvidence_43 : decode cX10_weighEvidence 43 = .ok (.lload 6, 2) := by decide +kernel
theorem dX10_weighEvidence_45 : decode cX10_weighEvidence 45 = .ok (.iload_n 2, 1) := by decide +kernel
theorem dX10_weighEvidence_46 : decode cX10_weighEvidence 46 = .ok (.i2l, 1) := by decide +kernel
theorem dX10_weighEvidence_47 : decode cX10_weighEvidence 47 = .ok (.lmul, 1) := by decide +kernel
theorem dX10_weighEvidence_48 : decode cX10_weighEvidence 48 = .ok (.invokestatic 294, 3) := by decide +kernel
theorem dX10_weighEvidence_51 : decode cX10_weighEvidence 51 = .ok (.lstore 8, 2) := by decide +kernel
theorem dX10_weighEvidence_53 : decode cX10_weighEvidence 53 = .ok (.aload_n 0, 1) := by decide +kernel
theorem dX10_weighEvidence_54 : decode cX10_weighEvidence 54 = .ok (.getfield 54, 3) := by decide +kernel
theorem dX10_weighEvidence_57 : decode cX10_weighEvidence 57 = .ok (.iconst 0, 1) := by decide +kernel
theorem dX10_weighEvidence_58 : decode cX10_weighEvidence 58 = .ok (.iload_n 3, 1) := by decide +kernel
theorem dX10_weighEvidence_59 : decode cX10_weighEvidence 59 = .ok (.iastore, 1) := by decide +kernel
theorem dX10_weighEvidence_60 : decode cX10_weighEvidence 60 = .ok (.aload_n 0, 1) := by decide +kernel
theorem dX10_weighEvidence_61 : decode cX10_weighEvidence 61 = .ok (.getfield 54, 3) := by decide +kernel
theorem dX10_weighEvidence_64 : decode cX10_weighEvidence 64 = .ok (.iconst 1, 1) := by decide +kernel
theorem dX10_weighEvidence_65 : decode cX10_weighEvidence 65 = .ok (.iload 5, 2) := by decide +kernel
theorem dX10_weighEvidence_67 : decode cX10_weighEvidence 67 = .ok (.iastore, 1) := by decide +kernel
theorem dX10_weighEvidence_68 : decode cX10_weighEvidence 68 = .ok (.aload_n 0, 1) := by decide +kernel
theorem dX10_weighEvidence_69 : decode cX10_weighEvidence 69 = .ok (.getfield 54, 3) := by decide +kernel
theorem dX10_weighEvidence_72 : decode cX10_weighEvidence 72 = .ok (.iconst 2, 1) := by decide +kernel
theorem dX10_weighEvidence_73 : decode cX10_weighEvidence 73 = .ok (.iload 4, 2) := by decide +kernel
theorem dX10_weighEvidence_75 : decode cX10_weighEvidence 75 = .ok (.ifCond .ne 7, 3) := by decide +kernel
theorem dX10_weighEvidence_78 : decode cX10_weighEvidence 78 = .ok (.iconst 0, 1) := by decide +kernel
theorem dX10_weighEvidence_79 : decode cX10_weighEvidence 79 = .ok (.goto 18, 3) := by decide +kernel
theorem dX10_weighEvidence_82 : decode cX10_weighEvidence 82 = .ok (.aload_n 0, 1) := by decide +kernel
theorem dX10_weighEvidence_83 : decode cX10_weighEvidence 83 = .ok (.getfield 36, 3) := by decide +kernel
theorem dX10_weighEvidence_86 : decode cX10_weighEvidence 86 = .ok (.iload_n 1, 1) := by decide +kernel
theorem dX10_weighEvidence_87 : decode cX10_weighEvidence 87 = .ok (.invokevirtual 178, 3) := by decide +kernel
theorem dX10_weighEvidence_90 : decode cX10_weighEvidence 90 = .ok (.sipush 1000, 3) := by decide +kernel
theorem dX10_weighEvidence_93 : decode cX10_weighEvidence 93 = .ok (.imul, 1) := by decide +kernel
theorem dX10_weighEvidence_94 : decode cX10_weighEvidence 94 = .ok (.iload 4, 2) := by decide +kernel
theorem dX10_weighEvidence_96 : decode cX10_weighEvidence 96 = .ok (.idiv, 1) := by decide +kernel
theorem dX10_weighEvidence_97 : decode cX10_weighEvidence 97 = .ok (.iastore, 1) := by decide +kernel
theorem dX10_weighEvidence_98 : decode cX10_weighEvidence 98 = .ok (.aload_n 0, 1) := by decide +kernel
theorem dX10_weighEvidence_99 : decode cX10_weighEvidence 99 = .ok (.getfield 54, 3) := by decide +kernel
theorem dX10_weighEvidence_102 : decode cX10_weighEvidence 102 = .ok (.iconst 3, 1) := by decide +kernel
theorem dX10_weighEvidence_103 : decode cX10_weighEvidence 103 = .ok (.ldc2_w 297, 3) := by decide +kernel
theorem dX10_weighEvidence_106 : decode cX10_weighEvidence 106 = .ok (.lload 6, 2) := by decide +kernel
theorem dX10_weighEvidence_108 : decode cX10_weighEvidence 108 = .ok (.ldc2_w 299, 3) := by decide +kernel
theorem dX10_weighEvidence_111 : decode cX10_weighEvidence 111 = .ok (.ldiv, 1) := by decide +kernel
theorem dX10_weighEvidence_112 : decode cX10_weighEvidence 112 = .ok (.invokestatic 294, 3) := by decide +kernel
theorem dX10_weighEvidence_115 : decode cX10_weighEvidence 115 = .ok (.l2i, 1) := by decide +kernel
theorem dX10_weighEvidence_116 : decode cX10_weighEvidence 116 = .ok (.iastore, 1) := by decide +kernel
theorem dX10_weighEvidence_117 : decode cX10_weighEvidence 117 = .ok (.aload_n 0, 1) := by decide +kernel
theorem dX10_weighEvidence_118 : decode cX10_weighEvidence 118 = .ok (.getfield 54, 3) := by decide +kernel
theorem dX10_weighEvidence_121 : decode cX10_weighEvidence 121 = .ok (.iconst 4, 1) := by decide +kernel
theorem dX10_weighEvidence_122 : decode cX10_weighEvidence 122 = .ok (.ldc2_w 297, 3) := by decide +kernel
theorem dX10_weighEvidence_125 : decode cX10_weighEvidence 125 = .ok (.lload 8, 2) := by decide +kernel
theorem dX10_weighEvidence_127 : decode cX10_weighEvidence 127 = .ok (.ldc2_w 299, 3) := by decide +kernel
theorem dX10_weighEvidence_130 : decode cX10_weighEvidence 130 = .ok (.ldiv, 1) := by decide +kernel
theorem dX10_weighEvidence_131 : decode cX10_weighEvidence 131 = .ok (.invokestatic 294, 3) := by decide +kernel
theorem dX10_weighEvidence_134 : decode cX10_weighEvidence 134 = .ok (.l2i, 1) := by decide +kernel
theorem dX10_weighEvidence_135 : decode cX10_weighEvidence 135 = .ok (.iastore, 1) := by decide +kernel
theorem dX10_weighEvidence_136 : decode cX10_weighEvidence 136 = .ok (.aload_n 0, 1) := by decide +kernel
theorem dX10_weighEvidence_137 : decode cX10_weighEvidence 137 = .ok (.getfield 54, 3) := by decide +kernel
theorem dX10_weighEvidence_140 : decode cX10_weighEvidence 140 = .ok (.iconst 5, 1) := by decide +kernel
theorem dX10_weighEvidence_141 : decode cX10_weighEvidence 141 = .ok (.aload_n 0, 1) := by decide +kernel
theorem dX10_weighEvidence_142 : decode cX10_weighEvidence 142 = .ok (.getfield 43, 3) := by decide +kernel
theorem dX10_weighEvidence_145 : decode cX10_weighEvidence 145 = .ok (.iload_n 1, 1) := by decide +kernel
theorem dX10_weighEvidence_146 : decode cX10_weighEvidence 146 = .ok (.invokevirtual 301, 3) := by decide +kernel
theorem dX10_weighEvidence_149 : decode cX10_weighEvidence 149 = .ok (.iastore, 1) := by decide +kernel
theorem dX10_weighEvidence_150 : decode cX10_weighEvidence 150 = .ok (.aload_n 0, 1) := by decide +kernel
theorem dX10_weighEvidence_151 : decode cX10_weighEvidence 151 = .ok (.getfield 54, 3) := by decide +kernel
theorem dX10_weighEvidence_154 : decode cX10_weighEvidence 154 = .ok (.bipush 6, 2) := by decide +kernel
theorem dX10_weighEvidence_156 : decode cX10_weighEvidence 156 = .ok (.aload_n 0, 1) := by decide +kernel
theorem dX10_weighEvidence_157 : decode cX10_weighEvidence 157 = .ok (.getfield 36, 3) := by decide +kernel
theorem dX10_weighEvidence_160 : decode cX10_weighEvidence 160 = .ok (.iload_n 1, 1) := by decide +kernel
theorem dX10_weighEvidence_161 : decode cX10_weighEvidence 161 = .ok (.invokevirtual 304, 3) := by decide +kernel
theorem dX10_weighEvidence_164 : decode cX10_weighEvidence 164 = .ok (.iastore, 1) := by decide +kernel
theorem dX10_weighEvidence_165 : decode cX10_weighEvidence 165 = .ok (.aload_n 0, 1) := by decide +kernel
theorem dX10_weighEvidence_166 : decode cX10_weighEvidence 166 = .ok (.getfield 54, 3) := by decide +kernel
theorem dX10_weighEvidence_169 : decode cX10_weighEvidence 169 = .ok (.bipush 7, 2) := by decide +kernel
theorem dX10_weighEvidence_171 : decode cX10_weighEvidence 171 = .ok (.aload_n 0, 1) := by decide +kernel
theorem dX10_weighEvidence_172 : decode cX10_weighEvidence 172 = .ok (.getfield 36, 3) := by decide +kernel
theorem dX10_weighEvidence_175 : decode cX10_weighEvidence 175 = .ok (.iload_n 1, 1) := by decide +kernel
theorem dX10_weighEvidence_176 : decode cX10_weighEvidence 176 = .ok (.invokevirtual 307, 3) := by decide +kernel
theorem dX10_weighEvidence_179 : decode cX10_weighEvidence 179 = .ok (.iastore, 1) := by decide +kernel
theorem dX10_weighEvidence_180 : decode cX10_weighEvidence 180 = .ok (.return_, 1) := by decide +kernel
theorem dX11_init_0 : decode cX11_init 0 = .ok (.aload_n 0, 1) := by decide +kernel
theorem dX11_init_1 : decode cX11_init 1 = .ok (.invokespecial 1, 3) := by decide +kernel
theorem dX11_init_4 : decode cX11_init 4 = .ok (.aload_n 0, 1) := by decide +kernel
theorem dX11_init_5 : decode cX11_init 5 = .ok (.sipush 2000, 3) := by decide +kernel
theorem dX11_init_8 : decode cX11_init 8 = .ok (.newarray .byte, 2) := by decide +kernel
theorem dX11_init_10 : decode cX11_init 10 = .ok (.putfield 7, 3) := by decide +kernel
theorem dX11_init_13 : decode cX11_init 13 = .ok (.aload_n 0, 1) := by decide +kernel
theorem dX11_init_14 : decode cX11_init 14 = .ok (.iconst 4, 1) := by decide +kernel
theorem dX11_init_15 : decode cX11_init 15 = .ok (.newarray .int, 2) := by decide +kernel
theorem dX11_init_17 : decode cX11_init 17 = .ok (.putfield 13, 3) := by decide +kernel
theorem dX11_init_20 : decode cX11_init 20 = .ok (.aload_n 0, 1) := by decide +kernel
theorem dX11_init_21 : decode cX11_init 21 = .ok (.iconst 4, 1) := by decide +kernel
theorem dX11_init_22 : decode cX11_init 22 = .ok (.newarray .int, 2) := by decide +kernel
theorem dX11_init_24 : decode cX11_init 24 = .ok (.putfield 17, 3) := by decide +kernel
theorem dX11_init_27 : decode cX11_init 27 = .ok (.aload_n 0, 1) := by decide +kernel
theorem dX11_init_28 : decode cX11_init 28 = .ok (.iconst 4, 1) := by decide +kernel
theorem dX11_init_29 : decode cX11_init 29 = .ok (.newarray .int, 2) := by decide +kernel
theorem dX11_init_31 : decode cX11_init 31 = .ok (.putfield 20, 3) := by decide +kernel
theorem dX11_init_34 : decode cX11_init 34 = .ok (.aload_n 0, 1) := by decide +kernel
theorem dX11_init_35 : decode cX11_init 35 = .ok (.iconst 4, 1) := by decide +kernel
theorem dX11_init_36 : decode cX11_init 36 = .ok (.newarray .int, 2) := by decide +kernel
theorem dX11_init_38 : decode cX11_init 38 = .ok (.putfield 23, 3) := by decide +kernel
theorem dX11_init_41 : decode cX11_init 41 = .ok (.aload_n 0, 1) := by decide +kernel
theorem dX11_init_42 : decode cX11_init 42 = .ok (.iconst 4, 1) := by decide +kernel
theorem dX11_init_43 : decode cX11_init 43 = .ok (.newarray .int, 2) := by decide +kernel
theorem dX11_init_45 : decode cX11_init 45 = .ok (.putfield 26, 3) := by decide +kernel
theorem dX11_init_48 : decode cX11_init 48 = .ok (.aload_n 0, 1) := by decide +kernel
theorem dX11_init_49 : decode cX11_init 49 = .ok (.iconst 4, 1) := by decide +kernel
theorem dX11_init_50 : decode cX11_init 50 = .ok (.newarray .int, 2) := by decide +kernel
theorem dX11_init_52 : decode cX11_init 52 = .ok (.putfield 29, 3) := by decide +kernel
theorem dX11_init_55 : decode cX11_init 55 = .ok (.aload_n 0, 1) := by decide +kernel
theorem dX11_init_56 : decode cX11_init 56 = .ok (.iconst 4, 1) := by decide +kernel
theorem dX11_init_57 : decode cX11_init 57 = .ok (.newarray .int, 2) := by decide +kernel
theorem dX11_init_59 : decode cX11_init 59 = .ok (.putfield 32, 3) := by decide +kernel
theorem dX11_init_62 : decode cX11_init 62 = .ok (.aload_n 0, 1) := by decide +kernel
theorem dX11_init_63 : decode cX11_init 63 = .ok (.sipush 6400, 3) := by decide +kernel
theorem dX11_init_66 : decode cX11_init 66 = .ok (.newarray .int, 2) := by decide +kernel
theorem dX11_init_68 : decode cX11_init 68 = .ok (.putfield 35, 3) := by decide +kernel
theorem dX11_init_71 : decode cX11_init 71 = .ok (.aload_n 0, 1) := by decide +kernel
theorem dX11_init_72 : decode cX11_init 72 = .ok (.sipush 384, 3) := by decide +kernel
theorem dX11_init_75 : decode cX11_init 75 = .ok (.newarray .int, 2) := by decide +kernel
theorem dX11_init_77 : decode cX11_init 77 = .ok (.putfield 38, 3) := by decide +kernel
theorem dX11_init_80 : decode cX11_init 80 = .ok (.aload_n 0, 1) := by decide +kernel
theorem dX11_init_81 : decode cX11_init 81 = .ok (.iconst 4, 1) := by decide +kernel
theorem dX11_init_82 : decode cX11_init 82 = .ok (.newarray .int, 2) := by decide +kernel
theorem dX11_init_84 : decode cX11_init 84 = .ok (.putfield 41, 3) := by decide +kernel
theorem dX11_init_87 : decode cX11_init 87 = .ok (.aload_n 0, 1) := by decide +kernel
theorem dX11_init_88 : decode cX11_init 88 = .ok (.iconst 4, 1) := by decide +kernel
theorem dX11_init_89 : decode cX11_init 89 = .ok (.newarray .int, 2) := by decide +kernel
theorem dX11_init_91 : decode cX11_init 91 = .ok (.putfield 44, 3) := by decide +kernel
theorem dX11_init_94 : decode cX11_init 94 = .ok (.aload_n 0, 1) := by decide +kernel
theorem dX11_init_95 : decode cX11_init 95 = .ok (.bipush 8, 2) := by decide +kernel
theorem dX11_init_97 : decode cX11_init 97 = .ok (.newarray .int, 2) := by decide +kernel
theorem dX11_init_99 : decode cX11_init 99 = .ok (.putfield 47, 3) := by decide +kernel
theorem dX11_init_102 : decode cX11_init 102 = .ok (.aload_n 0, 1) := by decide +kernel
theorem dX11_init_103 : decode cX11_init 103 = .ok (.iconst 4, 1) := by decide +kernel
theorem dX11_init_104 : decode cX11_init 104 = .ok (.newarray .int, 2) := by decide +kernel
theorem dX11_init_106 : decode cX11_init 106 = .ok (.putfield 50, 3) := by decide +kernel
theorem dX11_init_109 : decode cX11_init 109 = .ok (.aload_n 0, 1) := by decide +kernel
theorem dX11_init_110 : decode cX11_init 110 = .ok (.bipush 8, 2) := by decide +kernel
theorem dX11_init_112 : decode cX11_init 112 = .ok (.newarray .int, 2) := by decide +kernel
theorem dX11_init_114 : decode cX11_init 114 = .ok (.putfield 53, 3) := by decide +kernel
theorem dX11_init_117 : decode cX11_init 117 = .ok (.aload_n 0, 1) := by decide +kernel
theorem dX11_init_118 : decode cX11_init 118 = .ok (.sipush 128, 3) := by decide +kernel
theorem dX11_init_121 : decode cX11_init 121 = .ok (.newarray .int, 2) := by decide +kernel
theorem dX11_init_123 : decode cX11_init 123 = .ok (.putfield 56, 3) := by decide +kernel
theorem dX11_init_126 : decode cX11_init 126 = .ok (.aload_n 0, 1) := by decide +kernel
theorem dX11_init_127 : decode cX11_init 127 = .ok (.sipush 512, 3) := by decide +kernel
theorem dX11_init_130 : decode cX11_init 130 = .ok (.newarray .int, 2) := by decide +kernel
theorem dX11_init_132 : decode cX11_init 132 = .ok (.putfield 59, 3) := by decide +kernel
theorem dX11_init_135 : decode cX11_init 135 = .ok (.aload_n 0, 1) := by decide +kernel
theorem dX11_init_136 : decode cX11_init 136 = .ok (.sipush 512, 3) := by decide +kernel
theorem dX11_init_139 : decode cX11_init 139 = .ok (.newarray .int, 2) := by decide +kernel
theorem dX11_init_141 : decode cX11_init 141 = .ok (.putfield 62, 3) := by decide +kernel
theorem dX11_init_144 : decode cX11_init 144 = .ok (.aload_n 0, 1) := by decide +kernel
theorem dX11_init_145 : decode cX11_init 145 = .ok (.sipush 512, 3) := by decide +kernel
theorem dX11_init_148 : decode cX11_init 148 = .ok (.newarray .int, 2) := by decide +kernel
theorem dX11_init_150 : decode cX11_init 150 = .ok (.putfield 65, 3) := by decide +kernel
theorem dX11_init_153 : decode cX11_init 153 = .ok (.aload_n 0, 1) := by decide +kernel
theorem dX11_init_154 : decode cX11_init 154 = .ok (.sipush 128, 3) := by decide +kernel
theorem dX11_init_157 : decode cX11_init 157 = .ok (.newarray .int, 2) := by decide +kernel
theorem dX11_init_159 : decode cX11_init 159 = .ok (.putfield 68, 3) := by decide +kernel
theorem dX11_init_162 : decode cX11_init 162 = .ok (.aload_n 0, 1) := by decide +kernel
theorem dX11_init_163 : decode cX11_init 163 = .ok (.sipush 128, 3) := by decide +kernel
theorem dX11_init_166 : decode cX11_init 166 = .ok (.newarray .int, 2) := by decide +kernel
theorem dX11_init_168 : decode cX11_init 168 = .ok (.putfield 71, 3) := by decide +kernel
theorem dX11_init_171 : decode cX11_init 171 = .ok (.aload_n 0, 1) := by decide +kernel
theorem dX11_init_172 : decode cX11_init 172 = .ok (.sipush 128, 3) := by decide +kernel
theorem dX11_init_175 : decode cX11_init 175 = .ok (.newarray .int, 2) := by decide +kernel
theorem dX11_init_177 : decode cX11_init 177 = .ok (.putfield 74, 3) := by decide +kernel
theorem dX11_init_180 : decode cX11_init 180 = .ok (.aload_n 0, 1) := by decide +kernel
theorem dX11_init_181 : decode cX11_init 181 = .ok (.bipush 17, 2) := by decide +kernel
theorem dX11_init_183 : decode cX11_init 183 = .ok (.newarray .int, 2) := by decide +kernel
theorem dX11_init_185 : decode cX11_init 185 = .ok (.putfield 77, 3) := by decide +kernel
theorem dX11_init_188 : decode cX11_init 188 = .ok (.aload_n 0, 1) := by decide +kernel
theorem dX11_init_189 : decode cX11_init 189 = .ok (.bipush 64, 2) := by decide +kernel
theorem dX11_init_191 : decode cX11_init 191 = .ok (.newarray .int, 2) := by decide +kernel
theorem dX11_init_193 : decode cX11_init 193 = .ok (.putfield 80, 3) := by decide +kernel
theorem dX11_init_196 : decode cX11_init 196 = .ok (.aload_n 0, 1) := by decide +kernel
theorem dX11_init_197 : decode cX11_init 197 = .ok (.bipush 64, 2) := by decide +kernel
theorem dX11_init_199 : decode cX11_init 199 = .ok (.newarray .int, 2) := by decide +kernel
theorem dX11_init_201 : decode cX11_init 201 = .ok (.putfield 83, 3) := by decide +kernel
theorem dX11_init_204 : decode cX11_init 204 = .ok (.aload_n 0, 1) := by decide +kernel
theorem dX11_init_205 : decode cX11_init 205 = .ok (.bipush 64, 2) := by decide +kernel
theorem dX11_init_207 : decode cX11_init 207 = .ok (.newarray .int, 2) := by decide +kernel
theorem dX11_init_209 : decode cX11_init 209 = .ok (.putfield 86, 3) := by decide +kernel
theorem dX11_init_212 : decode cX11_init 212 = .ok (.aload_n 0, 1) := by decide +kernel
theorem dX11_init_213 : decode cX11_init 213 = .ok (.bipush 17, 2) := by decide +kernel
theorem dX11_init_215 : decode cX11_init 215 = .ok (.newarray .int, 2) := by decide +kernel
theorem dX11_init_217 : decode cX11_init 217 = .ok (.putfield 89, 3) := by decide +kernel
theorem dX11_init_220 : decode cX11_init 220 = .ok (.aload_n 0, 1) := by decide +kernel
theorem dX11_init_221 : decode cX11_init 221 = .ok (.bipush 17, 2) := by decide +kernel
theorem dX11_init_223 : decode cX11_init 223 = .ok (.newarray .int, 2) := by decide +kernel
theorem dX11_init_225 : decode cX11_init 225 = .ok (.putfield 92, 3) := by decide +kernel
theorem dX11_init_228 : decode cX11_init 228 = .ok (.aload_n 0, 1) := by decide +kernel
theorem dX11_init_229 : decode cX11_init 229 = .ok (.bipush 17, 2) := by decide +kernel
theorem dX11_init_231 : decode cX11_init 231 = .ok (.newarray .int, 2) := by decide +kernel
theorem dX11_init_233 : decode cX11_init 233 = .ok (.putfield 95, 3) := by decide +kernel
theorem dX11_init_236 : decode cX11_init 236 = .ok (.aload_n 0, 1) := by decide +kernel
theorem dX11_init_237 : decode cX11_init 237 = .ok (.bipush 8, 2) := by decide +kernel
theorem dX11_init_239 : decode cX11_init 239 = .ok (.newarray .int, 2) := by decide +kernel
theorem dX11_init_241 : decode cX11_init 241 = .ok (.putfield 98, 3) := by decide +kernel
theorem dX11_init_244 : decode cX11_init 244 = .ok (.aload_n 0, 1) := by decide +kernel
theorem dX11_init_245 : decode cX11_init 245 = .ok (.bipush 32, 2) := by decide +kernel
theorem dX11_init_247 : decode cX11_init 247 = .ok (.newarray .boolean, 2) := by decide +kernel
theorem dX11_init_249 : decode cX11_init 249 = .ok (.putfield 101, 3) := by decide +kernel
theorem dX11_init_252 : decode cX11_init 252 = .ok (.aload_n 0, 1) := by decide +kernel
theorem dX11_init_253 : decode cX11_init 253 = .ok (.sipush 352, 3) := by decide +kernel
theorem dX11_init_256 : decode cX11_init 256 = .ok (.newarray .int, 2) := by decide +kernel
theorem dX11_init_258 : decode cX11_init 258 = .ok (.putfield 105, 3) := by decide +kernel
theorem dX11_init_261 : decode cX11_init 261 = .ok (.aload_n 0, 1) := by decide +kernel
theorem dX11_init_262 : decode cX11_init 262 = .ok (.bipush 32, 2) := by decide +kernel
theorem dX11_init_264 : decode cX11_init 264 = .ok (.newarray .int, 2) := by decide +kernel
theorem dX11_init_266 : decode cX11_init 266 = .ok (.putfield 108, 3) := by decide +kernel
theorem dX11_init_269 : decode cX11_init 269 = .ok (.aload_n 0, 1) := by decide +kernel
theorem dX11_init_270 : decode cX11_init 270 = .ok (.bipush 32, 2) := by decide +kernel
theorem dX11_init_272 : decode cX11_init 272 = .ok (.newarray .int, 2) := by decide +kernel
theorem dX11_init_274 : decode cX11_init 274 = .ok (.putfield 111, 3) := by decide +kernel
theorem dX11_init_277 : decode cX11_init 277 = .ok (.aload_n 0, 1) := by decide +kernel
theorem dX11_init_278 : decode cX11_init 278 = .ok (.bipush 32, 2) := by decide +kernel
theorem dX11_init_280 : decode cX11_init 280 = .ok (.newarray .boolean, 2) := by decide +kernel
theorem dX11_init_282 : decode cX11_init 282 = .ok (.putfield 114, 3) := by decide +kernel
theorem dX11_init_285 : decode cX11_init 285 = .ok (.aload_n 0, 1) := by decide +kernel
theorem dX11_init_286 : decode cX11_init 286 = .ok (.sipush 301, 3) := by decide +kernel
theorem dX11_init_289 : decode cX11_init 289 = .ok (.newarray .int, 2) := by decide +kernel
theorem dX11_init_291 : decode cX11_init 291 = .ok (.putfield 117, 3) := by decide +kernel
theorem dX11_init_294 : decode cX11_init 294 = .ok (.aload_n 0, 1) := by decide +kernel
theorem dX11_init_295 : decode cX11_init 295 = .ok (.bipush 33, 2) := by decide +kernel
theorem dX11_init_297 : decode cX11_init 297 = .ok (.newarray .long, 2) := by decide +kernel
theorem dX11_init_299 : decode cX11_init 299 = .ok (.putfield 120, 3) := by decide +kernel
theorem dX11_init_302 : decode cX11_init 302 = .ok (.aload_n 0, 1) := by decide +kernel
theorem dX11_init_303 : decode cX11_init 303 = .ok (.bipush 32, 2) := by decide +kernel
theorem dX11_init_305 : decode cX11_init 305 = .ok (.newarray .boolean, 2) := by decide +kernel
theorem dX11_init_307 : decode cX11_init 307 = .ok (.putfield 124, 3) := by decide +kernel
theorem dX11_init_310 : decode cX11_init 310 = .ok (.aload_n 0, 1) := by decide +kernel
theorem dX11_init_311 : decode cX11_init 311 = .ok (.iconst 3, 1) := by decide +kernel
theorem dX11_init_312 : decode cX11_init 312 = .ok (.newarray .boolean, 2) := by decide +kernel
theorem dX11_init_314 : decode cX11_init 314 = .ok (.putfield 127, 3) := by decide +kernel
theorem dX11_init_317 : decode cX11_init 317 = .ok (.aload_n 0, 1) := by decide +kernel
theorem dX11_init_318 : decode cX11_init 318 = .ok (.getfield 20, 3) := by decide +kernel
theorem dX11_init_321 : decode cX11_init 321 = .ok (.iconst 0, 1) := by decide +kernel
theorem dX11_init_322 : decode cX11_init 322 = .ok (.iconst (-1), 1) := by decide +kernel
theorem dX11_init_323 : decode cX11_init 323 = .ok (.iastore, 1) := by decide +kernel
theorem dX11_init_324 : decode cX11_init 324 = .ok (.aload_n 0, 1) := by decide +kernel
theorem dX11_init_325 : decode cX11_init 325 = .ok (.getfield 29, 3) := by decide +kernel
theorem dX11_init_328 : decode cX11_init 328 = .ok (.iconst 0, 1) := by decide +kernel
theorem dX11_init_329 : decode cX11_init 329 = .ok (.iconst (-1), 1) := by decide +kernel
theorem dX11_init_330 : decode cX11_init 330 = .ok (.iastore, 1) := by decide +kernel
theorem dX11_init_331 : decode cX11_init 331 = .ok (.aload_n 0, 1) := by decide +kernel
theorem dX11_init_332 : decode cX11_init 332 = .ok (.getfield 41, 3) := by decide +kernel
theorem dX11_init_335 : decode cX11_init 335 = .ok (.iconst 0, 1) := by decide +kernel
theorem dX11_init_336 : decode cX11_init 336 = .ok (.bipush 63, 2) := by decide +kernel
theorem dX11_init_338 : decode cX11_init 338 = .ok (.iastore, 1) := by decide +kernel
theorem dX11_init_339 : decode cX11_init 339 = .ok (.aload_n 0, 1) := by decide +kernel
theorem dX11_init_340 : decode cX11_init 340 = .ok (.getfield 44, 3) := by decide +kernel
theorem dX11_init_343 : decode cX11_init 343 = .ok (.iconst 0, 1) := by decide +kernel
theorem dX11_init_344 : decode cX11_init 344 = .ok (.bipush 31, 2) := by decide +kernel
theorem dX11_init_346 : decode cX11_init 346 = .ok (.iastore, 1) := by decide +kernel
theorem dX11_init_347 : decode cX11_init 347 = .ok (.aload_n 0, 1) := by decide +kernel
theorem dX11_init_348 : decode cX11_init 348 = .ok (.getfield 47, 3) := by decide +kernel
theorem dX11_init_351 : decode cX11_init 351 = .ok (.iconst 0, 1) := by decide +kernel
theorem dX11_init_352 : decode cX11_init 352 = .ok (.sipush (-3000), 3) := by decide +kernel
theorem dX11_init_355 : decode cX11_init 355 = .ok (.iastore, 1) := by decide +kernel
theorem dX11_init_356 : decode cX11_init 356 = .ok (.aload_n 0, 1) := by decide +kernel
theorem dX11_init_357 : decode cX11_init 357 = .ok (.getfield 47, 3) := by decide +kernel
theorem dX11_init_360 : decode cX11_init 360 = .ok (.iconst 1, 1) := by decide +kernel
theorem dX11_init_361 : decode cX11_init 361 = .ok (.sipush 1900, 3) := by decide +kernel
theorem dX11_init_364 : decode cX11_init 364 = .ok (.iastore, 1) := by decide +kernel
theorem dX11_init_365 : decode cX11_init 365 = .ok (.return_, 1) := by decide +kernel
theorem dX11_is_0 : decode cX11_is 0 = .ok (.iload_n 0, 1) := by decide +kernel
theorem dX11_is_1 : decode cX11_is 1 = .ok (.iload_n 1, 1) := by decide +kernel
theorem dX11_is_2 : decode cX11_is 2 = .ok (.if_icmp .lt 12, 3) := by decide +kernel
theorem dX11_is_5 : decode cX11_is 5 = .ok (.iload_n 0, 1) := by decide +kernel
theorem dX11_is_6 : decode cX11_is 6 = .ok (.iload_n 2, 1) := by decide +kernel
theorem dX11_is_7 : decode cX11_is 7 = .ok (.if_icmp .gt 7, 3) := by decide +kernel
theorem dX11_is_10 : decode cX11_is 10 = .ok (.iconst 1, 1) := by decide +kernel
theorem dX11_is_11 : decode cX11_is 11 = .ok (.goto 4, 3) := by decide +kernel
theorem dX11_is_14 : decode cX11_is 14 = .ok (.iconst 0, 1) := by decide +kernel
theorem dX11_is_15 : decode cX11_is 15 = .ok (.ireturn, 1) := by decide +kernel
theorem dX11_move_0 : decode cX11_move 0 = .ok (.iconst 0, 1) := by decide +kernel
theorem dX11_move_1 : decode cX11_move 1 = .ok (.istore 4, 2) := by decide +kernel
theorem dX11_move_3 : decode cX11_move 3 = .ok (.iload 4, 2) := by decide +kernel
theorem dX11_move_5 : decode cX11_move 5 = .ok (.iload_n 1, 1) := by decide +kernel
theorem dX11_move_6 : decode cX11_move 6 = .ok (.if_icmp .ge 25, 3) := by decide +kernel
theorem dX11_move_9 : decode cX11_move 9 = .ok (.aload_n 0, 1) := by decide +kernel
theorem dX11_move_10 : decode cX11_move 10 = .ok (.iload_n 1, 1) := by decide +kernel
theorem dX11_move_11 : decode cX11_move 11 = .ok (.iload_n 3, 1) := by decide +kernel
theorem dX11_move_12 : decode cX11_move 12 = .ok (.imul, 1) := by decide +kernel
theorem dX11_move_13 : decode cX11_move 13 = .ok (.iload 4, 2) := by decide +kernel
theorem dX11_move_15 : decode cX11_move 15 = .ok (.iadd, 1) := by decide +kernel
theorem dX11_move_16 : decode cX11_move 16 = .ok (.aload_n 0, 1) := by decide +kernel
theorem dX11_move_17 : decode cX11_move 17 = .ok (.iload_n 1, 1) := by decide +kernel
theorem dX11_move_18 : decode cX11_move 18 = .ok (.iload_n 2, 1) := by decide +kernel
theorem dX11_move_19 : decode cX11_move 19 = .ok (.imul, 1) := by decide +kernel
theorem dX11_move_20 : decode cX11_move 20 = .ok (.iload 4, 2) := by decide +kernel
theorem dX11_move_22 : decode cX11_move 22 = .ok (.iadd, 1) := by decide +kernel
theorem dX11_move_23 : decode cX11_move 23 = .ok (.iaload, 1) := by decide +kernel
theorem dX11_move_24 : decode cX11_move 24 = .ok (.iastore, 1) := by decide +kernel
theorem dX11_move_25 : decode cX11_move 25 = .ok (.iinc 4 1, 3) := by decide +kernel
theorem dX11_move_28 : decode cX11_move 28 = .ok (.goto (-25), 3) := by decide +kernel
theorem dX11_move_31 : decode cX11_move 31 = .ok (.return_, 1) := by decide +kernel
theorem dX11_copy_0 : decode cX11_copy 0 = .ok (.iconst 0, 1) := by decide +kernel
theorem dX11_copy_1 : decode cX11_copy 1 = .ok (.istore_n 3, 1) := by decide +kernel
theorem dX11_copy_2 : decode cX11_copy 2 = .ok (.iload_n 3, 1) := by decide +kernel
theorem dX11_copy_3 : decode cX11_copy 3 = .ok (.sipush 500, 3) := by decide +kernel
theorem dX11_copy_6 : decode cX11_copy 6 = .ok (.if_icmp .ge 33, 3) := by decide +kernel
theorem dX11_copy_9 : decode cX11_copy 9 = .ok (.aload_n 0, 1) := by decide +kernel
theorem dX11_copy_10 : decode cX11_copy 10 = .ok (.getfield 7, 3) := by decide +kernel
theorem dX11_copy_13 : decode cX11_copy 13 = .ok (.sipush 500, 3) := by decide +kernel
theorem dX11_copy_16 : decode cX11_copy 16 = .ok (.iload_n 2, 1) := by decide +kernel
theorem dX11_copy_17 : decode cX11_copy 17 = .ok (.imul, 1) := by decide +kernel
theorem dX11_copy_18 : decode cX11_copy 18 = .ok (.iload_n 3, 1) := by decide +kernel
theorem dX11_copy_19 : decode cX11_copy 19 = .ok (.iadd, 1) := by decide +kernel
theorem dX11_copy_20 : decode cX11_copy 20 = .ok (.aload_n 0, 1) := by decide +kernel
theorem dX11_copy_21 : decode cX11_copy 21 = .ok (.getfield 7, 3) := by decide +kernel
theorem dX11_copy_24 : decode cX11_copy 24 = .ok (.sipush 500, 3) := by decide +kernel
theorem dX11_copy_27 : decode cX11_copy 27 = .ok (.iload_n 1, 1) := by decide +kernel
theorem dX11_copy_28 : decode cX11_copy 28 = .ok (.imul, 1) := by decide +kernel
theorem dX11_copy_29 : decode cX11_copy 29 = .ok (.iload_n 3, 1) := by decide +kernel
theorem dX11_copy_30 : decode cX11_copy 30 = .ok (.iadd, 1) := by decide +kernel
theorem dX11_copy_31 : decode cX11_copy 31 = .ok (.baload, 1) := by decide +kernel
theorem dX11_copy_32 : decode cX11_copy 32 = .ok (.bastore, 1) := by decide +kernel
theorem dX11_copy_33 : decode cX11_copy 33 = .ok (.iinc 3 1, 3) := by decide +kernel
theorem dX11_copy_36 : decode cX11_copy 36 = .ok (.goto (-34), 3) := by decide +kernel
theorem dX11_copy_39 : decode cX11_copy 39 = .ok (.aload_n 0, 1) := by decide +kernel
theorem dX11_copy_40 : decode cX11_copy 40 = .ok (.getfield 13, 3) := by decide +kernel
theorem dX11_copy_43 : decode cX11_copy 43 = .ok (.iconst 1, 1) := by decide +kernel
theorem dX11_copy_44 : decode cX11_copy 44 = .ok (.iload_n 1, 1) := by decide +kernel
theorem dX11_copy_45 : decode cX11_copy 45 = .ok (.iload_n 2, 1) := by decide +kernel
theorem dX11_copy_46 : decode cX11_copy 46 = .ok (.invokestatic 134, 3) := by decide +kernel
theorem dX11_copy_49 : decode cX11_copy 49 = .ok (.aload_n 0, 1) := by decide +kernel
theorem dX11_copy_50 : decode cX11_copy 50 = .ok (.getfield 17, 3) := by decide +kernel
theorem dX11_copy_53 : decode cX11_copy 53 = .ok (.iconst 1, 1) := by decide +kernel
theorem dX11_copy_54 : decode cX11_copy 54 = .ok (.iload_n 1, 1) := by decide +kernel
theorem dX11_copy_55 : decode cX11_copy 55 = .ok (.iload_n 2, 1) := by decide +kernel
theorem dX11_copy_56 : decode cX11_copy 56 = .ok (.invokestatic 134, 3) := by decide +kernel
theorem dX11_copy_59 : decode cX11_copy 59 = .ok (.aload_n 0, 1) := by decide +kernel
theorem dX11_copy_60 : decode cX11_copy 60 = .ok (.getfield 20, 3) := by decide +kernel
theorem dX11_copy_63 : decode cX11_copy 63 = .ok (.iconst 1, 1) := by decide +kernel
theorem dX11_copy_64 : decode cX11_copy 64 = .ok (.iload_n 1, 1) := by decide +kernel
theorem dX11_copy_65 : decode cX11_copy 65 = .ok (.iload_n 2, 1) := by decide +kernel
theorem dX11_copy_66 : decode cX11_copy 66 = .ok (.invokestatic 134, 3) := by decide +kernel
theorem dX11_copy_69 : decode cX11_copy 69 = .ok (.aload_n 0, 1) := by decide +kernel
theorem dX11_copy_70 : decode cX11_copy 70 = .ok (.getfield 23, 3) := by decide +kernel
theorem dX11_copy_73 : decode cX11_copy 73 = .ok (.iconst 1, 1) := by decide +kernel
theorem dX11_copy_74 : decode cX11_copy 74 = .ok (.iload_n 1, 1) := by decide +kernel
theorem dX11_copy_75 : decode cX11_copy 75 = .ok (.iload_n 2, 1) := by decide +kernel
theorem dX11_copy_76 : decode cX11_copy 76 = .ok (.invokestatic 134, 3) := by decide +kernel
theorem dX11_copy_79 : decode cX11_copy 79 = .ok (.aload_n 0, 1) := by decide +kernel
theorem dX11_copy_80 : decode cX11_copy 80 = .ok (.getfield 26, 3) := by decide +kernel
theorem dX11_copy_83 : decode cX11_copy 83 = .ok (.iconst 1, 1) := by decide +kernel
theorem dX11_copy_84 : decode cX11_copy 84 = .ok (.iload_n 1, 1) := by decide +kernel
theorem dX11_copy_85 : decode cX11_copy 85 = .ok (.iload_n 2, 1) := by decide +kernel
theorem dX11_copy_86 : decode cX11_copy 86 = .ok (.invokestatic 134, 3) := by decide +kernel
theorem dX11_copy_89 : decode cX11_copy 89 = .ok (.aload_n 0, 1) := by decide +kernel
theorem dX11_copy_90 : decode cX11_copy 90 = .ok (.getfield 29, 3) := by decide +kernel
theorem dX11_copy_93 : decode cX11_copy 93 = .ok (.iconst 1, 1) := by decide +kernel
theorem dX11_copy_94 : decode cX11_copy 94 = .ok (.iload_n 1, 1) := by decide +kernel
theorem dX11_copy_95 : decode cX11_copy 95 = .ok (.iload_n 2, 1) := by decide +kernel
theorem dX11_copy_96 : decode cX11_copy 96 = .ok (.invokestatic 134, 3) := by decide +kernel
theorem dX11_copy_99 : decode cX11_copy 99 = .ok (.aload_n 0, 1) := by decide +kernel
theorem dX11_copy_100 : decode cX11_copy 100 = .ok (.getfield 32, 3) := by decide +kernel
theorem dX11_copy_103 : decode cX11_copy 103 = .ok (.iconst 1, 1) := by decide +kernel
theorem dX11_copy_104 : decode cX11_copy 104 = .ok (.iload_n 1, 1) := by decide +kernel
theorem dX11_copy_105 : decode cX11_copy 105 = .ok (.iload_n 2, 1) := by decide +kernel
theorem dX11_copy_106 : decode cX11_copy 106 = .ok (.invokestatic 134, 3) := by decide +kernel
theorem dX11_copy_109 : decode cX11_copy 109 = .ok (.aload_n 0, 1) := by decide +kernel
theorem dX11_copy_110 : decode cX11_copy 110 = .ok (.getfield 35, 3) := by decide +kernel
theorem dX11_copy_113 : decode cX11_copy 113 = .ok (.sipush 1600, 3) := by decide +kernel
theorem dX11_copy_116 : decode cX11_copy 116 = .ok (.iload_n 1, 1) := by decide +kernel
theorem dX11_copy_117 : decode cX11_copy 117 = .ok (.iload_n 2, 1) := by decide +kernel
theorem dX11_copy_118 : decode cX11_copy 118 = .ok (.invokestatic 134, 3) := by decide +kernel
theorem dX11_copy_121 : decode cX11_copy 121 = .ok (.aload_n 0, 1) := by decide +kernel
theorem dX11_copy_122 : decode cX11_copy 122 = .ok (.getfield 38, 3) := by decide +kernel
theorem dX11_copy_125 : decode cX11_copy 125 = .ok (.bipush 96, 2) := by decide +kernel
theorem dX11_copy_127 : decode cX11_copy 127 = .ok (.iload_n 1, 1) := by decide +kernel
theorem dX11_copy_128 : decode cX11_copy 128 = .ok (.iload_n 2, 1) := by decide +kernel
theorem dX11_copy_129 : decode cX11_copy 129 = .ok (.invokestatic 134, 3) := by decide +kernel
theorem dX11_copy_132 : decode cX11_copy 132 = .ok (.aload_n 0, 1) := by decide +kernel
theorem dX11_copy_133 : decode cX11_copy 133 = .ok (.getfield 41, 3) := by decide +kernel
theorem dX11_copy_136 : decode cX11_copy 136 = .ok (.iconst 1, 1) := by decide +kernel
theorem dX11_copy_137 : decode cX11_copy 137 = .ok (.iload_n 1, 1) := by decide +kernel
theorem dX11_copy_138 : decode cX11_copy 138 = .ok (.iload_n 2, 1) := by decide +kernel
theorem dX11_copy_139 : decode cX11_copy 139 = .ok (.invokestatic 134, 3) := by decide +kernel
theorem dX11_copy_142 : decode cX11_copy 142 = .ok (.aload_n 0, 1) := by decide +kernel
theorem dX11_copy_143 : decode cX11_copy 143 = .ok (.getfield 44, 3) := by decide +kernel
theorem dX11_copy_146 : decode cX11_copy 146 = .ok (.iconst 1, 1) := by decide +kernel
theorem dX11_copy_147 : decode cX11_copy 147 = .ok (.iload_n 1, 1) := by decide +kernel
theorem dX11_copy_148 : decode cX11_copy 148 = .ok (.iload_n 2, 1) := by decide +kernel
theorem dX11_copy_149 : decode cX11_copy 149 = .ok (.invokestatic 134, 3) := by decide +kernel
theorem dX11_copy_152 : decode cX11_copy 152 = .ok (.aload_n 0, 1) := by decide +kernel
theorem dX11_copy_153 : decode cX11_copy 153 = .ok (.getfield 47, 3) := by decide +kernel
theorem dX11_copy_156 : decode cX11_copy 156 = .ok (.iconst 2, 1) := by decide +kernel
theorem dX11_copy_157 : decode cX11_copy 157 = .ok (.iload_n 1, 1) := by decide +kernel
theorem dX11_copy_158 : decode cX11_copy 158 = .ok (.iload_n 2, 1) := by decide +kernel
theorem dX11_copy_159 : decode cX11_copy 159 = .ok (.invokestatic 134, 3) := by decide +kernel
theorem dX11_copy_162 : decode cX11_copy 162 = .ok (.aload_n 0, 1) := by decide +kernel
theorem dX11_copy_163 : decode cX11_copy 163 = .ok (.getfield 50, 3) := by decide +kernel
theorem dX11_copy_166 : decode cX11_copy 166 = .ok (.iconst 1, 1) := by decide +kernel
theorem dX11_copy_167 : decode cX11_copy 167 = .ok (.iload_n 1, 1) := by decide +kernel
theorem dX11_copy_168 : decode cX11_copy 168 = .ok (.iload_n 2, 1) := by decide +kernel
theorem dX11_copy_169 : decode cX11_copy 169 = .ok (.invokestatic 134, 3) := by decide +kernel
theorem dX11_copy_172 : decode cX11_copy 172 = .ok (.aload_n 0, 1) := by decide +kernel
theorem dX11_copy_173 : decode cX11_copy 173 = .ok (.getfield 53, 3) := by decide +kernel
theorem dX11_copy_176 : decode cX11_copy 176 = .ok (.iconst 2, 1) := by decide +kernel
theorem dX11_copy_177 : decode cX11_copy 177 = .ok (.iload_n 1, 1) := by decide +kernel
theorem dX11_copy_178 : decode cX11_copy 178 = .ok (.iload_n 2, 1) := by decide +kernel
theorem dX11_copy_179 : decode cX11_copy 179 = .ok (.invokestatic 134, 3) := by decide +kernel
theorem dX11_copy_182 : decode cX11_copy 182 = .ok (.aload_n 0, 1) := by decide +kernel
theorem dX11_copy_183 : decode cX11_copy 183 = .ok (.getfield 56, 3) := by decide +kernel
theorem dX11_copy_186 : decode cX11_copy 186 = .ok (.bipush 32, 2) := by decide +kernel
theorem dX11_copy_188 : decode cX11_copy 188 = .ok (.iload_n 1, 1) := by decide +kernel
theorem dX11_copy_189 : decode cX11_copy 189 = .ok (.iload_n 2, 1) := by decide +kernel
theorem dX11_copy_190 : decode cX11_copy 190 = .ok (.invokestatic 134, 3) := by decide +kernel
theorem dX11_copy_193 : decode cX11_copy 193 = .ok (.aload_n 0, 1) := by decide +kernel
theorem dX11_copy_194 : decode cX11_copy 194 = .ok (.getfield 59, 3) := by decide +kernel
theorem dX11_copy_197 : decode cX11_copy 197 = .ok (.sipush 128, 3) := by decide +kernel
theorem dX11_copy_200 : decode cX11_copy 200 = .ok (.iload_n 1, 1) := by decide +kernel
theorem dX11_copy_201 : decode cX11_copy 201 = .ok (.iload_n 2, 1) := by decide +kernel
theorem dX11_copy_202 : decode cX11_copy 202 = .ok (.invokestatic 134, 3) := by decide +kernel
theorem dX11_copy_205 : decode cX11_copy 205 = .ok (.aload_n 0, 1) := by decide +kernel
theorem dX11_copy_206 : decode cX11_copy 206 = .ok (.getfield 62, 3) := by decide +kernel
theorem dX11_copy_209 : decode cX11_copy 209 = .ok (.sipush 128, 3) := by decide +kernel
theorem dX11_copy_212 : decode cX11_copy 212 = .ok (.iload_n 1, 1) := by decide +kernel
theorem dX11_copy_213 : decode cX11_copy 213 = .ok (.iload_n 2, 1) := by decide +kernel
theorem dX11_copy_214 : decode cX11_copy 214 = .ok (.invokestatic 134, 3) := by decide +kernel
theorem dX11_copy_217 : decode cX11_copy 217 = .ok (.aload_n 0, 1) := by decide +kernel
theorem dX11_copy_218 : decode cX11_copy 218 = .ok (.getfield 65, 3) := by decide +kernel
theorem dX11_copy_221 : decode cX11_copy 221 = .ok (.sipush 128, 3) := by decide +kernel
theorem dX11_copy_224 : decode cX11_copy 224 = .ok (.iload_n 1, 1) := by decide +kernel
theorem dX11_copy_225 : decode cX11_copy 225 = .ok (.iload_n 2, 1) := by decide +kernel
theorem dX11_copy_226 : decode cX11_copy 226 = .ok (.invokestatic 134, 3) := by decide +kernel
theorem dX11_copy_229 : decode cX11_copy 229 = .ok (.aload_n 0, 1) := by decide +kernel
theorem dX11_copy_230 : decode cX11_copy 230 = .ok (.getfield 68, 3) := by decide +kernel
theorem dX11_copy_233 : decode cX11_copy 233 = .ok (.bipush 32, 2) := by decide +kernel
theorem dX11_copy_235 : decode cX11_copy 235 = .ok (.iload_n 1, 1) := by decide +kernel
theorem dX11_copy_236 : decode cX11_copy 236 = .ok (.iload_n 2, 1) := by decide +kernel
theorem dX11_copy_237 : decode cX11_copy 237 = .ok (.invokestatic 134, 3) := by decide +kernel
theorem dX11_copy_240 : decode cX11_copy 240 = .ok (.aload_n 0, 1) := by decide +kernel
theorem dX11_copy_241 : decode cX11_copy 241 = .ok (.getfield 71, 3) := by decide +kernel
theorem dX11_copy_244 : decode cX11_copy 244 = .ok (.bipush 32, 2) := by decide +kernel
theorem dX11_copy_246 : decode cX11_copy 246 = .ok (.iload_n 1, 1) := by decide +kernel
theorem dX11_copy_247 : decode cX11_copy 247 = .ok (.iload_n 2, 1) := by decide +kernel
theorem dX11_copy_248 : decode cX11_copy 248 = .ok (.invokestatic 134, 3) := by decide +kernel
theorem dX11_copy_251 : decode cX11_copy 251 = .ok (.aload_n 0, 1) := by decide +kernel
