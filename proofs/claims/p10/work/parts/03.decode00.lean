theorem dX0_init_0 : decode cX0_init 0 = .ok (.aload_n 0, 1) := by decide +kernel
theorem dX0_init_1 : decode cX0_init 1 = .ok (.invokespecial 3, 3) := by decide +kernel
theorem dX0_init_4 : decode cX0_init 4 = .ok (.aload_n 0, 1) := by decide +kernel
theorem dX0_init_5 : decode cX0_init 5 = .ok (.sipush 352, 3) := by decide +kernel
theorem dX0_init_8 : decode cX0_init 8 = .ok (.newarray .int, 2) := by decide +kernel
theorem dX0_init_10 : decode cX0_init 10 = .ok (.putfield 9, 3) := by decide +kernel
theorem dX0_init_13 : decode cX0_init 13 = .ok (.aload_n 0, 1) := by decide +kernel
theorem dX0_init_14 : decode cX0_init 14 = .ok (.sipush 352, 3) := by decide +kernel
theorem dX0_init_17 : decode cX0_init 17 = .ok (.newarray .int, 2) := by decide +kernel
theorem dX0_init_19 : decode cX0_init 19 = .ok (.putfield 15, 3) := by decide +kernel
theorem dX0_init_22 : decode cX0_init 22 = .ok (.aload_n 0, 1) := by decide +kernel
theorem dX0_init_23 : decode cX0_init 23 = .ok (.bipush 32, 2) := by decide +kernel
theorem dX0_init_25 : decode cX0_init 25 = .ok (.newarray .int, 2) := by decide +kernel
theorem dX0_init_27 : decode cX0_init 27 = .ok (.putfield 18, 3) := by decide +kernel
theorem dX0_init_30 : decode cX0_init 30 = .ok (.aload_n 0, 1) := by decide +kernel
theorem dX0_init_31 : decode cX0_init 31 = .ok (.bipush 32, 2) := by decide +kernel
theorem dX0_init_33 : decode cX0_init 33 = .ok (.newarray .int, 2) := by decide +kernel
theorem dX0_init_35 : decode cX0_init 35 = .ok (.putfield 21, 3) := by decide +kernel
theorem dX0_init_38 : decode cX0_init 38 = .ok (.aload_n 0, 1) := by decide +kernel
theorem dX0_init_39 : decode cX0_init 39 = .ok (.sipush 400, 3) := by decide +kernel
theorem dX0_init_42 : decode cX0_init 42 = .ok (.newarray .int, 2) := by decide +kernel
theorem dX0_init_44 : decode cX0_init 44 = .ok (.putfield 24, 3) := by decide +kernel
theorem dX0_init_47 : decode cX0_init 47 = .ok (.aload_n 0, 1) := by decide +kernel
theorem dX0_init_48 : decode cX0_init 48 = .ok (.sipush 400, 3) := by decide +kernel
theorem dX0_init_51 : decode cX0_init 51 = .ok (.newarray .int, 2) := by decide +kernel
theorem dX0_init_53 : decode cX0_init 53 = .ok (.putfield 27, 3) := by decide +kernel
theorem dX0_init_56 : decode cX0_init 56 = .ok (.aload_n 0, 1) := by decide +kernel
theorem dX0_init_57 : decode cX0_init 57 = .ok (.sipush 400, 3) := by decide +kernel
theorem dX0_init_60 : decode cX0_init 60 = .ok (.newarray .int, 2) := by decide +kernel
theorem dX0_init_62 : decode cX0_init 62 = .ok (.putfield 30, 3) := by decide +kernel
theorem dX0_init_65 : decode cX0_init 65 = .ok (.aload_n 0, 1) := by decide +kernel
theorem dX0_init_66 : decode cX0_init 66 = .ok (.sipush 400, 3) := by decide +kernel
theorem dX0_init_69 : decode cX0_init 69 = .ok (.newarray .int, 2) := by decide +kernel
theorem dX0_init_71 : decode cX0_init 71 = .ok (.putfield 33, 3) := by decide +kernel
theorem dX0_init_74 : decode cX0_init 74 = .ok (.aload_n 0, 1) := by decide +kernel
theorem dX0_init_75 : decode cX0_init 75 = .ok (.iconst 0, 1) := by decide +kernel
theorem dX0_init_76 : decode cX0_init 76 = .ok (.putfield 36, 3) := by decide +kernel
theorem dX0_init_79 : decode cX0_init 79 = .ok (.aload_n 0, 1) := by decide +kernel
theorem dX0_init_80 : decode cX0_init 80 = .ok (.iconst 0, 1) := by decide +kernel
theorem dX0_init_81 : decode cX0_init 81 = .ok (.putfield 40, 3) := by decide +kernel
theorem dX0_init_84 : decode cX0_init 84 = .ok (.aload_n 0, 1) := by decide +kernel
theorem dX0_init_85 : decode cX0_init 85 = .ok (.iconst 0, 1) := by decide +kernel
theorem dX0_init_86 : decode cX0_init 86 = .ok (.putfield 43, 3) := by decide +kernel
theorem dX0_init_89 : decode cX0_init 89 = .ok (.aload_n 0, 1) := by decide +kernel
theorem dX0_init_90 : decode cX0_init 90 = .ok (.iconst 0, 1) := by decide +kernel
theorem dX0_init_91 : decode cX0_init 91 = .ok (.putfield 46, 3) := by decide +kernel
theorem dX0_init_94 : decode cX0_init 94 = .ok (.aload_n 0, 1) := by decide +kernel
theorem dX0_init_95 : decode cX0_init 95 = .ok (.iconst (-1), 1) := by decide +kernel
theorem dX0_init_96 : decode cX0_init 96 = .ok (.putfield 49, 3) := by decide +kernel
theorem dX0_init_99 : decode cX0_init 99 = .ok (.return_, 1) := by decide +kernel
theorem dX0_list_0 : decode cX0_list 0 = .ok (.aload_n 0, 1) := by decide +kernel
theorem dX0_list_1 : decode cX0_list 1 = .ok (.getfield 36, 3) := by decide +kernel
theorem dX0_list_4 : decode cX0_list 4 = .ok (.bipush 32, 2) := by decide +kernel
theorem dX0_list_6 : decode cX0_list 6 = .ok (.if_icmp .ge 37, 3) := by decide +kernel
theorem dX0_list_9 : decode cX0_list 9 = .ok (.aload_n 0, 1) := by decide +kernel
theorem dX0_list_10 : decode cX0_list 10 = .ok (.getfield 43, 3) := by decide +kernel
theorem dX0_list_13 : decode cX0_list 13 = .ok (.sipush 400, 3) := by decide +kernel
theorem dX0_list_16 : decode cX0_list 16 = .ok (.if_icmp .ge 27, 3) := by decide +kernel
theorem dX0_list_19 : decode cX0_list 19 = .ok (.iconst 0, 1) := by decide +kernel
theorem dX0_list_20 : decode cX0_list 20 = .ok (.iload_n 1, 1) := by decide +kernel
theorem dX0_list_21 : decode cX0_list 21 = .ok (.invokestatic 52, 3) := by decide +kernel
theorem dX0_list_24 : decode cX0_list 24 = .ok (.ifCond .eq 19, 3) := by decide +kernel
theorem dX0_list_27 : decode cX0_list 27 = .ok (.iconst 1, 1) := by decide +kernel
theorem dX0_list_28 : decode cX0_list 28 = .ok (.iload_n 2, 1) := by decide +kernel
theorem dX0_list_29 : decode cX0_list 29 = .ok (.invokestatic 52, 3) := by decide +kernel
theorem dX0_list_32 : decode cX0_list 32 = .ok (.ifCond .eq 11, 3) := by decide +kernel
theorem dX0_list_35 : decode cX0_list 35 = .ok (.iconst 4, 1) := by decide +kernel
theorem dX0_list_36 : decode cX0_list 36 = .ok (.iload_n 3, 1) := by decide +kernel
theorem dX0_list_37 : decode cX0_list 37 = .ok (.invokestatic 52, 3) := by decide +kernel
theorem dX0_list_40 : decode cX0_list 40 = .ok (.ifCond .ne 5, 3) := by decide +kernel
theorem dX0_list_43 : decode cX0_list 43 = .ok (.iconst (-1), 1) := by decide +kernel
theorem dX0_list_44 : decode cX0_list 44 = .ok (.ireturn, 1) := by decide +kernel
theorem dX0_list_45 : decode cX0_list 45 = .ok (.aload_n 0, 1) := by decide +kernel
theorem dX0_list_46 : decode cX0_list 46 = .ok (.getfield 36, 3) := by decide +kernel
theorem dX0_list_49 : decode cX0_list 49 = .ok (.istore 4, 2) := by decide +kernel
theorem dX0_list_51 : decode cX0_list 51 = .ok (.aload_n 0, 1) := by decide +kernel
theorem dX0_list_52 : decode cX0_list 52 = .ok (.dup, 1) := by decide +kernel
theorem dX0_list_53 : decode cX0_list 53 = .ok (.getfield 36, 3) := by decide +kernel
theorem dX0_list_56 : decode cX0_list 56 = .ok (.iconst 1, 1) := by decide +kernel
theorem dX0_list_57 : decode cX0_list 57 = .ok (.iadd, 1) := by decide +kernel
theorem dX0_list_58 : decode cX0_list 58 = .ok (.putfield 36, 3) := by decide +kernel
theorem dX0_list_61 : decode cX0_list 61 = .ok (.aload_n 0, 1) := by decide +kernel
theorem dX0_list_62 : decode cX0_list 62 = .ok (.getfield 18, 3) := by decide +kernel
theorem dX0_list_65 : decode cX0_list 65 = .ok (.iload 4, 2) := by decide +kernel
theorem dX0_list_67 : decode cX0_list 67 = .ok (.iload_n 2, 1) := by decide +kernel
theorem dX0_list_68 : decode cX0_list 68 = .ok (.iastore, 1) := by decide +kernel
theorem dX0_list_69 : decode cX0_list 69 = .ok (.aload_n 0, 1) := by decide +kernel
theorem dX0_list_70 : decode cX0_list 70 = .ok (.getfield 21, 3) := by decide +kernel
theorem dX0_list_73 : decode cX0_list 73 = .ok (.iload 4, 2) := by decide +kernel
theorem dX0_list_75 : decode cX0_list 75 = .ok (.iload_n 3, 1) := by decide +kernel
theorem dX0_list_76 : decode cX0_list 76 = .ok (.iastore, 1) := by decide +kernel
theorem dX0_list_77 : decode cX0_list 77 = .ok (.aload_n 0, 1) := by decide +kernel
theorem dX0_list_78 : decode cX0_list 78 = .ok (.iload 4, 2) := by decide +kernel
theorem dX0_list_80 : decode cX0_list 80 = .ok (.iconst (-1), 1) := by decide +kernel
theorem dX0_list_81 : decode cX0_list 81 = .ok (.iload_n 1, 1) := by decide +kernel
theorem dX0_list_82 : decode cX0_list 82 = .ok (.invokevirtual 56, 3) := by decide +kernel
theorem dX0_list_85 : decode cX0_list 85 = .ok (.iload 4, 2) := by decide +kernel
theorem dX0_list_87 : decode cX0_list 87 = .ok (.ireturn, 1) := by decide +kernel
theorem dX0_retell_0 : decode cX0_retell 0 = .ok (.iload_n 1, 1) := by decide +kernel
theorem dX0_retell_1 : decode cX0_retell 1 = .ok (.ifCond .lt 39, 3) := by decide +kernel
theorem dX0_retell_4 : decode cX0_retell 4 = .ok (.iload_n 1, 1) := by decide +kernel
theorem dX0_retell_5 : decode cX0_retell 5 = .ok (.aload_n 0, 1) := by decide +kernel
theorem dX0_retell_6 : decode cX0_retell 6 = .ok (.getfield 36, 3) := by decide +kernel
theorem dX0_retell_9 : decode cX0_retell 9 = .ok (.if_icmp .ge 31, 3) := by decide +kernel
theorem dX0_retell_12 : decode cX0_retell 12 = .ok (.aload_n 0, 1) := by decide +kernel
theorem dX0_retell_13 : decode cX0_retell 13 = .ok (.getfield 43, 3) := by decide +kernel
theorem dX0_retell_16 : decode cX0_retell 16 = .ok (.sipush 400, 3) := by decide +kernel
theorem dX0_retell_19 : decode cX0_retell 19 = .ok (.if_icmp .ge 21, 3) := by decide +kernel
theorem dX0_retell_22 : decode cX0_retell 22 = .ok (.iload_n 2, 1) := by decide +kernel
theorem dX0_retell_23 : decode cX0_retell 23 = .ok (.iload_n 3, 1) := by decide +kernel
theorem dX0_retell_24 : decode cX0_retell 24 = .ok (.invokestatic 52, 3) := by decide +kernel
theorem dX0_retell_27 : decode cX0_retell 27 = .ok (.ifCond .eq 13, 3) := by decide +kernel
theorem dX0_retell_30 : decode cX0_retell 30 = .ok (.aload_n 0, 1) := by decide +kernel
theorem dX0_retell_31 : decode cX0_retell 31 = .ok (.iload_n 1, 1) := by decide +kernel
theorem dX0_retell_32 : decode cX0_retell 32 = .ok (.iload_n 2, 1) := by decide +kernel
theorem dX0_retell_33 : decode cX0_retell 33 = .ok (.iload_n 3, 1) := by decide +kernel
theorem dX0_retell_34 : decode cX0_retell 34 = .ok (.invokevirtual 60, 3) := by decide +kernel
theorem dX0_retell_37 : decode cX0_retell 37 = .ok (.ifCond .ne 5, 3) := by decide +kernel
theorem dX0_retell_40 : decode cX0_retell 40 = .ok (.iconst 0, 1) := by decide +kernel
theorem dX0_retell_41 : decode cX0_retell 41 = .ok (.ireturn, 1) := by decide +kernel
theorem dX0_retell_42 : decode cX0_retell 42 = .ok (.aload_n 0, 1) := by decide +kernel
theorem dX0_retell_43 : decode cX0_retell 43 = .ok (.iload_n 1, 1) := by decide +kernel
theorem dX0_retell_44 : decode cX0_retell 44 = .ok (.iload_n 2, 1) := by decide +kernel
theorem dX0_retell_45 : decode cX0_retell 45 = .ok (.iload_n 3, 1) := by decide +kernel
theorem dX0_retell_46 : decode cX0_retell 46 = .ok (.invokevirtual 56, 3) := by decide +kernel
theorem dX0_retell_49 : decode cX0_retell 49 = .ok (.iconst 1, 1) := by decide +kernel
theorem dX0_retell_50 : decode cX0_retell 50 = .ok (.ireturn, 1) := by decide +kernel
theorem dX0_turnTo_0 : decode cX0_turnTo 0 = .ok (.iload_n 1, 1) := by decide +kernel
theorem dX0_turnTo_1 : decode cX0_turnTo 1 = .ok (.aload_n 0, 1) := by decide +kernel
theorem dX0_turnTo_2 : decode cX0_turnTo 2 = .ok (.getfield 46, 3) := by decide +kernel
theorem dX0_turnTo_5 : decode cX0_turnTo 5 = .ok (.if_icmp .lt 10, 3) := by decide +kernel
theorem dX0_turnTo_8 : decode cX0_turnTo 8 = .ok (.iload_n 1, 1) := by decide +kernel
theorem dX0_turnTo_9 : decode cX0_turnTo 9 = .ok (.sipush 9999, 3) := by decide +kernel
theorem dX0_turnTo_12 : decode cX0_turnTo 12 = .ok (.if_icmp .le 5, 3) := by decide +kernel
theorem dX0_turnTo_15 : decode cX0_turnTo 15 = .ok (.iconst 0, 1) := by decide +kernel
theorem dX0_turnTo_16 : decode cX0_turnTo 16 = .ok (.ireturn, 1) := by decide +kernel
theorem dX0_turnTo_17 : decode cX0_turnTo 17 = .ok (.aload_n 0, 1) := by decide +kernel
theorem dX0_turnTo_18 : decode cX0_turnTo 18 = .ok (.iload_n 1, 1) := by decide +kernel
theorem dX0_turnTo_19 : decode cX0_turnTo 19 = .ok (.putfield 46, 3) := by decide +kernel
theorem dX0_turnTo_22 : decode cX0_turnTo 22 = .ok (.iconst 1, 1) := by decide +kernel
theorem dX0_turnTo_23 : decode cX0_turnTo 23 = .ok (.ireturn, 1) := by decide +kernel
theorem dX0_lookFrom_0 : decode cX0_lookFrom 0 = .ok (.iload_n 1, 1) := by decide +kernel
theorem dX0_lookFrom_1 : decode cX0_lookFrom 1 = .ok (.iconst (-1), 1) := by decide +kernel
theorem dX0_lookFrom_2 : decode cX0_lookFrom 2 = .ok (.if_icmp .eq 17, 3) := by decide +kernel
theorem dX0_lookFrom_5 : decode cX0_lookFrom 5 = .ok (.iload_n 1, 1) := by decide +kernel
theorem dX0_lookFrom_6 : decode cX0_lookFrom 6 = .ok (.ifCond .lt 11, 3) := by decide +kernel
theorem dX0_lookFrom_9 : decode cX0_lookFrom 9 = .ok (.iload_n 1, 1) := by decide +kernel
theorem dX0_lookFrom_10 : decode cX0_lookFrom 10 = .ok (.aload_n 0, 1) := by decide +kernel
theorem dX0_lookFrom_11 : decode cX0_lookFrom 11 = .ok (.getfield 46, 3) := by decide +kernel
theorem dX0_lookFrom_14 : decode cX0_lookFrom 14 = .ok (.if_icmp .le 5, 3) := by decide +kernel
theorem dX0_lookFrom_17 : decode cX0_lookFrom 17 = .ok (.iconst 0, 1) := by decide +kernel
theorem dX0_lookFrom_18 : decode cX0_lookFrom 18 = .ok (.ireturn, 1) := by decide +kernel
theorem dX0_lookFrom_19 : decode cX0_lookFrom 19 = .ok (.aload_n 0, 1) := by decide +kernel
theorem dX0_lookFrom_20 : decode cX0_lookFrom 20 = .ok (.iload_n 1, 1) := by decide +kernel
theorem dX0_lookFrom_21 : decode cX0_lookFrom 21 = .ok (.putfield 49, 3) := by decide +kernel
theorem dX0_lookFrom_24 : decode cX0_lookFrom 24 = .ok (.aload_n 0, 1) := by decide +kernel
theorem dX0_lookFrom_25 : decode cX0_lookFrom 25 = .ok (.iconst 0, 1) := by decide +kernel
theorem dX0_lookFrom_26 : decode cX0_lookFrom 26 = .ok (.putfield 40, 3) := by decide +kernel
theorem dX0_lookFrom_29 : decode cX0_lookFrom 29 = .ok (.iconst 0, 1) := by decide +kernel
theorem dX0_lookFrom_30 : decode cX0_lookFrom 30 = .ok (.istore_n 2, 1) := by decide +kernel
theorem dX0_lookFrom_31 : decode cX0_lookFrom 31 = .ok (.iload_n 2, 1) := by decide +kernel
theorem dX0_lookFrom_32 : decode cX0_lookFrom 32 = .ok (.aload_n 0, 1) := by decide +kernel
theorem dX0_lookFrom_33 : decode cX0_lookFrom 33 = .ok (.getfield 43, 3) := by decide +kernel
theorem dX0_lookFrom_36 : decode cX0_lookFrom 36 = .ok (.if_icmp .ge 34, 3) := by decide +kernel
theorem dX0_lookFrom_39 : decode cX0_lookFrom 39 = .ok (.iload_n 2, 1) := by decide +kernel
theorem dX0_lookFrom_40 : decode cX0_lookFrom 40 = .ok (.sipush 400, 3) := by decide +kernel
theorem dX0_lookFrom_43 : decode cX0_lookFrom 43 = .ok (.if_icmp .ge 27, 3) := by decide +kernel
theorem dX0_lookFrom_46 : decode cX0_lookFrom 46 = .ok (.aload_n 0, 1) := by decide +kernel
theorem dX0_lookFrom_47 : decode cX0_lookFrom 47 = .ok (.aload_n 0, 1) := by decide +kernel
theorem dX0_lookFrom_48 : decode cX0_lookFrom 48 = .ok (.getfield 24, 3) := by decide +kernel
theorem dX0_lookFrom_51 : decode cX0_lookFrom 51 = .ok (.iload_n 2, 1) := by decide +kernel
theorem dX0_lookFrom_52 : decode cX0_lookFrom 52 = .ok (.iaload, 1) := by decide +kernel
theorem dX0_lookFrom_53 : decode cX0_lookFrom 53 = .ok (.invokevirtual 64, 3) := by decide +kernel
theorem dX0_lookFrom_56 : decode cX0_lookFrom 56 = .ok (.ifCond .eq 8, 3) := by decide +kernel
theorem dX0_lookFrom_59 : decode cX0_lookFrom 59 = .ok (.aload_n 0, 1) := by decide +kernel
theorem dX0_lookFrom_60 : decode cX0_lookFrom 60 = .ok (.iload_n 2, 1) := by decide +kernel
theorem dX0_lookFrom_61 : decode cX0_lookFrom 61 = .ok (.invokevirtual 68, 3) := by decide +kernel
theorem dX0_lookFrom_64 : decode cX0_lookFrom 64 = .ok (.iinc 2 1, 3) := by decide +kernel
theorem dX0_lookFrom_67 : decode cX0_lookFrom 67 = .ok (.goto (-36), 3) := by decide +kernel
theorem dX0_lookFrom_70 : decode cX0_lookFrom 70 = .ok (.iconst 1, 1) := by decide +kernel
theorem dX0_lookFrom_71 : decode cX0_lookFrom 71 = .ok (.ireturn, 1) := by decide +kernel
theorem dX0_known_0 : decode cX0_known 0 = .ok (.iload_n 1, 1) := by decide +kernel
theorem dX0_known_1 : decode cX0_known 1 = .ok (.ifCond .lt 27, 3) := by decide +kernel
theorem dX0_known_4 : decode cX0_known 4 = .ok (.iload_n 1, 1) := by decide +kernel
theorem dX0_known_5 : decode cX0_known 5 = .ok (.aload_n 0, 1) := by decide +kernel
theorem dX0_known_6 : decode cX0_known 6 = .ok (.getfield 40, 3) := by decide +kernel
theorem dX0_known_9 : decode cX0_known 9 = .ok (.if_icmp .ge 19, 3) := by decide +kernel
theorem dX0_known_12 : decode cX0_known 12 = .ok (.iload_n 1, 1) := by decide +kernel
theorem dX0_known_13 : decode cX0_known 13 = .ok (.bipush 32, 2) := by decide +kernel
theorem dX0_known_15 : decode cX0_known 15 = .ok (.if_icmp .ge 13, 3) := by decide +kernel
theorem dX0_known_18 : decode cX0_known 18 = .ok (.iload_n 2, 1) := by decide +kernel
theorem dX0_known_19 : decode cX0_known 19 = .ok (.ifCond .lt 9, 3) := by decide +kernel
theorem dX0_known_22 : decode cX0_known 22 = .ok (.iload_n 2, 1) := by decide +kernel
theorem dX0_known_23 : decode cX0_known 23 = .ok (.bipush 11, 2) := by decide +kernel
theorem dX0_known_25 : decode cX0_known 25 = .ok (.if_icmp .lt 6, 3) := by decide +kernel
theorem dX0_known_28 : decode cX0_known 28 = .ok (.ldc 72, 2) := by decide +kernel
theorem dX0_known_30 : decode cX0_known 30 = .ok (.ireturn, 1) := by decide +kernel
theorem dX0_known_31 : decode cX0_known 31 = .ok (.aload_n 0, 1) := by decide +kernel
theorem dX0_known_32 : decode cX0_known 32 = .ok (.getfield 15, 3) := by decide +kernel
theorem dX0_known_35 : decode cX0_known 35 = .ok (.iload_n 1, 1) := by decide +kernel
theorem dX0_known_36 : decode cX0_known 36 = .ok (.bipush 11, 2) := by decide +kernel
theorem dX0_known_38 : decode cX0_known 38 = .ok (.imul, 1) := by decide +kernel
theorem dX0_known_39 : decode cX0_known 39 = .ok (.iload_n 2, 1) := by decide +kernel
theorem dX0_known_40 : decode cX0_known 40 = .ok (.iadd, 1) := by decide +kernel
theorem dX0_known_41 : decode cX0_known 41 = .ok (.iaload, 1) := by decide +kernel
theorem dX0_known_42 : decode cX0_known 42 = .ok (.ireturn, 1) := by decide +kernel
theorem dX0_written_0 : decode cX0_written 0 = .ok (.iload_n 1, 1) := by decide +kernel
theorem dX0_written_1 : decode cX0_written 1 = .ok (.ifCond .lt 18, 3) := by decide +kernel
theorem dX0_written_4 : decode cX0_written 4 = .ok (.iload_n 1, 1) := by decide +kernel
theorem dX0_written_5 : decode cX0_written 5 = .ok (.aload_n 0, 1) := by decide +kernel
theorem dX0_written_6 : decode cX0_written 6 = .ok (.getfield 43, 3) := by decide +kernel
theorem dX0_written_9 : decode cX0_written 9 = .ok (.if_icmp .ge 10, 3) := by decide +kernel
theorem dX0_written_12 : decode cX0_written 12 = .ok (.iload_n 1, 1) := by decide +kernel
theorem dX0_written_13 : decode cX0_written 13 = .ok (.sipush 400, 3) := by decide +kernel
theorem dX0_written_16 : decode cX0_written 16 = .ok (.if_icmp .lt 6, 3) := by decide +kernel
theorem dX0_written_19 : decode cX0_written 19 = .ok (.ldc 72, 2) := by decide +kernel
theorem dX0_written_21 : decode cX0_written 21 = .ok (.ireturn, 1) := by decide +kernel
theorem dX0_written_22 : decode cX0_written 22 = .ok (.iload_n 2, 1) := by decide +kernel
theorem dX0_written_23 : decode cX0_written 23 = .ok (.tableswitch 57 0 3 #[29, 36, 43, 50], 29) := by decide +kernel
theorem dX0_written_52 : decode cX0_written 52 = .ok (.aload_n 0, 1) := by decide +kernel
theorem dX0_written_53 : decode cX0_written 53 = .ok (.getfield 24, 3) := by decide +kernel
theorem dX0_written_56 : decode cX0_written 56 = .ok (.iload_n 1, 1) := by decide +kernel
theorem dX0_written_57 : decode cX0_written 57 = .ok (.iaload, 1) := by decide +kernel
theorem dX0_written_58 : decode cX0_written 58 = .ok (.ireturn, 1) := by decide +kernel
theorem dX0_written_59 : decode cX0_written 59 = .ok (.aload_n 0, 1) := by decide +kernel
theorem dX0_written_60 : decode cX0_written 60 = .ok (.getfield 27, 3) := by decide +kernel
theorem dX0_written_63 : decode cX0_written 63 = .ok (.iload_n 1, 1) := by decide +kernel
theorem dX0_written_64 : decode cX0_written 64 = .ok (.iaload, 1) := by decide +kernel
theorem dX0_written_65 : decode cX0_written 65 = .ok (.ireturn, 1) := by decide +kernel
theorem dX0_written_66 : decode cX0_written 66 = .ok (.aload_n 0, 1) := by decide +kernel
theorem dX0_written_67 : decode cX0_written 67 = .ok (.getfield 30, 3) := by decide +kernel
theorem dX0_written_70 : decode cX0_written 70 = .ok (.iload_n 1, 1) := by decide +kernel
theorem dX0_written_71 : decode cX0_written 71 = .ok (.iaload, 1) := by decide +kernel
theorem dX0_written_72 : decode cX0_written 72 = .ok (.ireturn, 1) := by decide +kernel
theorem dX0_written_73 : decode cX0_written 73 = .ok (.aload_n 0, 1) := by decide +kernel
theorem dX0_written_74 : decode cX0_written 74 = .ok (.getfield 33, 3) := by decide +kernel
theorem dX0_written_77 : decode cX0_written 77 = .ok (.iload_n 1, 1) := by decide +kernel
theorem dX0_written_78 : decode cX0_written 78 = .ok (.iaload, 1) := by decide +kernel
theorem dX0_written_79 : decode cX0_written 79 = .ok (.ireturn, 1) := by decide +kernel
theorem dX0_written_80 : decode cX0_written 80 = .ok (.ldc 72, 2) := by decide +kernel
theorem dX0_written_82 : decode cX0_written 82 = .ok (.ireturn, 1) := by decide +kernel
theorem dX0_copyFrom_0 : decode cX0_copyFrom 0 = .ok (.aload_n 1, 1) := by decide +kernel
theorem dX0_copyFrom_1 : decode cX0_copyFrom 1 = .ok (.getfield 9, 3) := by decide +kernel
theorem dX0_copyFrom_4 : decode cX0_copyFrom 4 = .ok (.iconst 0, 1) := by decide +kernel
theorem dX0_copyFrom_5 : decode cX0_copyFrom 5 = .ok (.aload_n 0, 1) := by decide +kernel
theorem dX0_copyFrom_6 : decode cX0_copyFrom 6 = .ok (.getfield 9, 3) := by decide +kernel
theorem dX0_copyFrom_9 : decode cX0_copyFrom 9 = .ok (.iconst 0, 1) := by decide +kernel
theorem dX0_copyFrom_10 : decode cX0_copyFrom 10 = .ok (.sipush 352, 3) := by decide +kernel
theorem dX0_copyFrom_13 : decode cX0_copyFrom 13 = .ok (.invokestatic 73, 3) := by decide +kernel
theorem dX0_copyFrom_16 : decode cX0_copyFrom 16 = .ok (.aload_n 1, 1) := by decide +kernel
theorem dX0_copyFrom_17 : decode cX0_copyFrom 17 = .ok (.getfield 15, 3) := by decide +kernel
theorem dX0_copyFrom_20 : decode cX0_copyFrom 20 = .ok (.iconst 0, 1) := by decide +kernel
theorem dX0_copyFrom_21 : decode cX0_copyFrom 21 = .ok (.aload_n 0, 1) := by decide +kernel
theorem dX0_copyFrom_22 : decode cX0_copyFrom 22 = .ok (.getfield 15, 3) := by decide +kernel
theorem dX0_copyFrom_25 : decode cX0_copyFrom 25 = .ok (.iconst 0, 1) := by decide +kernel
theorem dX0_copyFrom_26 : decode cX0_copyFrom 26 = .ok (.sipush 352, 3) := by decide +kernel
theorem dX0_copyFrom_29 : decode cX0_copyFrom 29 = .ok (.invokestatic 73, 3) := by decide +kernel
theorem dX0_copyFrom_32 : decode cX0_copyFrom 32 = .ok (.aload_n 1, 1) := by decide +kernel
theorem dX0_copyFrom_33 : decode cX0_copyFrom 33 = .ok (.getfield 18, 3) := by decide +kernel
theorem dX0_copyFrom_36 : decode cX0_copyFrom 36 = .ok (.iconst 0, 1) := by decide +kernel
theorem dX0_copyFrom_37 : decode cX0_copyFrom 37 = .ok (.aload_n 0, 1) := by decide +kernel
theorem dX0_copyFrom_38 : decode cX0_copyFrom 38 = .ok (.getfield 18, 3) := by decide +kernel
theorem dX0_copyFrom_41 : decode cX0_copyFrom 41 = .ok (.iconst 0, 1) := by decide +kernel
theorem dX0_copyFrom_42 : decode cX0_copyFrom 42 = .ok (.bipush 32, 2) := by decide +kernel
theorem dX0_copyFrom_44 : decode cX0_copyFrom 44 = .ok (.invokestatic 73, 3) := by decide +kernel
theorem dX0_copyFrom_47 : decode cX0_copyFrom 47 = .ok (.aload_n 1, 1) := by decide +kernel
theorem dX0_copyFrom_48 : decode cX0_copyFrom 48 = .ok (.getfield 21, 3) := by decide +kernel
theorem dX0_copyFrom_51 : decode cX0_copyFrom 51 = .ok (.iconst 0, 1) := by decide +kernel
theorem dX0_copyFrom_52 : decode cX0_copyFrom 52 = .ok (.aload_n 0, 1) := by decide +kernel
theorem dX0_copyFrom_53 : decode cX0_copyFrom 53 = .ok (.getfield 21, 3) := by decide +kernel
theorem dX0_copyFrom_56 : decode cX0_copyFrom 56 = .ok (.iconst 0, 1) := by decide +kernel
theorem dX0_copyFrom_57 : decode cX0_copyFrom 57 = .ok (.bipush 32, 2) := by decide +kernel
theorem dX0_copyFrom_59 : decode cX0_copyFrom 59 = .ok (.invokestatic 73, 3) := by decide +kernel
theorem dX0_copyFrom_62 : decode cX0_copyFrom 62 = .ok (.aload_n 1, 1) := by decide +kernel
theorem dX0_copyFrom_63 : decode cX0_copyFrom 63 = .ok (.getfield 24, 3) := by decide +kernel
theorem dX0_copyFrom_66 : decode cX0_copyFrom 66 = .ok (.iconst 0, 1) := by decide +kernel
theorem dX0_copyFrom_67 : decode cX0_copyFrom 67 = .ok (.aload_n 0, 1) := by decide +kernel
theorem dX0_copyFrom_68 : decode cX0_copyFrom 68 = .ok (.getfield 24, 3) := by decide +kernel
theorem dX0_copyFrom_71 : decode cX0_copyFrom 71 = .ok (.iconst 0, 1) := by decide +kernel
theorem dX0_copyFrom_72 : decode cX0_copyFrom 72 = .ok (.sipush 400, 3) := by decide +kernel
theorem dX0_copyFrom_75 : decode cX0_copyFrom 75 = .ok (.invokestatic 73, 3) := by decide +kernel
theorem dX0_copyFrom_78 : decode cX0_copyFrom 78 = .ok (.aload_n 1, 1) := by decide +kernel
theorem dX0_copyFrom_79 : decode cX0_copyFrom 79 = .ok (.getfield 27, 3) := by decide +kernel
theorem dX0_copyFrom_82 : decode cX0_copyFrom 82 = .ok (.iconst 0, 1) := by decide +kernel
theorem dX0_copyFrom_83 : decode cX0_copyFrom 83 = .ok (.aload_n 0, 1) := by decide +kernel
theorem dX0_copyFrom_84 : decode cX0_copyFrom 84 = .ok (.getfield 27, 3) := by decide +kernel
theorem dX0_copyFrom_87 : decode cX0_copyFrom 87 = .ok (.iconst 0, 1) := by decide +kernel
theorem dX0_copyFrom_88 : decode cX0_copyFrom 88 = .ok (.sipush 400, 3) := by decide +kernel
theorem dX0_copyFrom_91 : decode cX0_copyFrom 91 = .ok (.invokestatic 73, 3) := by decide +kernel
theorem dX0_copyFrom_94 : decode cX0_copyFrom 94 = .ok (.aload_n 1, 1) := by decide +kernel
theorem dX0_copyFrom_95 : decode cX0_copyFrom 95 = .ok (.getfield 30, 3) := by decide +kernel
theorem dX0_copyFrom_98 : decode cX0_copyFrom 98 = .ok (.iconst 0, 1) := by decide +kernel
theorem dX0_copyFrom_99 : decode cX0_copyFrom 99 = .ok (.aload_n 0, 1) := by decide +kernel
theorem dX0_copyFrom_100 : decode cX0_copyFrom 100 = .ok (.getfield 30, 3) := by decide +kernel
theorem dX0_copyFrom_103 : decode cX0_copyFrom 103 = .ok (.iconst 0, 1) := by decide +kernel
theorem dX0_copyFrom_104 : decode cX0_copyFrom 104 = .ok (.sipush 400, 3) := by decide +kernel
theorem dX0_copyFrom_107 : decode cX0_copyFrom 107 = .ok (.invokestatic 73, 3) := by decide +kernel
theorem dX0_copyFrom_110 : decode cX0_copyFrom 110 = .ok (.aload_n 1, 1) := by decide +kernel
theorem dX0_copyFrom_111 : decode cX0_copyFrom 111 = .ok (.getfield 33, 3) := by decide +kernel
theorem dX0_copyFrom_114 : decode cX0_copyFrom 114 = .ok (.iconst 0, 1) := by decide +kernel
theorem dX0_copyFrom_115 : decode cX0_copyFrom 115 = .ok (.aload_n 0, 1) := by decide +kernel
theorem dX0_copyFrom_116 : decode cX0_copyFrom 116 = .ok (.getfield 33, 3) := by decide +kernel
theorem dX0_copyFrom_119 : decode cX0_copyFrom 119 = .ok (.iconst 0, 1) := by decide +kernel
theorem dX0_copyFrom_120 : decode cX0_copyFrom 120 = .ok (.sipush 400, 3) := by decide +kernel
theorem dX0_copyFrom_123 : decode cX0_copyFrom 123 = .ok (.invokestatic 73, 3) := by decide +kernel
theorem dX0_copyFrom_126 : decode cX0_copyFrom 126 = .ok (.aload_n 0, 1) := by decide +kernel
theorem dX0_copyFrom_127 : decode cX0_copyFrom 127 = .ok (.aload_n 1, 1) := by decide +kernel
theorem dX0_copyFrom_128 : decode cX0_copyFrom 128 = .ok (.getfield 36, 3) := by decide +kernel
theorem dX0_copyFrom_131 : decode cX0_copyFrom 131 = .ok (.putfield 36, 3) := by decide +kernel
theorem dX0_copyFrom_134 : decode cX0_copyFrom 134 = .ok (.aload_n 0, 1) := by decide +kernel
theorem dX0_copyFrom_135 : decode cX0_copyFrom 135 = .ok (.aload_n 1, 1) := by decide +kernel
theorem dX0_copyFrom_136 : decode cX0_copyFrom 136 = .ok (.getfield 40, 3) := by decide +kernel
theorem dX0_copyFrom_139 : decode cX0_copyFrom 139 = .ok (.putfield 40, 3) := by decide +kernel
theorem dX0_copyFrom_142 : decode cX0_copyFrom 142 = .ok (.aload_n 0, 1) := by decide +kernel
theorem dX0_copyFrom_143 : decode cX0_copyFrom 143 = .ok (.aload_n 1, 1) := by decide +kernel
theorem dX0_copyFrom_144 : decode cX0_copyFrom 144 = .ok (.getfield 43, 3) := by decide +kernel
theorem dX0_copyFrom_147 : decode cX0_copyFrom 147 = .ok (.putfield 43, 3) := by decide +kernel
theorem dX0_copyFrom_150 : decode cX0_copyFrom 150 = .ok (.aload_n 0, 1) := by decide +kernel
theorem dX0_copyFrom_151 : decode cX0_copyFrom 151 = .ok (.aload_n 1, 1) := by decide +kernel
theorem dX0_copyFrom_152 : decode cX0_copyFrom 152 = .ok (.getfield 46, 3) := by decide +kernel
theorem dX0_copyFrom_155 : decode cX0_copyFrom 155 = .ok (.putfield 46, 3) := by decide +kernel
theorem dX0_copyFrom_158 : decode cX0_copyFrom 158 = .ok (.aload_n 0, 1) := by decide +kernel
theorem dX0_copyFrom_159 : decode cX0_copyFrom 159 = .ok (.aload_n 1, 1) := by decide +kernel
theorem dX0_copyFrom_160 : decode cX0_copyFrom 160 = .ok (.getfield 49, 3) := by decide +kernel
theorem dX0_copyFrom_163 : decode cX0_copyFrom 163 = .ok (.putfield 49, 3) := by decide +kernel
theorem dX0_copyFrom_166 : decode cX0_copyFrom 166 = .ok (.return_, 1) := by decide +kernel
theorem dX0_inRange_0 : decode cX0_inRange 0 = .ok (.iload_n 0, 1) := by decide +kernel
theorem dX0_inRange_1 : decode cX0_inRange 1 = .ok (.ifCond .lt 31, 3) := by decide +kernel
theorem dX0_inRange_4 : decode cX0_inRange 4 = .ok (.iload_n 0, 1) := by decide +kernel
theorem dX0_inRange_5 : decode cX0_inRange 5 = .ok (.bipush 11, 2) := by decide +kernel
theorem dX0_inRange_7 : decode cX0_inRange 7 = .ok (.if_icmp .ge 25, 3) := by decide +kernel
theorem dX0_inRange_10 : decode cX0_inRange 10 = .ok (.iload_n 1, 1) := by decide +kernel
theorem dX0_inRange_11 : decode cX0_inRange 11 = .ok (.getstatic 79, 3) := by decide +kernel
theorem dX0_inRange_14 : decode cX0_inRange 14 = .ok (.iload_n 0, 1) := by decide +kernel
theorem dX0_inRange_15 : decode cX0_inRange 15 = .ok (.iaload, 1) := by decide +kernel
theorem dX0_inRange_16 : decode cX0_inRange 16 = .ok (.if_icmp .lt 16, 3) := by decide +kernel
theorem dX0_inRange_19 : decode cX0_inRange 19 = .ok (.iload_n 1, 1) := by decide +kernel
theorem dX0_inRange_20 : decode cX0_inRange 20 = .ok (.getstatic 82, 3) := by decide +kernel
theorem dX0_inRange_23 : decode cX0_inRange 23 = .ok (.iload_n 0, 1) := by decide +kernel
theorem dX0_inRange_24 : decode cX0_inRange 24 = .ok (.iaload, 1) := by decide +kernel
theorem dX0_inRange_25 : decode cX0_inRange 25 = .ok (.if_icmp .gt 7, 3) := by decide +kernel
theorem dX0_inRange_28 : decode cX0_inRange 28 = .ok (.iconst 1, 1) := by decide +kernel
theorem dX0_inRange_29 : decode cX0_inRange 29 = .ok (.goto 4, 3) := by decide +kernel
theorem dX0_inRange_32 : decode cX0_inRange 32 = .ok (.iconst 0, 1) := by decide +kernel
theorem dX0_inRange_33 : decode cX0_inRange 33 = .ok (.ireturn, 1) := by decide +kernel
theorem dX0_agrees_0 : decode cX0_agrees 0 = .ok (.iload_n 1, 1) := by decide +kernel
theorem dX0_agrees_1 : decode cX0_agrees 1 = .ok (.bipush 11, 2) := by decide +kernel
theorem dX0_agrees_3 : decode cX0_agrees 3 = .ok (.imul, 1) := by decide +kernel
theorem dX0_agrees_4 : decode cX0_agrees 4 = .ok (.istore 4, 2) := by decide +kernel
theorem dX0_agrees_6 : decode cX0_agrees 6 = .ok (.iload_n 2, 1) := by decide +kernel
theorem dX0_agrees_7 : decode cX0_agrees 7 = .ok (.tableswitch 118 0 6 #[41, 118, 118, 60, 118, 79, 99], 41) := by decide +kernel
theorem dX0_agrees_48 : decode cX0_agrees 48 = .ok (.aload_n 0, 1) := by decide +kernel
theorem dX0_agrees_49 : decode cX0_agrees 49 = .ok (.getfield 9, 3) := by decide +kernel
theorem dX0_agrees_52 : decode cX0_agrees 52 = .ok (.iload 4, 2) := by decide +kernel
theorem dX0_agrees_54 : decode cX0_agrees 54 = .ok (.iconst 3, 1) := by decide +kernel
theorem dX0_agrees_55 : decode cX0_agrees 55 = .ok (.iadd, 1) := by decide +kernel
theorem dX0_agrees_56 : decode cX0_agrees 56 = .ok (.iaload, 1) := by decide +kernel
theorem dX0_agrees_57 : decode cX0_agrees 57 = .ok (.iload_n 3, 1) := by decide +kernel
theorem dX0_agrees_58 : decode cX0_agrees 58 = .ok (.if_icmp .ge 7, 3) := by decide +kernel
theorem dX0_agrees_61 : decode cX0_agrees 61 = .ok (.iconst 1, 1) := by decide +kernel
theorem dX0_agrees_62 : decode cX0_agrees 62 = .ok (.goto 4, 3) := by decide +kernel
theorem dX0_agrees_65 : decode cX0_agrees 65 = .ok (.iconst 0, 1) := by decide +kernel
theorem dX0_agrees_66 : decode cX0_agrees 66 = .ok (.ireturn, 1) := by decide +kernel
theorem dX0_agrees_67 : decode cX0_agrees 67 = .ok (.iload_n 3, 1) := by decide +kernel
theorem dX0_agrees_68 : decode cX0_agrees 68 = .ok (.aload_n 0, 1) := by decide +kernel
theorem dX0_agrees_69 : decode cX0_agrees 69 = .ok (.getfield 9, 3) := by decide +kernel
theorem dX0_agrees_72 : decode cX0_agrees 72 = .ok (.iload 4, 2) := by decide +kernel
theorem dX0_agrees_74 : decode cX0_agrees 74 = .ok (.iconst 0, 1) := by decide +kernel
theorem dX0_agrees_75 : decode cX0_agrees 75 = .ok (.iadd, 1) := by decide +kernel
theorem dX0_agrees_76 : decode cX0_agrees 76 = .ok (.iaload, 1) := by decide +kernel
theorem dX0_agrees_77 : decode cX0_agrees 77 = .ok (.if_icmp .ge 7, 3) := by decide +kernel
theorem dX0_agrees_80 : decode cX0_agrees 80 = .ok (.iconst 1, 1) := by decide +kernel
theorem dX0_agrees_81 : decode cX0_agrees 81 = .ok (.goto 4, 3) := by decide +kernel
theorem dX0_agrees_84 : decode cX0_agrees 84 = .ok (.iconst 0, 1) := by decide +kernel
theorem dX0_agrees_85 : decode cX0_agrees 85 = .ok (.ireturn, 1) := by decide +kernel
theorem dX0_agrees_86 : decode cX0_agrees 86 = .ok (.iload_n 3, 1) := by decide +kernel
theorem dX0_agrees_87 : decode cX0_agrees 87 = .ok (.aload_n 0, 1) := by decide +kernel
theorem dX0_agrees_88 : decode cX0_agrees 88 = .ok (.getfield 9, 3) := by decide +kernel
theorem dX0_agrees_91 : decode cX0_agrees 91 = .ok (.iload 4, 2) := by decide +kernel
theorem dX0_agrees_93 : decode cX0_agrees 93 = .ok (.bipush 6, 2) := by decide +kernel
theorem dX0_agrees_95 : decode cX0_agrees 95 = .ok (.iadd, 1) := by decide +kernel
theorem dX0_agrees_96 : decode cX0_agrees 96 = .ok (.iaload, 1) := by decide +kernel
theorem dX0_agrees_97 : decode cX0_agrees 97 = .ok (.if_icmp .gt 7, 3) := by decide +kernel
theorem dX0_agrees_100 : decode cX0_agrees 100 = .ok (.iconst 1, 1) := by decide +kernel
theorem dX0_agrees_101 : decode cX0_agrees 101 = .ok (.goto 4, 3) := by decide +kernel
theorem dX0_agrees_104 : decode cX0_agrees 104 = .ok (.iconst 0, 1) := by decide +kernel
theorem dX0_agrees_105 : decode cX0_agrees 105 = .ok (.ireturn, 1) := by decide +kernel
theorem dX0_agrees_106 : decode cX0_agrees 106 = .ok (.aload_n 0, 1) := by decide +kernel
theorem dX0_agrees_107 : decode cX0_agrees 107 = .ok (.getfield 9, 3) := by decide +kernel
theorem dX0_agrees_110 : decode cX0_agrees 110 = .ok (.iload 4, 2) := by decide +kernel
theorem dX0_agrees_112 : decode cX0_agrees 112 = .ok (.iconst 5, 1) := by decide +kernel
theorem dX0_agrees_113 : decode cX0_agrees 113 = .ok (.iadd, 1) := by decide +kernel
theorem dX0_agrees_114 : decode cX0_agrees 114 = .ok (.iaload, 1) := by decide +kernel
theorem dX0_agrees_115 : decode cX0_agrees 115 = .ok (.iload_n 3, 1) := by decide +kernel
theorem dX0_agrees_116 : decode cX0_agrees 116 = .ok (.if_icmp .gt 7, 3) := by decide +kernel
theorem dX0_agrees_119 : decode cX0_agrees 119 = .ok (.iconst 1, 1) := by decide +kernel
theorem dX0_agrees_120 : decode cX0_agrees 120 = .ok (.goto 4, 3) := by decide +kernel
theorem dX0_agrees_123 : decode cX0_agrees 123 = .ok (.iconst 0, 1) := by decide +kernel
theorem dX0_agrees_124 : decode cX0_agrees 124 = .ok (.ireturn, 1) := by decide +kernel
theorem dX0_agrees_125 : decode cX0_agrees 125 = .ok (.iconst 1, 1) := by decide +kernel
theorem dX0_agrees_126 : decode cX0_agrees 126 = .ok (.ireturn, 1) := by decide +kernel
theorem dX0_isSeen_0 : decode cX0_isSeen 0 = .ok (.aload_n 0, 1) := by decide +kernel
theorem dX0_isSeen_1 : decode cX0_isSeen 1 = .ok (.getfield 49, 3) := by decide +kernel
theorem dX0_isSeen_4 : decode cX0_isSeen 4 = .ok (.iconst (-1), 1) := by decide +kernel
theorem dX0_isSeen_5 : decode cX0_isSeen 5 = .ok (.if_icmp .eq 11, 3) := by decide +kernel
theorem dX0_isSeen_8 : decode cX0_isSeen 8 = .ok (.iload_n 1, 1) := by decide +kernel
theorem dX0_isSeen_9 : decode cX0_isSeen 9 = .ok (.aload_n 0, 1) := by decide +kernel
theorem dX0_isSeen_10 : decode cX0_isSeen 10 = .ok (.getfield 49, 3) := by decide +kernel
theorem dX0_isSeen_13 : decode cX0_isSeen 13 = .ok (.if_icmp .gt 7, 3) := by decide +kernel
theorem dX0_isSeen_16 : decode cX0_isSeen 16 = .ok (.iconst 1, 1) := by decide +kernel
theorem dX0_isSeen_17 : decode cX0_isSeen 17 = .ok (.goto 4, 3) := by decide +kernel
theorem dX0_isSeen_20 : decode cX0_isSeen 20 = .ok (.iconst 0, 1) := by decide +kernel
theorem dX0_isSeen_21 : decode cX0_isSeen 21 = .ok (.ireturn, 1) := by decide +kernel
theorem dX0_write_0 : decode cX0_write 0 = .ok (.aload_n 0, 1) := by decide +kernel
theorem dX0_write_1 : decode cX0_write 1 = .ok (.getfield 43, 3) := by decide +kernel
theorem dX0_write_4 : decode cX0_write 4 = .ok (.istore 4, 2) := by decide +kernel
theorem dX0_write_6 : decode cX0_write 6 = .ok (.iload 4, 2) := by decide +kernel
theorem dX0_write_8 : decode cX0_write 8 = .ok (.ifCond .lt 11, 3) := by decide +kernel
theorem dX0_write_11 : decode cX0_write 11 = .ok (.iload 4, 2) := by decide +kernel
theorem dX0_write_13 : decode cX0_write 13 = .ok (.sipush 400, 3) := by decide +kernel
theorem dX0_write_16 : decode cX0_write 16 = .ok (.if_icmp .lt 4, 3) := by decide +kernel
theorem dX0_write_19 : decode cX0_write 19 = .ok (.return_, 1) := by decide +kernel
theorem dX0_write_20 : decode cX0_write 20 = .ok (.aload_n 0, 1) := by decide +kernel
theorem dX0_write_21 : decode cX0_write 21 = .ok (.getfield 24, 3) := by decide +kernel
theorem dX0_write_24 : decode cX0_write 24 = .ok (.iload 4, 2) := by decide +kernel
theorem dX0_write_26 : decode cX0_write 26 = .ok (.aload_n 0, 1) := by decide +kernel
theorem dX0_write_27 : decode cX0_write 27 = .ok (.getfield 46, 3) := by decide +kernel
theorem dX0_write_30 : decode cX0_write 30 = .ok (.iastore, 1) := by decide +kernel
theorem dX0_write_31 : decode cX0_write 31 = .ok (.aload_n 0, 1) := by decide +kernel
theorem dX0_write_32 : decode cX0_write 32 = .ok (.getfield 27, 3) := by decide +kernel
theorem dX0_write_35 : decode cX0_write 35 = .ok (.iload 4, 2) := by decide +kernel
theorem dX0_write_37 : decode cX0_write 37 = .ok (.iload_n 1, 1) := by decide +kernel
theorem dX0_write_38 : decode cX0_write 38 = .ok (.iastore, 1) := by decide +kernel
theorem dX0_write_39 : decode cX0_write 39 = .ok (.aload_n 0, 1) := by decide +kernel
theorem dX0_write_40 : decode cX0_write 40 = .ok (.getfield 30, 3) := by decide +kernel
theorem dX0_write_43 : decode cX0_write 43 = .ok (.iload 4, 2) := by decide +kernel
theorem dX0_write_45 : decode cX0_write 45 = .ok (.iload_n 2, 1) := by decide +kernel
theorem dX0_write_46 : decode cX0_write 46 = .ok (.iastore, 1) := by decide +kernel
theorem dX0_write_47 : decode cX0_write 47 = .ok (.aload_n 0, 1) := by decide +kernel
theorem dX0_write_48 : decode cX0_write 48 = .ok (.getfield 33, 3) := by decide +kernel
theorem dX0_write_51 : decode cX0_write 51 = .ok (.iload 4, 2) := by decide +kernel
theorem dX0_write_53 : decode cX0_write 53 = .ok (.iload_n 3, 1) := by decide +kernel
theorem dX0_write_54 : decode cX0_write 54 = .ok (.iastore, 1) := by decide +kernel
theorem dX0_write_55 : decode cX0_write 55 = .ok (.aload_n 0, 1) := by decide +kernel
theorem dX0_write_56 : decode cX0_write 56 = .ok (.dup, 1) := by decide +kernel
theorem dX0_write_57 : decode cX0_write 57 = .ok (.getfield 43, 3) := by decide +kernel
theorem dX0_write_60 : decode cX0_write 60 = .ok (.iconst 1, 1) := by decide +kernel
theorem dX0_write_61 : decode cX0_write 61 = .ok (.iadd, 1) := by decide +kernel
theorem dX0_write_62 : decode cX0_write 62 = .ok (.putfield 43, 3) := by decide +kernel
theorem dX0_write_65 : decode cX0_write 65 = .ok (.aload_n 0, 1) := by decide +kernel
theorem dX0_write_66 : decode cX0_write 66 = .ok (.aload_n 0, 1) := by decide +kernel
theorem dX0_write_67 : decode cX0_write 67 = .ok (.getfield 9, 3) := by decide +kernel
theorem dX0_write_70 : decode cX0_write 70 = .ok (.iload 4, 2) := by decide +kernel
theorem dX0_write_72 : decode cX0_write 72 = .ok (.invokevirtual 85, 3) := by decide +kernel
theorem dX0_write_75 : decode cX0_write 75 = .ok (.aload_n 0, 1) := by decide +kernel
theorem dX0_write_76 : decode cX0_write 76 = .ok (.aload_n 0, 1) := by decide +kernel
theorem dX0_write_77 : decode cX0_write 77 = .ok (.getfield 46, 3) := by decide +kernel
theorem dX0_write_80 : decode cX0_write 80 = .ok (.invokevirtual 64, 3) := by decide +kernel
theorem dX0_write_83 : decode cX0_write 83 = .ok (.ifCond .eq 9, 3) := by decide +kernel
theorem dX0_write_86 : decode cX0_write 86 = .ok (.aload_n 0, 1) := by decide +kernel
theorem dX0_write_87 : decode cX0_write 87 = .ok (.iload 4, 2) := by decide +kernel
theorem dX0_write_89 : decode cX0_write 89 = .ok (.invokevirtual 68, 3) := by decide +kernel
theorem dX0_write_92 : decode cX0_write 92 = .ok (.return_, 1) := by decide +kernel
theorem dX0_see_0 : decode cX0_see 0 = .ok (.aload_n 0, 1) := by decide +kernel
theorem dX0_see_1 : decode cX0_see 1 = .ok (.aload_n 0, 1) := by decide +kernel
theorem dX0_see_2 : decode cX0_see 2 = .ok (.getfield 15, 3) := by decide +kernel
theorem dX0_see_5 : decode cX0_see 5 = .ok (.iload_n 1, 1) := by decide +kernel
theorem dX0_see_6 : decode cX0_see 6 = .ok (.invokevirtual 85, 3) := by decide +kernel
theorem dX0_see_9 : decode cX0_see 9 = .ok (.aload_n 0, 1) := by decide +kernel
theorem dX0_see_10 : decode cX0_see 10 = .ok (.getfield 30, 3) := by decide +kernel
theorem dX0_see_13 : decode cX0_see 13 = .ok (.iload_n 1, 1) := by decide +kernel
theorem dX0_see_14 : decode cX0_see 14 = .ok (.iaload, 1) := by decide +kernel
theorem dX0_see_15 : decode cX0_see 15 = .ok (.iconst (-1), 1) := by decide +kernel
theorem dX0_see_16 : decode cX0_see 16 = .ok (.if_icmp .ne 15, 3) := by decide +kernel
theorem dX0_see_19 : decode cX0_see 19 = .ok (.aload_n 0, 1) := by decide +kernel
theorem dX0_see_20 : decode cX0_see 20 = .ok (.aload_n 0, 1) := by decide +kernel
theorem dX0_see_21 : decode cX0_see 21 = .ok (.getfield 27, 3) := by decide +kernel
theorem dX0_see_24 : decode cX0_see 24 = .ok (.iload_n 1, 1) := by decide +kernel
theorem dX0_see_25 : decode cX0_see 25 = .ok (.iaload, 1) := by decide +kernel
theorem dX0_see_26 : decode cX0_see 26 = .ok (.iconst 1, 1) := by decide +kernel
theorem dX0_see_27 : decode cX0_see 27 = .ok (.iadd, 1) := by decide +kernel
theorem dX0_see_28 : decode cX0_see 28 = .ok (.putfield 40, 3) := by decide +kernel
theorem dX0_see_31 : decode cX0_see 31 = .ok (.return_, 1) := by decide +kernel
theorem dX0_apply_0 : decode cX0_apply 0 = .ok (.aload_n 0, 1) := by decide +kernel
theorem dX0_apply_1 : decode cX0_apply 1 = .ok (.getfield 27, 3) := by decide +kernel
theorem dX0_apply_4 : decode cX0_apply 4 = .ok (.iload_n 2, 1) := by decide +kernel
theorem dX0_apply_5 : decode cX0_apply 5 = .ok (.iaload, 1) := by decide +kernel
theorem dX0_apply_6 : decode cX0_apply 6 = .ok (.istore_n 3, 1) := by decide +kernel
theorem dX0_apply_7 : decode cX0_apply 7 = .ok (.aload_n 0, 1) := by decide +kernel
theorem dX0_apply_8 : decode cX0_apply 8 = .ok (.getfield 30, 3) := by decide +kernel
theorem dX0_apply_11 : decode cX0_apply 11 = .ok (.iload_n 2, 1) := by decide +kernel
theorem dX0_apply_12 : decode cX0_apply 12 = .ok (.iaload, 1) := by decide +kernel
theorem dX0_apply_13 : decode cX0_apply 13 = .ok (.istore 4, 2) := by decide +kernel
theorem dX0_apply_15 : decode cX0_apply 15 = .ok (.iload_n 3, 1) := by decide +kernel
theorem dX0_apply_16 : decode cX0_apply 16 = .ok (.bipush 11, 2) := by decide +kernel
theorem dX0_apply_18 : decode cX0_apply 18 = .ok (.imul, 1) := by decide +kernel
theorem dX0_apply_19 : decode cX0_apply 19 = .ok (.istore 5, 2) := by decide +kernel
theorem dX0_apply_21 : decode cX0_apply 21 = .ok (.iload 4, 2) := by decide +kernel
theorem dX0_apply_23 : decode cX0_apply 23 = .ok (.ifCond .lt 24, 3) := by decide +kernel
theorem dX0_apply_26 : decode cX0_apply 26 = .ok (.iload 4, 2) := by decide +kernel
theorem dX0_apply_28 : decode cX0_apply 28 = .ok (.bipush 11, 2) := by decide +kernel
theorem dX0_apply_30 : decode cX0_apply 30 = .ok (.if_icmp .ge 17, 3) := by decide +kernel
theorem dX0_apply_33 : decode cX0_apply 33 = .ok (.aload_n 1, 1) := by decide +kernel
theorem dX0_apply_34 : decode cX0_apply 34 = .ok (.iload 5, 2) := by decide +kernel
theorem dX0_apply_36 : decode cX0_apply 36 = .ok (.iload 4, 2) := by decide +kernel
theorem dX0_apply_38 : decode cX0_apply 38 = .ok (.iadd, 1) := by decide +kernel
theorem dX0_apply_39 : decode cX0_apply 39 = .ok (.aload_n 0, 1) := by decide +kernel
theorem dX0_apply_40 : decode cX0_apply 40 = .ok (.getfield 33, 3) := by decide +kernel
theorem dX0_apply_43 : decode cX0_apply 43 = .ok (.iload_n 2, 1) := by decide +kernel
theorem dX0_apply_44 : decode cX0_apply 44 = .ok (.iaload, 1) := by decide +kernel
theorem dX0_apply_45 : decode cX0_apply 45 = .ok (.iastore, 1) := by decide +kernel
theorem dX0_apply_46 : decode cX0_apply 46 = .ok (.return_, 1) := by decide +kernel
theorem dX0_apply_47 : decode cX0_apply 47 = .ok (.iconst 0, 1) := by decide +kernel
theorem dX0_apply_48 : decode cX0_apply 48 = .ok (.istore 6, 2) := by decide +kernel
theorem dX0_apply_50 : decode cX0_apply 50 = .ok (.iload 6, 2) := by decide +kernel
theorem dX0_apply_52 : decode cX0_apply 52 = .ok (.bipush 11, 2) := by decide +kernel
theorem dX0_apply_54 : decode cX0_apply 54 = .ok (.if_icmp .ge 17, 3) := by decide +kernel
theorem dX0_apply_57 : decode cX0_apply 57 = .ok (.aload_n 1, 1) := by decide +kernel
theorem dX0_apply_58 : decode cX0_apply 58 = .ok (.iload 5, 2) := by decide +kernel
theorem dX0_apply_60 : decode cX0_apply 60 = .ok (.iload 6, 2) := by decide +kernel
theorem dX0_apply_62 : decode cX0_apply 62 = .ok (.iadd, 1) := by decide +kernel
theorem dX0_apply_63 : decode cX0_apply 63 = .ok (.iconst 0, 1) := by decide +kernel
theorem dX0_apply_64 : decode cX0_apply 64 = .ok (.iastore, 1) := by decide +kernel
theorem dX0_apply_65 : decode cX0_apply 65 = .ok (.iinc 6 1, 3) := by decide +kernel
theorem dX0_apply_68 : decode cX0_apply 68 = .ok (.goto (-18), 3) := by decide +kernel
theorem dX0_apply_71 : decode cX0_apply 71 = .ok (.aload_n 1, 1) := by decide +kernel
theorem dX0_apply_72 : decode cX0_apply 72 = .ok (.iload 5, 2) := by decide +kernel
theorem dX0_apply_74 : decode cX0_apply 74 = .ok (.iconst 0, 1) := by decide +kernel
theorem dX0_apply_75 : decode cX0_apply 75 = .ok (.iadd, 1) := by decide +kernel
theorem dX0_apply_76 : decode cX0_apply 76 = .ok (.aload_n 0, 1) := by decide +kernel
theorem dX0_apply_77 : decode cX0_apply 77 = .ok (.getfield 33, 3) := by decide +kernel
theorem dX0_apply_80 : decode cX0_apply 80 = .ok (.iload_n 2, 1) := by decide +kernel
theorem dX0_apply_81 : decode cX0_apply 81 = .ok (.iaload, 1) := by decide +kernel
theorem dX0_apply_82 : decode cX0_apply 82 = .ok (.iastore, 1) := by decide +kernel
theorem dX0_apply_83 : decode cX0_apply 83 = .ok (.aload_n 1, 1) := by decide +kernel
theorem dX0_apply_84 : decode cX0_apply 84 = .ok (.iload 5, 2) := by decide +kernel
theorem dX0_apply_86 : decode cX0_apply 86 = .ok (.iconst 1, 1) := by decide +kernel
theorem dX0_apply_87 : decode cX0_apply 87 = .ok (.iadd, 1) := by decide +kernel
theorem dX0_apply_88 : decode cX0_apply 88 = .ok (.aload_n 0, 1) := by decide +kernel
theorem dX0_apply_89 : decode cX0_apply 89 = .ok (.getfield 18, 3) := by decide +kernel
theorem dX0_apply_92 : decode cX0_apply 92 = .ok (.iload_n 3, 1) := by decide +kernel
theorem dX0_apply_93 : decode cX0_apply 93 = .ok (.iaload, 1) := by decide +kernel
theorem dX0_apply_94 : decode cX0_apply 94 = .ok (.iastore, 1) := by decide +kernel
theorem dX0_apply_95 : decode cX0_apply 95 = .ok (.aload_n 1, 1) := by decide +kernel
theorem dX0_apply_96 : decode cX0_apply 96 = .ok (.iload 5, 2) := by decide +kernel
theorem dX0_apply_98 : decode cX0_apply 98 = .ok (.iconst 4, 1) := by decide +kernel
theorem dX0_apply_99 : decode cX0_apply 99 = .ok (.iadd, 1) := by decide +kernel
theorem dX0_apply_100 : decode cX0_apply 100 = .ok (.aload_n 0, 1) := by decide +kernel
theorem dX0_apply_101 : decode cX0_apply 101 = .ok (.getfield 21, 3) := by decide +kernel
theorem dX0_apply_104 : decode cX0_apply 104 = .ok (.iload_n 3, 1) := by decide +kernel
theorem dX0_apply_105 : decode cX0_apply 105 = .ok (.iaload, 1) := by decide +kernel
theorem dX0_apply_106 : decode cX0_apply 106 = .ok (.iastore, 1) := by decide +kernel
theorem dX0_apply_107 : decode cX0_apply 107 = .ok (.aload_n 1, 1) := by decide +kernel
theorem dX0_apply_108 : decode cX0_apply 108 = .ok (.iload 5, 2) := by decide +kernel
theorem dX0_apply_110 : decode cX0_apply 110 = .ok (.iconst 5, 1) := by decide +kernel
theorem dX0_apply_111 : decode cX0_apply 111 = .ok (.iadd, 1) := by decide +kernel
theorem dX0_apply_112 : decode cX0_apply 112 = .ok (.sipush (-3000), 3) := by decide +kernel
theorem dX0_apply_115 : decode cX0_apply 115 = .ok (.iastore, 1) := by decide +kernel
theorem dX0_apply_116 : decode cX0_apply 116 = .ok (.aload_n 1, 1) := by decide +kernel
theorem dX0_apply_117 : decode cX0_apply 117 = .ok (.iload 5, 2) := by decide +kernel
theorem dX0_apply_119 : decode cX0_apply 119 = .ok (.bipush 6, 2) := by decide +kernel
theorem dX0_apply_121 : decode cX0_apply 121 = .ok (.iadd, 1) := by decide +kernel
theorem dX0_apply_122 : decode cX0_apply 122 = .ok (.sipush 1900, 3) := by decide +kernel
theorem dX0_apply_125 : decode cX0_apply 125 = .ok (.iastore, 1) := by decide +kernel
theorem dX0_apply_126 : decode cX0_apply 126 = .ok (.aload_n 1, 1) := by decide +kernel
theorem dX0_apply_127 : decode cX0_apply 127 = .ok (.iload 5, 2) := by decide +kernel
theorem dX0_apply_129 : decode cX0_apply 129 = .ok (.bipush 9, 2) := by decide +kernel
theorem dX0_apply_131 : decode cX0_apply 131 = .ok (.iadd, 1) := by decide +kernel
theorem dX0_apply_132 : decode cX0_apply 132 = .ok (.iconst 1, 1) := by decide +kernel
theorem dX0_apply_133 : decode cX0_apply 133 = .ok (.iastore, 1) := by decide +kernel
theorem dX0_apply_134 : decode cX0_apply 134 = .ok (.return_, 1) := by decide +kernel
theorem dX1_init_0 : decode cX1_init 0 = .ok (.aload_n 0, 1) := by decide +kernel
theorem dX1_init_1 : decode cX1_init 1 = .ok (.invokespecial 3, 3) := by decide +kernel
theorem dX1_init_4 : decode cX1_init 4 = .ok (.aload_n 0, 1) := by decide +kernel
theorem dX1_init_5 : decode cX1_init 5 = .ok (.bipush 63, 2) := by decide +kernel
theorem dX1_init_7 : decode cX1_init 7 = .ok (.putfield 9, 3) := by decide +kernel
theorem dX1_init_10 : decode cX1_init 10 = .ok (.aload_n 0, 1) := by decide +kernel
theorem dX1_init_11 : decode cX1_init 11 = .ok (.bipush 31, 2) := by decide +kernel
theorem dX1_init_13 : decode cX1_init 13 = .ok (.putfield 15, 3) := by decide +kernel
theorem dX1_init_16 : decode cX1_init 16 = .ok (.aload_n 0, 1) := by decide +kernel
theorem dX1_init_17 : decode cX1_init 17 = .ok (.sipush (-3000), 3) := by decide +kernel
theorem dX1_init_20 : decode cX1_init 20 = .ok (.putfield 18, 3) := by decide +kernel
theorem dX1_init_23 : decode cX1_init 23 = .ok (.aload_n 0, 1) := by decide +kernel
theorem dX1_init_24 : decode cX1_init 24 = .ok (.sipush 1900, 3) := by decide +kernel
theorem dX1_init_27 : decode cX1_init 27 = .ok (.putfield 21, 3) := by decide +kernel
theorem dX1_init_30 : decode cX1_init 30 = .ok (.aload_n 0, 1) := by decide +kernel
theorem dX1_init_31 : decode cX1_init 31 = .ok (.iconst 0, 1) := by decide +kernel
theorem dX1_init_32 : decode cX1_init 32 = .ok (.putfield 24, 3) := by decide +kernel
theorem dX1_init_35 : decode cX1_init 35 = .ok (.return_, 1) := by decide +kernel
theorem dX1_change_0 : decode cX1_change 0 = .ok (.iload_n 3, 1) := by decide +kernel
theorem dX1_change_1 : decode cX1_change 1 = .ok (.sipush (-3000), 3) := by decide +kernel
theorem dX1_change_4 : decode cX1_change 4 = .ok (.if_icmp .lt 28, 3) := by decide +kernel
theorem dX1_change_7 : decode cX1_change 7 = .ok (.iload 4, 2) := by decide +kernel
theorem dX1_change_9 : decode cX1_change 9 = .ok (.sipush 1900, 3) := by decide +kernel
theorem dX1_change_12 : decode cX1_change 12 = .ok (.if_icmp .gt 20, 3) := by decide +kernel
theorem dX1_change_15 : decode cX1_change 15 = .ok (.iload_n 3, 1) := by decide +kernel
theorem dX1_change_16 : decode cX1_change 16 = .ok (.iload 4, 2) := by decide +kernel
theorem dX1_change_18 : decode cX1_change 18 = .ok (.if_icmp .gt 14, 3) := by decide +kernel
theorem dX1_change_21 : decode cX1_change 21 = .ok (.iload 5, 2) := by decide +kernel
theorem dX1_change_23 : decode cX1_change 23 = .ok (.ifCond .lt 9, 3) := by decide +kernel
theorem dX1_change_26 : decode cX1_change 26 = .ok (.iload 5, 2) := by decide +kernel
theorem dX1_change_28 : decode cX1_change 28 = .ok (.iconst 2, 1) := by decide +kernel
theorem dX1_change_29 : decode cX1_change 29 = .ok (.if_icmp .le 5, 3) := by decide +kernel
theorem dX1_change_32 : decode cX1_change 32 = .ok (.iconst 0, 1) := by decide +kernel
theorem dX1_change_33 : decode cX1_change 33 = .ok (.ireturn, 1) := by decide +kernel
theorem dX1_change_34 : decode cX1_change 34 = .ok (.aload_n 0, 1) := by decide +kernel
theorem dX1_change_35 : decode cX1_change 35 = .ok (.iload_n 1, 1) := by decide +kernel
theorem dX1_change_36 : decode cX1_change 36 = .ok (.bipush 63, 2) := by decide +kernel
theorem dX1_change_38 : decode cX1_change 38 = .ok (.iand, 1) := by decide +kernel
theorem dX1_change_39 : decode cX1_change 39 = .ok (.putfield 9, 3) := by decide +kernel
theorem dX1_change_42 : decode cX1_change 42 = .ok (.aload_n 0, 1) := by decide +kernel
theorem dX1_change_43 : decode cX1_change 43 = .ok (.iload_n 2, 1) := by decide +kernel
theorem dX1_change_44 : decode cX1_change 44 = .ok (.bipush 31, 2) := by decide +kernel
theorem dX1_change_46 : decode cX1_change 46 = .ok (.iand, 1) := by decide +kernel
theorem dX1_change_47 : decode cX1_change 47 = .ok (.putfield 15, 3) := by decide +kernel
theorem dX1_change_50 : decode cX1_change 50 = .ok (.aload_n 0, 1) := by decide +kernel
theorem dX1_change_51 : decode cX1_change 51 = .ok (.iload_n 3, 1) := by decide +kernel
theorem dX1_change_52 : decode cX1_change 52 = .ok (.putfield 18, 3) := by decide +kernel
theorem dX1_change_55 : decode cX1_change 55 = .ok (.aload_n 0, 1) := by decide +kernel
theorem dX1_change_56 : decode cX1_change 56 = .ok (.iload 4, 2) := by decide +kernel
theorem dX1_change_58 : decode cX1_change 58 = .ok (.putfield 21, 3) := by decide +kernel
theorem dX1_change_61 : decode cX1_change 61 = .ok (.aload_n 0, 1) := by decide +kernel
theorem dX1_change_62 : decode cX1_change 62 = .ok (.iload 5, 2) := by decide +kernel
theorem dX1_change_64 : decode cX1_change 64 = .ok (.putfield 24, 3) := by decide +kernel
theorem dX1_change_67 : decode cX1_change 67 = .ok (.iconst 1, 1) := by decide +kernel
theorem dX1_change_68 : decode cX1_change 68 = .ok (.ireturn, 1) := by decide +kernel
theorem dX1_takes_0 : decode cX1_takes 0 = .ok (.aload_n 1, 1) := by decide +kernel
theorem dX1_takes_1 : decode cX1_takes 1 = .ok (.iload_n 2, 1) := by decide +kernel
theorem dX1_takes_2 : decode cX1_takes 2 = .ok (.bipush 9, 2) := by decide +kernel
theorem dX1_takes_4 : decode cX1_takes 4 = .ok (.invokevirtual 27, 3) := by decide +kernel
theorem dX1_takes_7 : decode cX1_takes 7 = .ok (.iconst 1, 1) := by decide +kernel
theorem dX1_takes_8 : decode cX1_takes 8 = .ok (.if_icmp .ne 82, 3) := by decide +kernel
theorem dX1_takes_11 : decode cX1_takes 11 = .ok (.aload_n 0, 1) := by decide +kernel
theorem dX1_takes_12 : decode cX1_takes 12 = .ok (.getfield 9, 3) := by decide +kernel
theorem dX1_takes_15 : decode cX1_takes 15 = .ok (.aload_n 1, 1) := by decide +kernel
theorem dX1_takes_16 : decode cX1_takes 16 = .ok (.iload_n 2, 1) := by decide +kernel
theorem dX1_takes_17 : decode cX1_takes 17 = .ok (.iconst 4, 1) := by decide +kernel
theorem dX1_takes_18 : decode cX1_takes 18 = .ok (.invokevirtual 27, 3) := by decide +kernel
theorem dX1_takes_21 : decode cX1_takes 21 = .ok (.ishr, 1) := by decide +kernel
theorem dX1_takes_22 : decode cX1_takes 22 = .ok (.iconst 1, 1) := by decide +kernel
theorem dX1_takes_23 : decode cX1_takes 23 = .ok (.iand, 1) := by decide +kernel
theorem dX1_takes_24 : decode cX1_takes 24 = .ok (.iconst 1, 1) := by decide +kernel
theorem dX1_takes_25 : decode cX1_takes 25 = .ok (.if_icmp .ne 65, 3) := by decide +kernel
theorem dX1_takes_28 : decode cX1_takes 28 = .ok (.aload_n 0, 1) := by decide +kernel
theorem dX1_takes_29 : decode cX1_takes 29 = .ok (.getfield 15, 3) := by decide +kernel
theorem dX1_takes_32 : decode cX1_takes 32 = .ok (.aload_n 1, 1) := by decide +kernel
theorem dX1_takes_33 : decode cX1_takes 33 = .ok (.iload_n 2, 1) := by decide +kernel
theorem dX1_takes_34 : decode cX1_takes 34 = .ok (.iconst 1, 1) := by decide +kernel
theorem dX1_takes_35 : decode cX1_takes 35 = .ok (.invokevirtual 27, 3) := by decide +kernel
theorem dX1_takes_38 : decode cX1_takes 38 = .ok (.ishr, 1) := by decide +kernel
theorem dX1_takes_39 : decode cX1_takes 39 = .ok (.iconst 1, 1) := by decide +kernel
theorem dX1_takes_40 : decode cX1_takes 40 = .ok (.iand, 1) := by decide +kernel
theorem dX1_takes_41 : decode cX1_takes 41 = .ok (.iconst 1, 1) := by decide +kernel
theorem dX1_takes_42 : decode cX1_takes 42 = .ok (.if_icmp .ne 48, 3) := by decide +kernel
theorem dX1_takes_45 : decode cX1_takes 45 = .ok (.aload_n 1, 1) := by decide +kernel
theorem dX1_takes_46 : decode cX1_takes 46 = .ok (.iload_n 2, 1) := by decide +kernel
theorem dX1_takes_47 : decode cX1_takes 47 = .ok (.iconst 5, 1) := by decide +kernel
theorem dX1_takes_48 : decode cX1_takes 48 = .ok (.invokevirtual 27, 3) := by decide +kernel
theorem dX1_takes_51 : decode cX1_takes 51 = .ok (.aload_n 0, 1) := by decide +kernel
theorem dX1_takes_52 : decode cX1_takes 52 = .ok (.getfield 21, 3) := by decide +kernel
theorem dX1_takes_55 : decode cX1_takes 55 = .ok (.if_icmp .gt 35, 3) := by decide +kernel
theorem dX1_takes_58 : decode cX1_takes 58 = .ok (.aload_n 1, 1) := by decide +kernel
theorem dX1_takes_59 : decode cX1_takes 59 = .ok (.iload_n 2, 1) := by decide +kernel
theorem dX1_takes_60 : decode cX1_takes 60 = .ok (.bipush 6, 2) := by decide +kernel
theorem dX1_takes_62 : decode cX1_takes 62 = .ok (.invokevirtual 27, 3) := by decide +kernel
theorem dX1_takes_65 : decode cX1_takes 65 = .ok (.aload_n 0, 1) := by decide +kernel
theorem dX1_takes_66 : decode cX1_takes 66 = .ok (.getfield 18, 3) := by decide +kernel
theorem dX1_takes_69 : decode cX1_takes 69 = .ok (.if_icmp .lt 21, 3) := by decide +kernel
theorem dX1_takes_72 : decode cX1_takes 72 = .ok (.aload_n 0, 1) := by decide +kernel
theorem dX1_takes_73 : decode cX1_takes 73 = .ok (.aload_n 1, 1) := by decide +kernel
theorem dX1_takes_74 : decode cX1_takes 74 = .ok (.iload_n 2, 1) := by decide +kernel
theorem dX1_takes_75 : decode cX1_takes 75 = .ok (.bipush 7, 2) := by decide +kernel
theorem dX1_takes_77 : decode cX1_takes 77 = .ok (.invokevirtual 27, 3) := by decide +kernel
theorem dX1_takes_80 : decode cX1_takes 80 = .ok (.invokevirtual 33, 3) := by decide +kernel
theorem dX1_takes_83 : decode cX1_takes 83 = .ok (.ifCond .eq 7, 3) := by decide +kernel
theorem dX1_takes_86 : decode cX1_takes 86 = .ok (.iconst 1, 1) := by decide +kernel
theorem dX1_takes_87 : decode cX1_takes 87 = .ok (.goto 4, 3) := by decide +kernel
theorem dX1_takes_90 : decode cX1_takes 90 = .ok (.iconst 0, 1) := by decide +kernel
theorem dX1_takes_91 : decode cX1_takes 91 = .ok (.ireturn, 1) := by decide +kernel
theorem dX1_copyFrom_0 : decode cX1_copyFrom 0 = .ok (.aload_n 0, 1) := by decide +kernel
theorem dX1_copyFrom_1 : decode cX1_copyFrom 1 = .ok (.aload_n 1, 1) := by decide +kernel
theorem dX1_copyFrom_2 : decode cX1_copyFrom 2 = .ok (.getfield 9, 3) := by decide +kernel
theorem dX1_copyFrom_5 : decode cX1_copyFrom 5 = .ok (.putfield 9, 3) := by decide +kernel
theorem dX1_copyFrom_8 : decode cX1_copyFrom 8 = .ok (.aload_n 0, 1) := by decide +kernel
theorem dX1_copyFrom_9 : decode cX1_copyFrom 9 = .ok (.aload_n 1, 1) := by decide +kernel
theorem dX1_copyFrom_10 : decode cX1_copyFrom 10 = .ok (.getfield 15, 3) := by decide +kernel
theorem dX1_copyFrom_13 : decode cX1_copyFrom 13 = .ok (.putfield 15, 3) := by decide +kernel
theorem dX1_copyFrom_16 : decode cX1_copyFrom 16 = .ok (.aload_n 0, 1) := by decide +kernel
theorem dX1_copyFrom_17 : decode cX1_copyFrom 17 = .ok (.aload_n 1, 1) := by decide +kernel
theorem dX1_copyFrom_18 : decode cX1_copyFrom 18 = .ok (.getfield 18, 3) := by decide +kernel
theorem dX1_copyFrom_21 : decode cX1_copyFrom 21 = .ok (.putfield 18, 3) := by decide +kernel
theorem dX1_copyFrom_24 : decode cX1_copyFrom 24 = .ok (.aload_n 0, 1) := by decide +kernel
theorem dX1_copyFrom_25 : decode cX1_copyFrom 25 = .ok (.aload_n 1, 1) := by decide +kernel
theorem dX1_copyFrom_26 : decode cX1_copyFrom 26 = .ok (.getfield 21, 3) := by decide +kernel
theorem dX1_copyFrom_29 : decode cX1_copyFrom 29 = .ok (.putfield 21, 3) := by decide +kernel
theorem dX1_copyFrom_32 : decode cX1_copyFrom 32 = .ok (.aload_n 0, 1) := by decide +kernel
theorem dX1_copyFrom_33 : decode cX1_copyFrom 33 = .ok (.aload_n 1, 1) := by decide +kernel
theorem dX1_copyFrom_34 : decode cX1_copyFrom 34 = .ok (.getfield 24, 3) := by decide +kernel
theorem dX1_copyFrom_37 : decode cX1_copyFrom 37 = .ok (.putfield 24, 3) := by decide +kernel
theorem dX1_copyFrom_40 : decode cX1_copyFrom 40 = .ok (.return_, 1) := by decide +kernel
theorem dX1_takesMark_0 : decode cX1_takesMark 0 = .ok (.aload_n 0, 1) := by decide +kernel
theorem dX1_takesMark_1 : decode cX1_takesMark 1 = .ok (.getfield 24, 3) := by decide +kernel
theorem dX1_takesMark_4 : decode cX1_takesMark 4 = .ok (.ifCond .eq 28, 3) := by decide +kernel
theorem dX1_takesMark_7 : decode cX1_takesMark 7 = .ok (.aload_n 0, 1) := by decide +kernel
theorem dX1_takesMark_8 : decode cX1_takesMark 8 = .ok (.getfield 24, 3) := by decide +kernel
theorem dX1_takesMark_11 : decode cX1_takesMark 11 = .ok (.iconst 1, 1) := by decide +kernel
theorem dX1_takesMark_12 : decode cX1_takesMark 12 = .ok (.if_icmp .ne 7, 3) := by decide +kernel
theorem dX1_takesMark_15 : decode cX1_takesMark 15 = .ok (.iconst 1, 1) := by decide +kernel
theorem dX1_takesMark_16 : decode cX1_takesMark 16 = .ok (.goto 4, 3) := by decide +kernel
theorem dX1_takesMark_19 : decode cX1_takesMark 19 = .ok (.iconst 0, 1) := by decide +kernel
theorem dX1_takesMark_20 : decode cX1_takesMark 20 = .ok (.iload_n 1, 1) := by decide +kernel
theorem dX1_takesMark_21 : decode cX1_takesMark 21 = .ok (.ifCond .le 7, 3) := by decide +kernel
theorem dX1_takesMark_24 : decode cX1_takesMark 24 = .ok (.iconst 1, 1) := by decide +kernel
theorem dX1_takesMark_25 : decode cX1_takesMark 25 = .ok (.goto 4, 3) := by decide +kernel
theorem dX1_takesMark_28 : decode cX1_takesMark 28 = .ok (.iconst 0, 1) := by decide +kernel
theorem dX1_takesMark_29 : decode cX1_takesMark 29 = .ok (.if_icmp .ne 7, 3) := by decide +kernel
theorem dX1_takesMark_32 : decode cX1_takesMark 32 = .ok (.iconst 1, 1) := by decide +kernel
theorem dX1_takesMark_33 : decode cX1_takesMark 33 = .ok (.goto 4, 3) := by decide +kernel
theorem dX1_takesMark_36 : decode cX1_takesMark 36 = .ok (.iconst 0, 1) := by decide +kernel
theorem dX1_takesMark_37 : decode cX1_takesMark 37 = .ok (.ireturn, 1) := by decide +kernel
theorem dX2_whenNew_0 : decode cX2_whenNew 0 = .ok (.sipush (-500), 3) := by decide +kernel
theorem dX2_whenNew_3 : decode cX2_whenNew 3 = .ok (.sipush 1000, 3) := by decide +kernel
theorem dX2_whenNew_6 : decode cX2_whenNew 6 = .ok (.iload_n 1, 1) := by decide +kernel
theorem dX2_whenNew_7 : decode cX2_whenNew 7 = .ok (.invokestatic 9, 3) := by decide +kernel
theorem dX2_whenNew_10 : decode cX2_whenNew 10 = .ok (.invokestatic 15, 3) := by decide +kernel
theorem dX2_whenNew_13 : decode cX2_whenNew 13 = .ok (.istore_n 2, 1) := by decide +kernel
theorem dX2_whenNew_14 : decode cX2_whenNew 14 = .ok (.iconst 1, 1) := by decide +kernel
theorem dX2_whenNew_15 : decode cX2_whenNew 15 = .ok (.iload_n 0, 1) := by decide +kernel
theorem dX2_whenNew_16 : decode cX2_whenNew 16 = .ok (.iload_n 0, 1) := by decide +kernel
theorem dX2_whenNew_17 : decode cX2_whenNew 17 = .ok (.iload_n 2, 1) := by decide +kernel
theorem dX2_whenNew_18 : decode cX2_whenNew 18 = .ok (.imul, 1) := by decide +kernel
theorem dX2_whenNew_19 : decode cX2_whenNew 19 = .ok (.sipush 1000, 3) := by decide +kernel
theorem dX2_whenNew_22 : decode cX2_whenNew 22 = .ok (.idiv, 1) := by decide +kernel
theorem dX2_whenNew_23 : decode cX2_whenNew 23 = .ok (.iadd, 1) := by decide +kernel
theorem dX2_whenNew_24 : decode cX2_whenNew 24 = .ok (.invokestatic 15, 3) := by decide +kernel
theorem dX2_whenNew_27 : decode cX2_whenNew 27 = .ok (.ireturn, 1) := by decide +kernel
theorem dX2_off_0 : decode cX2_off 0 = .ok (.iload_n 0, 1) := by decide +kernel
theorem dX2_off_1 : decode cX2_off 1 = .ok (.iload_n 1, 1) := by decide +kernel
theorem dX2_off_2 : decode cX2_off 2 = .ok (.iload_n 2, 1) := by decide +kernel
theorem dX2_off_3 : decode cX2_off 3 = .ok (.iload_n 3, 1) := by decide +kernel
theorem dX2_off_4 : decode cX2_off 4 = .ok (.invokestatic 18, 3) := by decide +kernel
theorem dX2_off_7 : decode cX2_off 7 = .ok (.iload_n 3, 1) := by decide +kernel
theorem dX2_off_8 : decode cX2_off 8 = .ok (.imul, 1) := by decide +kernel
theorem dX2_off_9 : decode cX2_off 9 = .ok (.istore 4, 2) := by decide +kernel
theorem dX2_off_11 : decode cX2_off 11 = .ok (.iload 4, 2) := by decide +kernel
theorem dX2_off_13 : decode cX2_off 13 = .ok (.iload_n 0, 1) := by decide +kernel
theorem dX2_off_14 : decode cX2_off 14 = .ok (.if_icmp .ge 10, 3) := by decide +kernel
theorem dX2_off_17 : decode cX2_off 17 = .ok (.iload_n 0, 1) := by decide +kernel
theorem dX2_off_18 : decode cX2_off 18 = .ok (.iload 4, 2) := by decide +kernel
theorem dX2_off_20 : decode cX2_off 20 = .ok (.isub, 1) := by decide +kernel
theorem dX2_off_21 : decode cX2_off 21 = .ok (.goto 11, 3) := by decide +kernel
theorem dX2_off_24 : decode cX2_off 24 = .ok (.iconst 0, 1) := by decide +kernel
theorem dX2_off_25 : decode cX2_off 25 = .ok (.iload 4, 2) := by decide +kernel
theorem dX2_off_27 : decode cX2_off 27 = .ok (.iload_n 1, 1) := by decide +kernel
theorem dX2_off_28 : decode cX2_off 28 = .ok (.isub, 1) := by decide +kernel
theorem dX2_off_29 : decode cX2_off 29 = .ok (.invokestatic 15, 3) := by decide +kernel
theorem dX2_off_32 : decode cX2_off 32 = .ok (.istore 5, 2) := by decide +kernel
theorem dX2_off_34 : decode cX2_off 34 = .ok (.iload_n 3, 1) := by decide +kernel
theorem dX2_off_35 : decode cX2_off 35 = .ok (.iload 5, 2) := by decide +kernel
theorem dX2_off_37 : decode cX2_off 37 = .ok (.invokestatic 9, 3) := by decide +kernel
theorem dX2_off_40 : decode cX2_off 40 = .ok (.ireturn, 1) := by decide +kernel
theorem dX2_times_0 : decode cX2_times 0 = .ok (.iload_n 2, 1) := by decide +kernel
theorem dX2_times_1 : decode cX2_times 1 = .ok (.ifCond .le 5, 3) := by decide +kernel
theorem dX2_times_4 : decode cX2_times 4 = .ok (.iload_n 2, 1) := by decide +kernel
theorem dX2_times_5 : decode cX2_times 5 = .ok (.ireturn, 1) := by decide +kernel
theorem dX2_times_6 : decode cX2_times 6 = .ok (.iload_n 3, 1) := by decide +kernel
theorem dX2_times_7 : decode cX2_times 7 = .ok (.ifCond .le 9, 3) := by decide +kernel
theorem dX2_times_10 : decode cX2_times 10 = .ok (.iload_n 0, 1) := by decide +kernel
theorem dX2_times_11 : decode cX2_times 11 = .ok (.iload_n 3, 1) := by decide +kernel
theorem dX2_times_12 : decode cX2_times 12 = .ok (.idiv, 1) := by decide +kernel
theorem dX2_times_13 : decode cX2_times 13 = .ok (.goto 4, 3) := by decide +kernel
theorem dX2_times_16 : decode cX2_times 16 = .ok (.iconst 0, 1) := by decide +kernel
theorem dX2_times_17 : decode cX2_times 17 = .ok (.istore 4, 2) := by decide +kernel
theorem dX2_times_19 : decode cX2_times 19 = .ok (.iload 4, 2) := by decide +kernel
theorem dX2_times_21 : decode cX2_times 21 = .ok (.iconst 1, 1) := by decide +kernel
theorem dX2_times_22 : decode cX2_times 22 = .ok (.if_icmp .ge 5, 3) := by decide +kernel
theorem dX2_times_25 : decode cX2_times 25 = .ok (.iconst 1, 1) := by decide +kernel
theorem dX2_times_26 : decode cX2_times 26 = .ok (.ireturn, 1) := by decide +kernel
theorem dX2_times_27 : decode cX2_times 27 = .ok (.iload_n 0, 1) := by decide +kernel
theorem dX2_times_28 : decode cX2_times 28 = .ok (.iload 4, 2) := by decide +kernel
theorem dX2_times_30 : decode cX2_times 30 = .ok (.iload_n 3, 1) := by decide +kernel
theorem dX2_times_31 : decode cX2_times 31 = .ok (.imul, 1) := by decide +kernel
theorem dX2_times_32 : decode cX2_times 32 = .ok (.isub, 1) := by decide +kernel
theorem dX2_times_33 : decode cX2_times 33 = .ok (.istore 5, 2) := by decide +kernel
theorem dX2_times_35 : decode cX2_times 35 = .ok (.iload 4, 2) := by decide +kernel
theorem dX2_times_37 : decode cX2_times 37 = .ok (.iconst 1, 1) := by decide +kernel
theorem dX2_times_38 : decode cX2_times 38 = .ok (.iadd, 1) := by decide +kernel
theorem dX2_times_39 : decode cX2_times 39 = .ok (.iload_n 3, 1) := by decide +kernel
theorem dX2_times_40 : decode cX2_times 40 = .ok (.imul, 1) := by decide +kernel
theorem dX2_times_41 : decode cX2_times 41 = .ok (.iload_n 1, 1) := by decide +kernel
theorem dX2_times_42 : decode cX2_times 42 = .ok (.isub, 1) := by decide +kernel
theorem dX2_times_43 : decode cX2_times 43 = .ok (.istore 6, 2) := by decide +kernel
theorem dX2_times_45 : decode cX2_times 45 = .ok (.iload 5, 2) := by decide +kernel
theorem dX2_times_47 : decode cX2_times 47 = .ok (.iload 6, 2) := by decide +kernel
theorem dX2_times_49 : decode cX2_times 49 = .ok (.if_icmp .le 8, 3) := by decide +kernel
theorem dX2_times_52 : decode cX2_times 52 = .ok (.iload 5, 2) := by decide +kernel
theorem dX2_times_54 : decode cX2_times 54 = .ok (.ifCond .ne 8, 3) := by decide +kernel
theorem dX2_times_57 : decode cX2_times 57 = .ok (.iload 4, 2) := by decide +kernel
theorem dX2_times_59 : decode cX2_times 59 = .ok (.goto 7, 3) := by decide +kernel
theorem dX2_times_62 : decode cX2_times 62 = .ok (.iload 4, 2) := by decide +kernel
theorem dX2_times_64 : decode cX2_times 64 = .ok (.iconst 1, 1) := by decide +kernel
theorem dX2_times_65 : decode cX2_times 65 = .ok (.iadd, 1) := by decide +kernel
theorem dX2_times_66 : decode cX2_times 66 = .ok (.ireturn, 1) := by decide +kernel
theorem dX2_shortage_0 : decode cX2_shortage 0 = .ok (.iload_n 2, 1) := by decide +kernel
theorem dX2_shortage_1 : decode cX2_shortage 1 = .ok (.ifCond .le 15, 3) := by decide +kernel
theorem dX2_shortage_4 : decode cX2_shortage 4 = .ok (.iconst 2, 1) := by decide +kernel
theorem dX2_shortage_5 : decode cX2_shortage 5 = .ok (.iload_n 0, 1) := by decide +kernel
theorem dX2_shortage_6 : decode cX2_shortage 6 = .ok (.imul, 1) := by decide +kernel
theorem dX2_shortage_7 : decode cX2_shortage 7 = .ok (.iload_n 2, 1) := by decide +kernel
theorem dX2_shortage_8 : decode cX2_shortage 8 = .ok (.iadd, 1) := by decide +kernel
theorem dX2_shortage_9 : decode cX2_shortage 9 = .ok (.iconst 2, 1) := by decide +kernel
theorem dX2_shortage_10 : decode cX2_shortage 10 = .ok (.iload_n 2, 1) := by decide +kernel
theorem dX2_shortage_11 : decode cX2_shortage 11 = .ok (.imul, 1) := by decide +kernel
theorem dX2_shortage_12 : decode cX2_shortage 12 = .ok (.idiv, 1) := by decide +kernel
theorem dX2_shortage_13 : decode cX2_shortage 13 = .ok (.goto 4, 3) := by decide +kernel
theorem dX2_shortage_16 : decode cX2_shortage 16 = .ok (.iconst 0, 1) := by decide +kernel
theorem dX2_shortage_17 : decode cX2_shortage 17 = .ok (.istore_n 3, 1) := by decide +kernel
theorem dX2_shortage_18 : decode cX2_shortage 18 = .ok (.iload_n 1, 1) := by decide +kernel
theorem dX2_shortage_19 : decode cX2_shortage 19 = .ok (.ifCond .le 7, 3) := by decide +kernel
theorem dX2_shortage_22 : decode cX2_shortage 22 = .ok (.iload_n 1, 1) := by decide +kernel
theorem dX2_shortage_23 : decode cX2_shortage 23 = .ok (.goto 8, 3) := by decide +kernel
theorem dX2_shortage_26 : decode cX2_shortage 26 = .ok (.iconst 1, 1) := by decide +kernel
theorem dX2_shortage_27 : decode cX2_shortage 27 = .ok (.iload_n 3, 1) := by decide +kernel
theorem dX2_shortage_28 : decode cX2_shortage 28 = .ok (.invokestatic 15, 3) := by decide +kernel
theorem dX2_shortage_31 : decode cX2_shortage 31 = .ok (.istore 4, 2) := by decide +kernel
theorem dX2_shortage_33 : decode cX2_shortage 33 = .ok (.iconst 0, 1) := by decide +kernel
theorem dX2_shortage_34 : decode cX2_shortage 34 = .ok (.iload 4, 2) := by decide +kernel
theorem dX2_shortage_36 : decode cX2_shortage 36 = .ok (.iload_n 2, 1) := by decide +kernel
theorem dX2_shortage_37 : decode cX2_shortage 37 = .ok (.imul, 1) := by decide +kernel
theorem dX2_shortage_38 : decode cX2_shortage 38 = .ok (.iload_n 0, 1) := by decide +kernel
theorem dX2_shortage_39 : decode cX2_shortage 39 = .ok (.isub, 1) := by decide +kernel
theorem dX2_shortage_40 : decode cX2_shortage 40 = .ok (.invokestatic 15, 3) := by decide +kernel
theorem dX2_shortage_43 : decode cX2_shortage 43 = .ok (.ireturn, 1) := by decide +kernel
theorem dX2_luckyPlaces_0 : decode cX2_luckyPlaces 0 = .ok (.iload_n 1, 1) := by decide +kernel
theorem dX2_luckyPlaces_1 : decode cX2_luckyPlaces 1 = .ok (.iconst 2, 1) := by decide +kernel
theorem dX2_luckyPlaces_2 : decode cX2_luckyPlaces 2 = .ok (.iload_n 1, 1) := by decide +kernel
theorem dX2_luckyPlaces_3 : decode cX2_luckyPlaces 3 = .ok (.bipush 8, 2) := by decide +kernel
theorem dX2_luckyPlaces_5 : decode cX2_luckyPlaces 5 = .ok (.idiv, 1) := by decide +kernel
theorem dX2_luckyPlaces_6 : decode cX2_luckyPlaces 6 = .ok (.imul, 1) := by decide +kernel
theorem dX2_luckyPlaces_7 : decode cX2_luckyPlaces 7 = .ok (.iconst 1, 1) := by decide +kernel
theorem dX2_luckyPlaces_8 : decode cX2_luckyPlaces 8 = .ok (.iadd, 1) := by decide +kernel
theorem dX2_luckyPlaces_9 : decode cX2_luckyPlaces 9 = .ok (.iload_n 0, 1) := by decide +kernel
theorem dX2_luckyPlaces_10 : decode cX2_luckyPlaces 10 = .ok (.iadd, 1) := by decide +kernel
theorem dX2_luckyPlaces_11 : decode cX2_luckyPlaces 11 = .ok (.invokestatic 9, 3) := by decide +kernel
theorem dX2_luckyPlaces_14 : decode cX2_luckyPlaces 14 = .ok (.ireturn, 1) := by decide +kernel
theorem dX3_init_0 : decode cX3_init 0 = .ok (.aload_n 0, 1) := by decide +kernel
theorem dX3_init_1 : decode cX3_init 1 = .ok (.invokespecial 3, 3) := by decide +kernel
theorem dX3_init_4 : decode cX3_init 4 = .ok (.aload_n 0, 1) := by decide +kernel
theorem dX3_init_5 : decode cX3_init 5 = .ok (.bipush 33, 2) := by decide +kernel
theorem dX3_init_7 : decode cX3_init 7 = .ok (.newarray .long, 2) := by decide +kernel
theorem dX3_init_9 : decode cX3_init 9 = .ok (.putfield 9, 3) := by decide +kernel
theorem dX3_init_12 : decode cX3_init 12 = .ok (.return_, 1) := by decide +kernel
theorem dX3_ofNear_0 : decode cX3_ofNear 0 = .ok (.aload_n 0, 1) := by decide +kernel
theorem dX3_ofNear_1 : decode cX3_ofNear 1 = .ok (.invokevirtual 15, 3) := by decide +kernel
theorem dX3_ofNear_4 : decode cX3_ofNear 4 = .ok (.iconst 0, 1) := by decide +kernel
theorem dX3_ofNear_5 : decode cX3_ofNear 5 = .ok (.istore 4, 2) := by decide +kernel
theorem dX3_ofNear_7 : decode cX3_ofNear 7 = .ok (.iload 4, 2) := by decide +kernel
theorem dX3_ofNear_9 : decode cX3_ofNear 9 = .ok (.aload_n 1, 1) := by decide +kernel
theorem dX3_ofNear_10 : decode cX3_ofNear 10 = .ok (.getfield 18, 3) := by decide +kernel
theorem dX3_ofNear_13 : decode cX3_ofNear 13 = .ok (.if_icmp .ge 21, 3) := by decide +kernel
theorem dX3_ofNear_16 : decode cX3_ofNear 16 = .ok (.aload_n 0, 1) := by decide +kernel
theorem dX3_ofNear_17 : decode cX3_ofNear 17 = .ok (.aload_n 1, 1) := by decide +kernel
theorem dX3_ofNear_18 : decode cX3_ofNear 18 = .ok (.iload 4, 2) := by decide +kernel
theorem dX3_ofNear_20 : decode cX3_ofNear 20 = .ok (.iload_n 2, 1) := by decide +kernel
theorem dX3_ofNear_21 : decode cX3_ofNear 21 = .ok (.invokevirtual 24, 3) := by decide +kernel
theorem dX3_ofNear_24 : decode cX3_ofNear 24 = .ok (.iload_n 2, 1) := by decide +kernel
theorem dX3_ofNear_25 : decode cX3_ofNear 25 = .ok (.invokevirtual 28, 3) := by decide +kernel
theorem dX3_ofNear_28 : decode cX3_ofNear 28 = .ok (.iinc 4 1, 3) := by decide +kernel
theorem dX3_ofNear_31 : decode cX3_ofNear 31 = .ok (.goto (-24), 3) := by decide +kernel
theorem dX3_ofNear_34 : decode cX3_ofNear 34 = .ok (.aload_n 0, 1) := by decide +kernel
theorem dX3_ofNear_35 : decode cX3_ofNear 35 = .ok (.iload_n 3, 1) := by decide +kernel
theorem dX3_ofNear_36 : decode cX3_ofNear 36 = .ok (.invokevirtual 32, 3) := by decide +kernel
theorem dX3_ofNear_39 : decode cX3_ofNear 39 = .ok (.ireturn, 1) := by decide +kernel
theorem dX3_ofShort_0 : decode cX3_ofShort 0 = .ok (.aload_n 0, 1) := by decide +kernel
theorem dX3_ofShort_1 : decode cX3_ofShort 1 = .ok (.invokevirtual 15, 3) := by decide +kernel
theorem dX3_ofShort_4 : decode cX3_ofShort 4 = .ok (.iconst 0, 1) := by decide +kernel
theorem dX3_ofShort_5 : decode cX3_ofShort 5 = .ok (.istore_n 3, 1) := by decide +kernel
theorem dX3_ofShort_6 : decode cX3_ofShort 6 = .ok (.iload_n 3, 1) := by decide +kernel
theorem dX3_ofShort_7 : decode cX3_ofShort 7 = .ok (.iload_n 1, 1) := by decide +kernel
theorem dX3_ofShort_8 : decode cX3_ofShort 8 = .ok (.if_icmp .ge 21, 3) := by decide +kernel
theorem dX3_ofShort_11 : decode cX3_ofShort 11 = .ok (.iload_n 3, 1) := by decide +kernel
theorem dX3_ofShort_12 : decode cX3_ofShort 12 = .ok (.bipush 32, 2) := by decide +kernel
theorem dX3_ofShort_14 : decode cX3_ofShort 14 = .ok (.if_icmp .ge 15, 3) := by decide +kernel
theorem dX3_ofShort_17 : decode cX3_ofShort 17 = .ok (.aload_n 0, 1) := by decide +kernel
theorem dX3_ofShort_18 : decode cX3_ofShort 18 = .ok (.iconst 1, 1) := by decide +kernel
theorem dX3_ofShort_19 : decode cX3_ofShort 19 = .ok (.iconst 2, 1) := by decide +kernel
theorem dX3_ofShort_20 : decode cX3_ofShort 20 = .ok (.invokevirtual 28, 3) := by decide +kernel
theorem dX3_ofShort_23 : decode cX3_ofShort 23 = .ok (.iinc 3 1, 3) := by decide +kernel
theorem dX3_ofShort_26 : decode cX3_ofShort 26 = .ok (.goto (-20), 3) := by decide +kernel
theorem dX3_ofShort_29 : decode cX3_ofShort 29 = .ok (.aload_n 0, 1) := by decide +kernel
theorem dX3_ofShort_30 : decode cX3_ofShort 30 = .ok (.iload_n 2, 1) := by decide +kernel
theorem dX3_ofShort_31 : decode cX3_ofShort 31 = .ok (.invokevirtual 32, 3) := by decide +kernel
theorem dX3_ofShort_34 : decode cX3_ofShort 34 = .ok (.ireturn, 1) := by decide +kernel
theorem dX3_begin_0 : decode cX3_begin 0 = .ok (.aload_n 0, 1) := by decide +kernel
theorem dX3_begin_1 : decode cX3_begin 1 = .ok (.getfield 9, 3) := by decide +kernel
theorem dX3_begin_4 : decode cX3_begin 4 = .ok (.iconst 0, 1) := by decide +kernel
theorem dX3_begin_5 : decode cX3_begin 5 = .ok (.ldc2_w 36, 3) := by decide +kernel
theorem dX3_begin_8 : decode cX3_begin 8 = .ok (.lastore, 1) := by decide +kernel
theorem dX3_begin_9 : decode cX3_begin 9 = .ok (.iconst 1, 1) := by decide +kernel
theorem dX3_begin_10 : decode cX3_begin 10 = .ok (.istore_n 1, 1) := by decide +kernel
theorem dX3_begin_11 : decode cX3_begin 11 = .ok (.iload_n 1, 1) := by decide +kernel
theorem dX3_begin_12 : decode cX3_begin 12 = .ok (.bipush 32, 2) := by decide +kernel
theorem dX3_begin_14 : decode cX3_begin 14 = .ok (.if_icmp .gt 16, 3) := by decide +kernel
theorem dX3_begin_17 : decode cX3_begin 17 = .ok (.aload_n 0, 1) := by decide +kernel
theorem dX3_begin_18 : decode cX3_begin 18 = .ok (.getfield 9, 3) := by decide +kernel
theorem dX3_begin_21 : decode cX3_begin 21 = .ok (.iload_n 1, 1) := by decide +kernel
theorem dX3_begin_22 : decode cX3_begin 22 = .ok (.lconst 0, 1) := by decide +kernel
theorem dX3_begin_23 : decode cX3_begin 23 = .ok (.lastore, 1) := by decide +kernel
theorem dX3_begin_24 : decode cX3_begin 24 = .ok (.iinc 1 1, 3) := by decide +kernel
theorem dX3_begin_27 : decode cX3_begin 27 = .ok (.goto (-16), 3) := by decide +kernel
theorem dX3_begin_30 : decode cX3_begin 30 = .ok (.return_, 1) := by decide +kernel
theorem dX3_draw_0 : decode cX3_draw 0 = .ok (.iload_n 2, 1) := by decide +kernel
theorem dX3_draw_1 : decode cX3_draw 1 = .ok (.iconst 1, 1) := by decide +kernel
theorem dX3_draw_2 : decode cX3_draw 2 = .ok (.if_icmp .ge 4, 3) := by decide +kernel
theorem dX3_draw_5 : decode cX3_draw 5 = .ok (.return_, 1) := by decide +kernel
theorem dX3_draw_6 : decode cX3_draw 6 = .ok (.bipush 32, 2) := by decide +kernel
theorem dX3_draw_8 : decode cX3_draw 8 = .ok (.istore_n 3, 1) := by decide +kernel
theorem dX3_draw_9 : decode cX3_draw 9 = .ok (.iload_n 3, 1) := by decide +kernel
theorem dX3_draw_10 : decode cX3_draw 10 = .ok (.ifCond .le 41, 3) := by decide +kernel
theorem dX3_draw_13 : decode cX3_draw 13 = .ok (.aload_n 0, 1) := by decide +kernel
theorem dX3_draw_14 : decode cX3_draw 14 = .ok (.getfield 9, 3) := by decide +kernel
theorem dX3_draw_17 : decode cX3_draw 17 = .ok (.iload_n 3, 1) := by decide +kernel
theorem dX3_draw_18 : decode cX3_draw 18 = .ok (.aload_n 0, 1) := by decide +kernel
theorem dX3_draw_19 : decode cX3_draw 19 = .ok (.getfield 9, 3) := by decide +kernel
theorem dX3_draw_22 : decode cX3_draw 22 = .ok (.iload_n 3, 1) := by decide +kernel
theorem dX3_draw_23 : decode cX3_draw 23 = .ok (.laload, 1) := by decide +kernel
theorem dX3_draw_24 : decode cX3_draw 24 = .ok (.iload_n 2, 1) := by decide +kernel
theorem dX3_draw_25 : decode cX3_draw 25 = .ok (.iload_n 1, 1) := by decide +kernel
theorem dX3_draw_26 : decode cX3_draw 26 = .ok (.isub, 1) := by decide +kernel
theorem dX3_draw_27 : decode cX3_draw 27 = .ok (.i2l, 1) := by decide +kernel
theorem dX3_draw_28 : decode cX3_draw 28 = .ok (.lmul, 1) := by decide +kernel
theorem dX3_draw_29 : decode cX3_draw 29 = .ok (.aload_n 0, 1) := by decide +kernel
theorem dX3_draw_30 : decode cX3_draw 30 = .ok (.getfield 9, 3) := by decide +kernel
theorem dX3_draw_33 : decode cX3_draw 33 = .ok (.iload_n 3, 1) := by decide +kernel
theorem dX3_draw_34 : decode cX3_draw 34 = .ok (.iconst 1, 1) := by decide +kernel
theorem dX3_draw_35 : decode cX3_draw 35 = .ok (.isub, 1) := by decide +kernel
theorem dX3_draw_36 : decode cX3_draw 36 = .ok (.laload, 1) := by decide +kernel
theorem dX3_draw_37 : decode cX3_draw 37 = .ok (.iload_n 1, 1) := by decide +kernel
theorem dX3_draw_38 : decode cX3_draw 38 = .ok (.i2l, 1) := by decide +kernel
theorem dX3_draw_39 : decode cX3_draw 39 = .ok (.lmul, 1) := by decide +kernel
theorem dX3_draw_40 : decode cX3_draw 40 = .ok (.ladd, 1) := by decide +kernel
theorem dX3_draw_41 : decode cX3_draw 41 = .ok (.iload_n 2, 1) := by decide +kernel
theorem dX3_draw_42 : decode cX3_draw 42 = .ok (.i2l, 1) := by decide +kernel
theorem dX3_draw_43 : decode cX3_draw 43 = .ok (.ldiv, 1) := by decide +kernel
theorem dX3_draw_44 : decode cX3_draw 44 = .ok (.lastore, 1) := by decide +kernel
theorem dX3_draw_45 : decode cX3_draw 45 = .ok (.iinc 3 (-1), 3) := by decide +kernel
theorem dX3_draw_48 : decode cX3_draw 48 = .ok (.goto (-39), 3) := by decide +kernel
theorem dX3_draw_51 : decode cX3_draw 51 = .ok (.aload_n 0, 1) := by decide +kernel
theorem dX3_draw_52 : decode cX3_draw 52 = .ok (.getfield 9, 3) := by decide +kernel
theorem dX3_draw_55 : decode cX3_draw 55 = .ok (.iconst 0, 1) := by decide +kernel
theorem dX3_draw_56 : decode cX3_draw 56 = .ok (.aload_n 0, 1) := by decide +kernel
theorem dX3_draw_57 : decode cX3_draw 57 = .ok (.getfield 9, 3) := by decide +kernel
theorem dX3_draw_60 : decode cX3_draw 60 = .ok (.iconst 0, 1) := by decide +kernel
theorem dX3_draw_61 : decode cX3_draw 61 = .ok (.laload, 1) := by decide +kernel
theorem dX3_draw_62 : decode cX3_draw 62 = .ok (.iload_n 2, 1) := by decide +kernel
theorem dX3_draw_63 : decode cX3_draw 63 = .ok (.iload_n 1, 1) := by decide +kernel
theorem dX3_draw_64 : decode cX3_draw 64 = .ok (.isub, 1) := by decide +kernel
theorem dX3_draw_65 : decode cX3_draw 65 = .ok (.i2l, 1) := by decide +kernel
theorem dX3_draw_66 : decode cX3_draw 66 = .ok (.lmul, 1) := by decide +kernel
theorem dX3_draw_67 : decode cX3_draw 67 = .ok (.iload_n 2, 1) := by decide +kernel
theorem dX3_draw_68 : decode cX3_draw 68 = .ok (.i2l, 1) := by decide +kernel
theorem dX3_draw_69 : decode cX3_draw 69 = .ok (.ldiv, 1) := by decide +kernel
theorem dX3_draw_70 : decode cX3_draw 70 = .ok (.lastore, 1) := by decide +kernel
theorem dX3_draw_71 : decode cX3_draw 71 = .ok (.return_, 1) := by decide +kernel
theorem dX3_from_0 : decode cX3_from 0 = .ok (.lconst 0, 1) := by decide +kernel
theorem dX3_from_1 : decode cX3_from 1 = .ok (.lstore_n 2, 1) := by decide +kernel
theorem dX3_from_2 : decode cX3_from 2 = .ok (.iconst 0, 1) := by decide +kernel
theorem dX3_from_3 : decode cX3_from 3 = .ok (.iload_n 1, 1) := by decide +kernel
theorem dX3_from_4 : decode cX3_from 4 = .ok (.invokestatic 38, 3) := by decide +kernel
theorem dX3_from_7 : decode cX3_from 7 = .ok (.istore 4, 2) := by decide +kernel
theorem dX3_from_9 : decode cX3_from 9 = .ok (.iload 4, 2) := by decide +kernel
theorem dX3_from_11 : decode cX3_from 11 = .ok (.bipush 32, 2) := by decide +kernel
theorem dX3_from_13 : decode cX3_from 13 = .ok (.if_icmp .gt 19, 3) := by decide +kernel
theorem dX3_from_16 : decode cX3_from 16 = .ok (.lload_n 2, 1) := by decide +kernel
theorem dX3_from_17 : decode cX3_from 17 = .ok (.aload_n 0, 1) := by decide +kernel
theorem dX3_from_18 : decode cX3_from 18 = .ok (.getfield 9, 3) := by decide +kernel
theorem dX3_from_21 : decode cX3_from 21 = .ok (.iload 4, 2) := by decide +kernel
theorem dX3_from_23 : decode cX3_from 23 = .ok (.laload, 1) := by decide +kernel
theorem dX3_from_24 : decode cX3_from 24 = .ok (.ladd, 1) := by decide +kernel
theorem dX3_from_25 : decode cX3_from 25 = .ok (.lstore_n 2, 1) := by decide +kernel
theorem dX3_from_26 : decode cX3_from 26 = .ok (.iinc 4 1, 3) := by decide +kernel
theorem dX3_from_29 : decode cX3_from 29 = .ok (.goto (-20), 3) := by decide +kernel
theorem dX3_from_32 : decode cX3_from 32 = .ok (.lload_n 2, 1) := by decide +kernel
theorem dX3_from_33 : decode cX3_from 33 = .ok (.l2i, 1) := by decide +kernel
theorem dX3_from_34 : decode cX3_from 34 = .ok (.ireturn, 1) := by decide +kernel
theorem dX4_init_0 : decode cX4_init 0 = .ok (.aload_n 0, 1) := by decide +kernel
theorem dX4_init_1 : decode cX4_init 1 = .ok (.invokespecial 3, 3) := by decide +kernel
theorem dX4_init_4 : decode cX4_init 4 = .ok (.aload_n 0, 1) := by decide +kernel
theorem dX4_init_5 : decode cX4_init 5 = .ok (.iconst 0, 1) := by decide +kernel
theorem dX4_init_6 : decode cX4_init 6 = .ok (.putfield 9, 3) := by decide +kernel
theorem dX4_init_9 : decode cX4_init 9 = .ok (.aload_n 0, 1) := by decide +kernel
theorem dX4_init_10 : decode cX4_init 10 = .ok (.bipush 32, 2) := by decide +kernel
theorem dX4_init_12 : decode cX4_init 12 = .ok (.newarray .int, 2) := by decide +kernel
theorem dX4_init_14 : decode cX4_init 14 = .ok (.putfield 15, 3) := by decide +kernel
theorem dX4_init_17 : decode cX4_init 17 = .ok (.aload_n 0, 1) := by decide +kernel
theorem dX4_init_18 : decode cX4_init 18 = .ok (.bipush 32, 2) := by decide +kernel
theorem dX4_init_20 : decode cX4_init 20 = .ok (.newarray .int, 2) := by decide +kernel
theorem dX4_init_22 : decode cX4_init 22 = .ok (.putfield 19, 3) := by decide +kernel
theorem dX4_init_25 : decode cX4_init 25 = .ok (.aload_n 0, 1) := by decide +kernel
theorem dX4_init_26 : decode cX4_init 26 = .ok (.bipush 32, 2) := by decide +kernel
