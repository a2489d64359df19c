theorem dX11_look_317 : decode cX11_look 317 = .ok (.aload_n 0, 1) := by decide +kernel
theorem dX11_look_318 : decode cX11_look 318 = .ok (.getfield 114, 3) := by decide +kernel
theorem dX11_look_321 : decode cX11_look 321 = .ok (.iload_n 2, 1) := by decide +kernel
theorem dX11_look_322 : decode cX11_look 322 = .ok (.aload_n 0, 1) := by decide +kernel
theorem dX11_look_323 : decode cX11_look 323 = .ok (.iload_n 2, 1) := by decide +kernel
theorem dX11_look_324 : decode cX11_look 324 = .ok (.invokevirtual 308, 3) := by decide +kernel
theorem dX11_look_327 : decode cX11_look 327 = .ok (.bastore, 1) := by decide +kernel
theorem dX11_look_328 : decode cX11_look 328 = .ok (.iinc 2 1, 3) := by decide +kernel
theorem dX11_look_331 : decode cX11_look 331 = .ok (.goto (-43), 3) := by decide +kernel
theorem dX11_look_334 : decode cX11_look 334 = .ok (.return_, 1) := by decide +kernel
theorem dX11_those_0 : decode cX11_those 0 = .ok (.iconst 0, 1) := by decide +kernel
theorem dX11_those_1 : decode cX11_those 1 = .ok (.istore_n 1, 1) := by decide +kernel
theorem dX11_those_2 : decode cX11_those 2 = .ok (.iconst 0, 1) := by decide +kernel
theorem dX11_those_3 : decode cX11_those 3 = .ok (.istore_n 2, 1) := by decide +kernel
theorem dX11_those_4 : decode cX11_those 4 = .ok (.iload_n 2, 1) := by decide +kernel
theorem dX11_those_5 : decode cX11_those 5 = .ok (.aload_n 0, 1) := by decide +kernel
theorem dX11_those_6 : decode cX11_those 6 = .ok (.getfield 302, 3) := by decide +kernel
theorem dX11_those_9 : decode cX11_those 9 = .ok (.if_icmp .ge 26, 3) := by decide +kernel
theorem dX11_those_12 : decode cX11_those 12 = .ok (.iload_n 1, 1) := by decide +kernel
theorem dX11_those_13 : decode cX11_those 13 = .ok (.aload_n 0, 1) := by decide +kernel
theorem dX11_those_14 : decode cX11_those 14 = .ok (.getfield 114, 3) := by decide +kernel
theorem dX11_those_17 : decode cX11_those 17 = .ok (.iload_n 2, 1) := by decide +kernel
theorem dX11_those_18 : decode cX11_those 18 = .ok (.baload, 1) := by decide +kernel
theorem dX11_those_19 : decode cX11_those 19 = .ok (.ifCond .eq 7, 3) := by decide +kernel
theorem dX11_those_22 : decode cX11_those 22 = .ok (.iconst 1, 1) := by decide +kernel
theorem dX11_those_23 : decode cX11_those 23 = .ok (.goto 4, 3) := by decide +kernel
theorem dX11_those_26 : decode cX11_those 26 = .ok (.iconst 0, 1) := by decide +kernel
theorem dX11_those_27 : decode cX11_those 27 = .ok (.iadd, 1) := by decide +kernel
theorem dX11_those_28 : decode cX11_those 28 = .ok (.istore_n 1, 1) := by decide +kernel
theorem dX11_those_29 : decode cX11_those 29 = .ok (.iinc 2 1, 3) := by decide +kernel
theorem dX11_those_32 : decode cX11_those 32 = .ok (.goto (-28), 3) := by decide +kernel
theorem dX11_those_35 : decode cX11_those 35 = .ok (.iload_n 1, 1) := by decide +kernel
theorem dX11_those_36 : decode cX11_those 36 = .ok (.ireturn, 1) := by decide +kernel
theorem dX11_choose_0 : decode cX11_choose 0 = .ok (.aload_n 0, 1) := by decide +kernel
theorem dX11_choose_1 : decode cX11_choose 1 = .ok (.iconst 0, 1) := by decide +kernel
theorem dX11_choose_2 : decode cX11_choose 2 = .ok (.putfield 130, 3) := by decide +kernel
theorem dX11_choose_5 : decode cX11_choose 5 = .ok (.iload_n 3, 1) := by decide +kernel
theorem dX11_choose_6 : decode cX11_choose 6 = .ok (.sipush (-3000), 3) := by decide +kernel
theorem dX11_choose_9 : decode cX11_choose 9 = .ok (.sipush 1900, 3) := by decide +kernel
theorem dX11_choose_12 : decode cX11_choose 12 = .ok (.invokestatic 138, 3) := by decide +kernel
theorem dX11_choose_15 : decode cX11_choose 15 = .ok (.ifCond .eq 25, 3) := by decide +kernel
theorem dX11_choose_18 : decode cX11_choose 18 = .ok (.iload 4, 2) := by decide +kernel
theorem dX11_choose_20 : decode cX11_choose 20 = .ok (.iload_n 3, 1) := by decide +kernel
theorem dX11_choose_21 : decode cX11_choose 21 = .ok (.sipush 1900, 3) := by decide +kernel
theorem dX11_choose_24 : decode cX11_choose 24 = .ok (.invokestatic 138, 3) := by decide +kernel
theorem dX11_choose_27 : decode cX11_choose 27 = .ok (.ifCond .eq 13, 3) := by decide +kernel
theorem dX11_choose_30 : decode cX11_choose 30 = .ok (.iload 5, 2) := by decide +kernel
theorem dX11_choose_32 : decode cX11_choose 32 = .ok (.iconst 0, 1) := by decide +kernel
theorem dX11_choose_33 : decode cX11_choose 33 = .ok (.iconst 2, 1) := by decide +kernel
theorem dX11_choose_34 : decode cX11_choose 34 = .ok (.invokestatic 138, 3) := by decide +kernel
theorem dX11_choose_37 : decode cX11_choose 37 = .ok (.ifCond .ne 5, 3) := by decide +kernel
theorem dX11_choose_40 : decode cX11_choose 40 = .ok (.iconst 0, 1) := by decide +kernel
theorem dX11_choose_41 : decode cX11_choose 41 = .ok (.ireturn, 1) := by decide +kernel
theorem dX11_choose_42 : decode cX11_choose 42 = .ok (.aload_n 0, 1) := by decide +kernel
theorem dX11_choose_43 : decode cX11_choose 43 = .ok (.getfield 41, 3) := by decide +kernel
theorem dX11_choose_46 : decode cX11_choose 46 = .ok (.iconst 0, 1) := by decide +kernel
theorem dX11_choose_47 : decode cX11_choose 47 = .ok (.iload_n 1, 1) := by decide +kernel
theorem dX11_choose_48 : decode cX11_choose 48 = .ok (.iastore, 1) := by decide +kernel
theorem dX11_choose_49 : decode cX11_choose 49 = .ok (.aload_n 0, 1) := by decide +kernel
theorem dX11_choose_50 : decode cX11_choose 50 = .ok (.getfield 44, 3) := by decide +kernel
theorem dX11_choose_53 : decode cX11_choose 53 = .ok (.iconst 0, 1) := by decide +kernel
theorem dX11_choose_54 : decode cX11_choose 54 = .ok (.iload_n 2, 1) := by decide +kernel
theorem dX11_choose_55 : decode cX11_choose 55 = .ok (.iastore, 1) := by decide +kernel
theorem dX11_choose_56 : decode cX11_choose 56 = .ok (.aload_n 0, 1) := by decide +kernel
theorem dX11_choose_57 : decode cX11_choose 57 = .ok (.getfield 47, 3) := by decide +kernel
theorem dX11_choose_60 : decode cX11_choose 60 = .ok (.iconst 0, 1) := by decide +kernel
theorem dX11_choose_61 : decode cX11_choose 61 = .ok (.iload_n 3, 1) := by decide +kernel
theorem dX11_choose_62 : decode cX11_choose 62 = .ok (.iastore, 1) := by decide +kernel
theorem dX11_choose_63 : decode cX11_choose 63 = .ok (.aload_n 0, 1) := by decide +kernel
theorem dX11_choose_64 : decode cX11_choose 64 = .ok (.getfield 47, 3) := by decide +kernel
theorem dX11_choose_67 : decode cX11_choose 67 = .ok (.iconst 1, 1) := by decide +kernel
theorem dX11_choose_68 : decode cX11_choose 68 = .ok (.iload 4, 2) := by decide +kernel
theorem dX11_choose_70 : decode cX11_choose 70 = .ok (.iastore, 1) := by decide +kernel
theorem dX11_choose_71 : decode cX11_choose 71 = .ok (.aload_n 0, 1) := by decide +kernel
theorem dX11_choose_72 : decode cX11_choose 72 = .ok (.getfield 50, 3) := by decide +kernel
theorem dX11_choose_75 : decode cX11_choose 75 = .ok (.iconst 0, 1) := by decide +kernel
theorem dX11_choose_76 : decode cX11_choose 76 = .ok (.iload 5, 2) := by decide +kernel
theorem dX11_choose_78 : decode cX11_choose 78 = .ok (.iastore, 1) := by decide +kernel
theorem dX11_choose_79 : decode cX11_choose 79 = .ok (.iconst 1, 1) := by decide +kernel
theorem dX11_choose_80 : decode cX11_choose 80 = .ok (.ireturn, 1) := by decide +kernel
theorem dX11_span_0 : decode cX11_span 0 = .ok (.aload_n 0, 1) := by decide +kernel
theorem dX11_span_1 : decode cX11_span 1 = .ok (.iconst 0, 1) := by decide +kernel
theorem dX11_span_2 : decode cX11_span 2 = .ok (.putfield 130, 3) := by decide +kernel
theorem dX11_span_5 : decode cX11_span 5 = .ok (.aload_n 0, 1) := by decide +kernel
theorem dX11_span_6 : decode cX11_span 6 = .ok (.iload_n 1, 1) := by decide +kernel
theorem dX11_span_7 : decode cX11_span 7 = .ok (.invokevirtual 157, 3) := by decide +kernel
theorem dX11_span_10 : decode cX11_span 10 = .ok (.ifCond .ne 5, 3) := by decide +kernel
theorem dX11_span_13 : decode cX11_span 13 = .ok (.iconst (-1), 1) := by decide +kernel
theorem dX11_span_14 : decode cX11_span 14 = .ok (.ireturn, 1) := by decide +kernel
theorem dX11_span_15 : decode cX11_span 15 = .ok (.aload_n 0, 1) := by decide +kernel
theorem dX11_span_16 : decode cX11_span 16 = .ok (.invokevirtual 311, 3) := by decide +kernel
theorem dX11_span_19 : decode cX11_span 19 = .ok (.iload_n 2, 1) := by decide +kernel
theorem dX11_span_20 : decode cX11_span 20 = .ok (.ifCond .ne 12, 3) := by decide +kernel
theorem dX11_span_23 : decode cX11_span 23 = .ok (.aload_n 0, 1) := by decide +kernel
theorem dX11_span_24 : decode cX11_span 24 = .ok (.getfield 108, 3) := by decide +kernel
theorem dX11_span_27 : decode cX11_span 27 = .ok (.iload_n 1, 1) := by decide +kernel
theorem dX11_span_28 : decode cX11_span 28 = .ok (.iaload, 1) := by decide +kernel
theorem dX11_span_29 : decode cX11_span 29 = .ok (.goto 40, 3) := by decide +kernel
theorem dX11_span_32 : decode cX11_span 32 = .ok (.iload_n 2, 1) := by decide +kernel
theorem dX11_span_33 : decode cX11_span 33 = .ok (.iconst 1, 1) := by decide +kernel
theorem dX11_span_34 : decode cX11_span 34 = .ok (.if_icmp .ne 12, 3) := by decide +kernel
theorem dX11_span_37 : decode cX11_span 37 = .ok (.aload_n 0, 1) := by decide +kernel
theorem dX11_span_38 : decode cX11_span 38 = .ok (.getfield 111, 3) := by decide +kernel
theorem dX11_span_41 : decode cX11_span 41 = .ok (.iload_n 1, 1) := by decide +kernel
theorem dX11_span_42 : decode cX11_span 42 = .ok (.iaload, 1) := by decide +kernel
theorem dX11_span_43 : decode cX11_span 43 = .ok (.goto 26, 3) := by decide +kernel
theorem dX11_span_46 : decode cX11_span 46 = .ok (.iload_n 2, 1) := by decide +kernel
theorem dX11_span_47 : decode cX11_span 47 = .ok (.iconst 2, 1) := by decide +kernel
theorem dX11_span_48 : decode cX11_span 48 = .ok (.if_icmp .ne 20, 3) := by decide +kernel
theorem dX11_span_51 : decode cX11_span 51 = .ok (.aload_n 0, 1) := by decide +kernel
theorem dX11_span_52 : decode cX11_span 52 = .ok (.getfield 114, 3) := by decide +kernel
theorem dX11_span_55 : decode cX11_span 55 = .ok (.iload_n 1, 1) := by decide +kernel
theorem dX11_span_56 : decode cX11_span 56 = .ok (.baload, 1) := by decide +kernel
theorem dX11_span_57 : decode cX11_span 57 = .ok (.ifCond .eq 7, 3) := by decide +kernel
theorem dX11_span_60 : decode cX11_span 60 = .ok (.iconst 1, 1) := by decide +kernel
theorem dX11_span_61 : decode cX11_span 61 = .ok (.goto 8, 3) := by decide +kernel
theorem dX11_span_64 : decode cX11_span 64 = .ok (.iconst 0, 1) := by decide +kernel
theorem dX11_span_65 : decode cX11_span 65 = .ok (.goto 4, 3) := by decide +kernel
theorem dX11_span_68 : decode cX11_span 68 = .ok (.iconst (-1), 1) := by decide +kernel
theorem dX11_span_69 : decode cX11_span 69 = .ok (.ireturn, 1) := by decide +kernel
theorem dX11_isUnit_0 : decode cX11_isUnit 0 = .ok (.iload_n 0, 1) := by decide +kernel
theorem dX11_isUnit_1 : decode cX11_isUnit 1 = .ok (.bipush 10, 2) := by decide +kernel
theorem dX11_isUnit_3 : decode cX11_isUnit 3 = .ok (.sipush 2000, 3) := by decide +kernel
theorem dX11_isUnit_6 : decode cX11_isUnit 6 = .ok (.invokestatic 138, 3) := by decide +kernel
theorem dX11_isUnit_9 : decode cX11_isUnit 9 = .ok (.ireturn, 1) := by decide +kernel
theorem dX11_areUnits_0 : decode cX11_areUnits 0 = .ok (.iload_n 0, 1) := by decide +kernel
theorem dX11_areUnits_1 : decode cX11_areUnits 1 = .ok (.invokestatic 314, 3) := by decide +kernel
theorem dX11_areUnits_4 : decode cX11_areUnits 4 = .ok (.ifCond .eq 27, 3) := by decide +kernel
theorem dX11_areUnits_7 : decode cX11_areUnits 7 = .ok (.iload_n 1, 1) := by decide +kernel
theorem dX11_areUnits_8 : decode cX11_areUnits 8 = .ok (.iload_n 0, 1) := by decide +kernel
theorem dX11_areUnits_9 : decode cX11_areUnits 9 = .ok (.sipush 2000, 3) := by decide +kernel
theorem dX11_areUnits_12 : decode cX11_areUnits 12 = .ok (.invokestatic 138, 3) := by decide +kernel
theorem dX11_areUnits_15 : decode cX11_areUnits 15 = .ok (.ifCond .eq 16, 3) := by decide +kernel
theorem dX11_areUnits_18 : decode cX11_areUnits 18 = .ok (.iload_n 1, 1) := by decide +kernel
theorem dX11_areUnits_19 : decode cX11_areUnits 19 = .ok (.iload_n 0, 1) := by decide +kernel
theorem dX11_areUnits_20 : decode cX11_areUnits 20 = .ok (.isub, 1) := by decide +kernel
theorem dX11_areUnits_21 : decode cX11_areUnits 21 = .ok (.sipush 300, 3) := by decide +kernel
theorem dX11_areUnits_24 : decode cX11_areUnits 24 = .ok (.if_icmp .gt 7, 3) := by decide +kernel
theorem dX11_areUnits_27 : decode cX11_areUnits 27 = .ok (.iconst 1, 1) := by decide +kernel
theorem dX11_areUnits_28 : decode cX11_areUnits 28 = .ok (.goto 4, 3) := by decide +kernel
theorem dX11_areUnits_31 : decode cX11_areUnits 31 = .ok (.iconst 0, 1) := by decide +kernel
theorem dX11_areUnits_32 : decode cX11_areUnits 32 = .ok (.ireturn, 1) := by decide +kernel
theorem dX11_far_0 : decode cX11_far 0 = .ok (.iload_n 2, 1) := by decide +kernel
theorem dX11_far_1 : decode cX11_far 1 = .ok (.iload_n 0, 1) := by decide +kernel
theorem dX11_far_2 : decode cX11_far 2 = .ok (.if_icmp .ge 9, 3) := by decide +kernel
theorem dX11_far_5 : decode cX11_far 5 = .ok (.iload_n 0, 1) := by decide +kernel
theorem dX11_far_6 : decode cX11_far 6 = .ok (.iload_n 2, 1) := by decide +kernel
theorem dX11_far_7 : decode cX11_far 7 = .ok (.isub, 1) := by decide +kernel
theorem dX11_far_8 : decode cX11_far 8 = .ok (.goto 15, 3) := by decide +kernel
theorem dX11_far_11 : decode cX11_far 11 = .ok (.iload_n 2, 1) := by decide +kernel
theorem dX11_far_12 : decode cX11_far 12 = .ok (.iload_n 1, 1) := by decide +kernel
theorem dX11_far_13 : decode cX11_far 13 = .ok (.if_icmp .le 9, 3) := by decide +kernel
theorem dX11_far_16 : decode cX11_far 16 = .ok (.iload_n 2, 1) := by decide +kernel
theorem dX11_far_17 : decode cX11_far 17 = .ok (.iload_n 1, 1) := by decide +kernel
theorem dX11_far_18 : decode cX11_far 18 = .ok (.isub, 1) := by decide +kernel
theorem dX11_far_19 : decode cX11_far 19 = .ok (.goto 4, 3) := by decide +kernel
theorem dX11_far_22 : decode cX11_far 22 = .ok (.iconst 0, 1) := by decide +kernel
theorem dX11_far_23 : decode cX11_far 23 = .ok (.ireturn, 1) := by decide +kernel
theorem dX11_timesOf_0 : decode cX11_timesOf 0 = .ok (.aload_n 0, 1) := by decide +kernel
theorem dX11_timesOf_1 : decode cX11_timesOf 1 = .ok (.iload_n 1, 1) := by decide +kernel
theorem dX11_timesOf_2 : decode cX11_timesOf 2 = .ok (.bipush 7, 2) := by decide +kernel
theorem dX11_timesOf_4 : decode cX11_timesOf 4 = .ok (.invokevirtual 291, 3) := by decide +kernel
theorem dX11_timesOf_7 : decode cX11_timesOf 7 = .ok (.ifCond .le 11, 3) := by decide +kernel
theorem dX11_timesOf_10 : decode cX11_timesOf 10 = .ok (.aload_n 0, 1) := by decide +kernel
theorem dX11_timesOf_11 : decode cX11_timesOf 11 = .ok (.iload_n 1, 1) := by decide +kernel
theorem dX11_timesOf_12 : decode cX11_timesOf 12 = .ok (.bipush 7, 2) := by decide +kernel
theorem dX11_timesOf_14 : decode cX11_timesOf 14 = .ok (.invokevirtual 291, 3) := by decide +kernel
theorem dX11_timesOf_17 : decode cX11_timesOf 17 = .ok (.ireturn, 1) := by decide +kernel
theorem dX11_timesOf_18 : decode cX11_timesOf 18 = .ok (.aload_n 0, 1) := by decide +kernel
theorem dX11_timesOf_19 : decode cX11_timesOf 19 = .ok (.getfield 108, 3) := by decide +kernel
theorem dX11_timesOf_22 : decode cX11_timesOf 22 = .ok (.iload_n 1, 1) := by decide +kernel
theorem dX11_timesOf_23 : decode cX11_timesOf 23 = .ok (.iaload, 1) := by decide +kernel
theorem dX11_timesOf_24 : decode cX11_timesOf 24 = .ok (.iload_n 2, 1) := by decide +kernel
theorem dX11_timesOf_25 : decode cX11_timesOf 25 = .ok (.idiv, 1) := by decide +kernel
theorem dX11_timesOf_26 : decode cX11_timesOf 26 = .ok (.istore_n 3, 1) := by decide +kernel
theorem dX11_timesOf_27 : decode cX11_timesOf 27 = .ok (.iload_n 3, 1) := by decide +kernel
theorem dX11_timesOf_28 : decode cX11_timesOf 28 = .ok (.iconst 1, 1) := by decide +kernel
theorem dX11_timesOf_29 : decode cX11_timesOf 29 = .ok (.if_icmp .ge 7, 3) := by decide +kernel
theorem dX11_timesOf_32 : decode cX11_timesOf 32 = .ok (.iconst 1, 1) := by decide +kernel
theorem dX11_timesOf_33 : decode cX11_timesOf 33 = .ok (.goto 4, 3) := by decide +kernel
theorem dX11_timesOf_36 : decode cX11_timesOf 36 = .ok (.iload_n 3, 1) := by decide +kernel
theorem dX11_timesOf_37 : decode cX11_timesOf 37 = .ok (.istore 4, 2) := by decide +kernel
theorem dX11_timesOf_39 : decode cX11_timesOf 39 = .ok (.aload_n 0, 1) := by decide +kernel
theorem dX11_timesOf_40 : decode cX11_timesOf 40 = .ok (.getfield 108, 3) := by decide +kernel
theorem dX11_timesOf_43 : decode cX11_timesOf 43 = .ok (.iload_n 1, 1) := by decide +kernel
theorem dX11_timesOf_44 : decode cX11_timesOf 44 = .ok (.iaload, 1) := by decide +kernel
theorem dX11_timesOf_45 : decode cX11_timesOf 45 = .ok (.aload_n 0, 1) := by decide +kernel
theorem dX11_timesOf_46 : decode cX11_timesOf 46 = .ok (.getfield 111, 3) := by decide +kernel
theorem dX11_timesOf_49 : decode cX11_timesOf 49 = .ok (.iload_n 1, 1) := by decide +kernel
theorem dX11_timesOf_50 : decode cX11_timesOf 50 = .ok (.iaload, 1) := by decide +kernel
theorem dX11_timesOf_51 : decode cX11_timesOf 51 = .ok (.iload 4, 2) := by decide +kernel
theorem dX11_timesOf_53 : decode cX11_timesOf 53 = .ok (.iconst 1, 1) := by decide +kernel
theorem dX11_timesOf_54 : decode cX11_timesOf 54 = .ok (.iadd, 1) := by decide +kernel
theorem dX11_timesOf_55 : decode cX11_timesOf 55 = .ok (.iload_n 2, 1) := by decide +kernel
theorem dX11_timesOf_56 : decode cX11_timesOf 56 = .ok (.imul, 1) := by decide +kernel
theorem dX11_timesOf_57 : decode cX11_timesOf 57 = .ok (.invokestatic 317, 3) := by decide +kernel
theorem dX11_timesOf_60 : decode cX11_timesOf 60 = .ok (.aload_n 0, 1) := by decide +kernel
theorem dX11_timesOf_61 : decode cX11_timesOf 61 = .ok (.getfield 108, 3) := by decide +kernel
theorem dX11_timesOf_64 : decode cX11_timesOf 64 = .ok (.iload_n 1, 1) := by decide +kernel
theorem dX11_timesOf_65 : decode cX11_timesOf 65 = .ok (.iaload, 1) := by decide +kernel
theorem dX11_timesOf_66 : decode cX11_timesOf 66 = .ok (.aload_n 0, 1) := by decide +kernel
theorem dX11_timesOf_67 : decode cX11_timesOf 67 = .ok (.getfield 111, 3) := by decide +kernel
theorem dX11_timesOf_70 : decode cX11_timesOf 70 = .ok (.iload_n 1, 1) := by decide +kernel
theorem dX11_timesOf_71 : decode cX11_timesOf 71 = .ok (.iaload, 1) := by decide +kernel
theorem dX11_timesOf_72 : decode cX11_timesOf 72 = .ok (.iload 4, 2) := by decide +kernel
theorem dX11_timesOf_74 : decode cX11_timesOf 74 = .ok (.iload_n 2, 1) := by decide +kernel
theorem dX11_timesOf_75 : decode cX11_timesOf 75 = .ok (.imul, 1) := by decide +kernel
theorem dX11_timesOf_76 : decode cX11_timesOf 76 = .ok (.invokestatic 317, 3) := by decide +kernel
theorem dX11_timesOf_79 : decode cX11_timesOf 79 = .ok (.if_icmp .ge 10, 3) := by decide +kernel
theorem dX11_timesOf_82 : decode cX11_timesOf 82 = .ok (.iload 4, 2) := by decide +kernel
theorem dX11_timesOf_84 : decode cX11_timesOf 84 = .ok (.iconst 1, 1) := by decide +kernel
theorem dX11_timesOf_85 : decode cX11_timesOf 85 = .ok (.iadd, 1) := by decide +kernel
theorem dX11_timesOf_86 : decode cX11_timesOf 86 = .ok (.goto 5, 3) := by decide +kernel
theorem dX11_timesOf_89 : decode cX11_timesOf 89 = .ok (.iload 4, 2) := by decide +kernel
theorem dX11_timesOf_91 : decode cX11_timesOf 91 = .ok (.ireturn, 1) := by decide +kernel
theorem dX11_off_0 : decode cX11_off 0 = .ok (.aload_n 0, 1) := by decide +kernel
theorem dX11_off_1 : decode cX11_off 1 = .ok (.getfield 108, 3) := by decide +kernel
theorem dX11_off_4 : decode cX11_off 4 = .ok (.iload_n 1, 1) := by decide +kernel
theorem dX11_off_5 : decode cX11_off 5 = .ok (.iaload, 1) := by decide +kernel
theorem dX11_off_6 : decode cX11_off 6 = .ok (.aload_n 0, 1) := by decide +kernel
theorem dX11_off_7 : decode cX11_off 7 = .ok (.getfield 111, 3) := by decide +kernel
theorem dX11_off_10 : decode cX11_off 10 = .ok (.iload_n 1, 1) := by decide +kernel
theorem dX11_off_11 : decode cX11_off 11 = .ok (.iaload, 1) := by decide +kernel
theorem dX11_off_12 : decode cX11_off 12 = .ok (.aload_n 0, 1) := by decide +kernel
theorem dX11_off_13 : decode cX11_off 13 = .ok (.iload_n 1, 1) := by decide +kernel
theorem dX11_off_14 : decode cX11_off 14 = .ok (.iload_n 2, 1) := by decide +kernel
theorem dX11_off_15 : decode cX11_off 15 = .ok (.invokevirtual 320, 3) := by decide +kernel
theorem dX11_off_18 : decode cX11_off 18 = .ok (.iload_n 2, 1) := by decide +kernel
theorem dX11_off_19 : decode cX11_off 19 = .ok (.imul, 1) := by decide +kernel
theorem dX11_off_20 : decode cX11_off 20 = .ok (.invokestatic 317, 3) := by decide +kernel
theorem dX11_off_23 : decode cX11_off 23 = .ok (.istore_n 3, 1) := by decide +kernel
theorem dX11_off_24 : decode cX11_off 24 = .ok (.iload_n 3, 1) := by decide +kernel
theorem dX11_off_25 : decode cX11_off 25 = .ok (.iload_n 2, 1) := by decide +kernel
theorem dX11_off_26 : decode cX11_off 26 = .ok (.if_icmp .ge 7, 3) := by decide +kernel
theorem dX11_off_29 : decode cX11_off 29 = .ok (.iload_n 3, 1) := by decide +kernel
theorem dX11_off_30 : decode cX11_off 30 = .ok (.goto 4, 3) := by decide +kernel
theorem dX11_off_33 : decode cX11_off 33 = .ok (.iload_n 2, 1) := by decide +kernel
theorem dX11_off_34 : decode cX11_off 34 = .ok (.ireturn, 1) := by decide +kernel
theorem dX11_shortOf_0 : decode cX11_shortOf 0 = .ok (.aload_n 0, 1) := by decide +kernel
theorem dX11_shortOf_1 : decode cX11_shortOf 1 = .ok (.getfield 111, 3) := by decide +kernel
theorem dX11_shortOf_4 : decode cX11_shortOf 4 = .ok (.iload_n 1, 1) := by decide +kernel
theorem dX11_shortOf_5 : decode cX11_shortOf 5 = .ok (.iaload, 1) := by decide +kernel
theorem dX11_shortOf_6 : decode cX11_shortOf 6 = .ok (.istore_n 3, 1) := by decide +kernel
theorem dX11_shortOf_7 : decode cX11_shortOf 7 = .ok (.aload_n 0, 1) := by decide +kernel
theorem dX11_shortOf_8 : decode cX11_shortOf 8 = .ok (.iload_n 1, 1) := by decide +kernel
theorem dX11_shortOf_9 : decode cX11_shortOf 9 = .ok (.bipush 7, 2) := by decide +kernel
theorem dX11_shortOf_11 : decode cX11_shortOf 11 = .ok (.invokevirtual 291, 3) := by decide +kernel
theorem dX11_shortOf_14 : decode cX11_shortOf 14 = .ok (.istore 4, 2) := by decide +kernel
theorem dX11_shortOf_16 : decode cX11_shortOf 16 = .ok (.iload 4, 2) := by decide +kernel
theorem dX11_shortOf_18 : decode cX11_shortOf 18 = .ok (.ifCond .ne 33, 3) := by decide +kernel
theorem dX11_shortOf_21 : decode cX11_shortOf 21 = .ok (.iload_n 3, 1) := by decide +kernel
theorem dX11_shortOf_22 : decode cX11_shortOf 22 = .ok (.iload_n 2, 1) := by decide +kernel
theorem dX11_shortOf_23 : decode cX11_shortOf 23 = .ok (.idiv, 1) := by decide +kernel
theorem dX11_shortOf_24 : decode cX11_shortOf 24 = .ok (.istore 4, 2) := by decide +kernel
theorem dX11_shortOf_26 : decode cX11_shortOf 26 = .ok (.iload 4, 2) := by decide +kernel
theorem dX11_shortOf_28 : decode cX11_shortOf 28 = .ok (.ifCond .eq 12, 3) := by decide +kernel
theorem dX11_shortOf_31 : decode cX11_shortOf 31 = .ok (.iconst 2, 1) := by decide +kernel
theorem dX11_shortOf_32 : decode cX11_shortOf 32 = .ok (.iload_n 3, 1) := by decide +kernel
theorem dX11_shortOf_33 : decode cX11_shortOf 33 = .ok (.iload_n 2, 1) := by decide +kernel
theorem dX11_shortOf_34 : decode cX11_shortOf 34 = .ok (.irem, 1) := by decide +kernel
theorem dX11_shortOf_35 : decode cX11_shortOf 35 = .ok (.imul, 1) := by decide +kernel
theorem dX11_shortOf_36 : decode cX11_shortOf 36 = .ok (.iload_n 2, 1) := by decide +kernel
theorem dX11_shortOf_37 : decode cX11_shortOf 37 = .ok (.if_icmp .lt 10, 3) := by decide +kernel
theorem dX11_shortOf_40 : decode cX11_shortOf 40 = .ok (.iload 4, 2) := by decide +kernel
theorem dX11_shortOf_42 : decode cX11_shortOf 42 = .ok (.iconst 1, 1) := by decide +kernel
theorem dX11_shortOf_43 : decode cX11_shortOf 43 = .ok (.iadd, 1) := by decide +kernel
theorem dX11_shortOf_44 : decode cX11_shortOf 44 = .ok (.goto 5, 3) := by decide +kernel
theorem dX11_shortOf_47 : decode cX11_shortOf 47 = .ok (.iload 4, 2) := by decide +kernel
theorem dX11_shortOf_49 : decode cX11_shortOf 49 = .ok (.istore 4, 2) := by decide +kernel
theorem dX11_shortOf_51 : decode cX11_shortOf 51 = .ok (.iload 4, 2) := by decide +kernel
theorem dX11_shortOf_53 : decode cX11_shortOf 53 = .ok (.iload_n 2, 1) := by decide +kernel
theorem dX11_shortOf_54 : decode cX11_shortOf 54 = .ok (.imul, 1) := by decide +kernel
theorem dX11_shortOf_55 : decode cX11_shortOf 55 = .ok (.iload_n 3, 1) := by decide +kernel
theorem dX11_shortOf_56 : decode cX11_shortOf 56 = .ok (.if_icmp .le 12, 3) := by decide +kernel
theorem dX11_shortOf_59 : decode cX11_shortOf 59 = .ok (.iload 4, 2) := by decide +kernel
theorem dX11_shortOf_61 : decode cX11_shortOf 61 = .ok (.iload_n 2, 1) := by decide +kernel
theorem dX11_shortOf_62 : decode cX11_shortOf 62 = .ok (.imul, 1) := by decide +kernel
theorem dX11_shortOf_63 : decode cX11_shortOf 63 = .ok (.iload_n 3, 1) := by decide +kernel
theorem dX11_shortOf_64 : decode cX11_shortOf 64 = .ok (.isub, 1) := by decide +kernel
theorem dX11_shortOf_65 : decode cX11_shortOf 65 = .ok (.goto 4, 3) := by decide +kernel
theorem dX11_shortOf_68 : decode cX11_shortOf 68 = .ok (.iconst 0, 1) := by decide +kernel
theorem dX11_shortOf_69 : decode cX11_shortOf 69 = .ok (.ireturn, 1) := by decide +kernel
theorem dX11_by_0 : decode cX11_by 0 = .ok (.aload_n 0, 1) := by decide +kernel
theorem dX11_by_1 : decode cX11_by 1 = .ok (.iconst 0, 1) := by decide +kernel
theorem dX11_by_2 : decode cX11_by 2 = .ok (.putfield 130, 3) := by decide +kernel
theorem dX11_by_5 : decode cX11_by 5 = .ok (.aload_n 0, 1) := by decide +kernel
theorem dX11_by_6 : decode cX11_by 6 = .ok (.iload_n 1, 1) := by decide +kernel
theorem dX11_by_7 : decode cX11_by 7 = .ok (.invokevirtual 157, 3) := by decide +kernel
theorem dX11_by_10 : decode cX11_by 10 = .ok (.ifCond .eq 10, 3) := by decide +kernel
theorem dX11_by_13 : decode cX11_by 13 = .ok (.iload_n 2, 1) := by decide +kernel
theorem dX11_by_14 : decode cX11_by 14 = .ok (.invokestatic 314, 3) := by decide +kernel
theorem dX11_by_17 : decode cX11_by 17 = .ok (.ifCond .ne 5, 3) := by decide +kernel
theorem dX11_by_20 : decode cX11_by 20 = .ok (.iconst (-1), 1) := by decide +kernel
theorem dX11_by_21 : decode cX11_by 21 = .ok (.ireturn, 1) := by decide +kernel
theorem dX11_by_22 : decode cX11_by 22 = .ok (.aload_n 0, 1) := by decide +kernel
theorem dX11_by_23 : decode cX11_by 23 = .ok (.invokevirtual 311, 3) := by decide +kernel
theorem dX11_by_26 : decode cX11_by 26 = .ok (.iload_n 3, 1) := by decide +kernel
theorem dX11_by_27 : decode cX11_by 27 = .ok (.tableswitch 69 0 3 #[29, 36, 55, 62], 29) := by decide +kernel
theorem dX11_by_56 : decode cX11_by 56 = .ok (.aload_n 0, 1) := by decide +kernel
theorem dX11_by_57 : decode cX11_by 57 = .ok (.iload_n 1, 1) := by decide +kernel
theorem dX11_by_58 : decode cX11_by 58 = .ok (.iload_n 2, 1) := by decide +kernel
theorem dX11_by_59 : decode cX11_by 59 = .ok (.invokevirtual 323, 3) := by decide +kernel
theorem dX11_by_62 : decode cX11_by 62 = .ok (.ireturn, 1) := by decide +kernel
theorem dX11_by_63 : decode cX11_by 63 = .ok (.bipush 8, 2) := by decide +kernel
theorem dX11_by_65 : decode cX11_by 65 = .ok (.aload_n 0, 1) := by decide +kernel
theorem dX11_by_66 : decode cX11_by 66 = .ok (.iload_n 1, 1) := by decide +kernel
theorem dX11_by_67 : decode cX11_by 67 = .ok (.iload_n 2, 1) := by decide +kernel
theorem dX11_by_68 : decode cX11_by 68 = .ok (.invokevirtual 323, 3) := by decide +kernel
theorem dX11_by_71 : decode cX11_by 71 = .ok (.imul, 1) := by decide +kernel
theorem dX11_by_72 : decode cX11_by 72 = .ok (.iload_n 2, 1) := by decide +kernel
theorem dX11_by_73 : decode cX11_by 73 = .ok (.if_icmp .gt 7, 3) := by decide +kernel
theorem dX11_by_76 : decode cX11_by 76 = .ok (.iconst 1, 1) := by decide +kernel
theorem dX11_by_77 : decode cX11_by 77 = .ok (.goto 4, 3) := by decide +kernel
theorem dX11_by_80 : decode cX11_by 80 = .ok (.iconst 0, 1) := by decide +kernel
theorem dX11_by_81 : decode cX11_by 81 = .ok (.ireturn, 1) := by decide +kernel
theorem dX11_by_82 : decode cX11_by 82 = .ok (.aload_n 0, 1) := by decide +kernel
theorem dX11_by_83 : decode cX11_by 83 = .ok (.iload_n 1, 1) := by decide +kernel
theorem dX11_by_84 : decode cX11_by 84 = .ok (.iload_n 2, 1) := by decide +kernel
theorem dX11_by_85 : decode cX11_by 85 = .ok (.invokevirtual 326, 3) := by decide +kernel
theorem dX11_by_88 : decode cX11_by 88 = .ok (.ireturn, 1) := by decide +kernel
theorem dX11_by_89 : decode cX11_by 89 = .ok (.aload_n 0, 1) := by decide +kernel
theorem dX11_by_90 : decode cX11_by 90 = .ok (.iload_n 1, 1) := by decide +kernel
theorem dX11_by_91 : decode cX11_by 91 = .ok (.iload_n 2, 1) := by decide +kernel
theorem dX11_by_92 : decode cX11_by 92 = .ok (.invokevirtual 320, 3) := by decide +kernel
theorem dX11_by_95 : decode cX11_by 95 = .ok (.ireturn, 1) := by decide +kernel
theorem dX11_by_96 : decode cX11_by 96 = .ok (.iconst (-1), 1) := by decide +kernel
theorem dX11_by_97 : decode cX11_by 97 = .ok (.ireturn, 1) := by decide +kernel
theorem dX11_scoreOf_0 : decode cX11_scoreOf 0 = .ok (.iconst 0, 1) := by decide +kernel
theorem dX11_scoreOf_1 : decode cX11_scoreOf 1 = .ok (.istore_n 2, 1) := by decide +kernel
theorem dX11_scoreOf_2 : decode cX11_scoreOf 2 = .ok (.iconst 0, 1) := by decide +kernel
theorem dX11_scoreOf_3 : decode cX11_scoreOf 3 = .ok (.istore_n 3, 1) := by decide +kernel
theorem dX11_scoreOf_4 : decode cX11_scoreOf 4 = .ok (.iload_n 3, 1) := by decide +kernel
theorem dX11_scoreOf_5 : decode cX11_scoreOf 5 = .ok (.aload_n 0, 1) := by decide +kernel
theorem dX11_scoreOf_6 : decode cX11_scoreOf 6 = .ok (.getfield 302, 3) := by decide +kernel
theorem dX11_scoreOf_9 : decode cX11_scoreOf 9 = .ok (.if_icmp .ge 35, 3) := by decide +kernel
theorem dX11_scoreOf_12 : decode cX11_scoreOf 12 = .ok (.iload_n 2, 1) := by decide +kernel
theorem dX11_scoreOf_13 : decode cX11_scoreOf 13 = .ok (.aload_n 0, 1) := by decide +kernel
theorem dX11_scoreOf_14 : decode cX11_scoreOf 14 = .ok (.getfield 114, 3) := by decide +kernel
theorem dX11_scoreOf_17 : decode cX11_scoreOf 17 = .ok (.iload_n 3, 1) := by decide +kernel
theorem dX11_scoreOf_18 : decode cX11_scoreOf 18 = .ok (.baload, 1) := by decide +kernel
theorem dX11_scoreOf_19 : decode cX11_scoreOf 19 = .ok (.ifCond .eq 16, 3) := by decide +kernel
theorem dX11_scoreOf_22 : decode cX11_scoreOf 22 = .ok (.iload_n 1, 1) := by decide +kernel
theorem dX11_scoreOf_23 : decode cX11_scoreOf 23 = .ok (.iconst 4, 1) := by decide +kernel
theorem dX11_scoreOf_24 : decode cX11_scoreOf 24 = .ok (.aload_n 0, 1) := by decide +kernel
theorem dX11_scoreOf_25 : decode cX11_scoreOf 25 = .ok (.iload_n 3, 1) := by decide +kernel
theorem dX11_scoreOf_26 : decode cX11_scoreOf 26 = .ok (.iload_n 1, 1) := by decide +kernel
theorem dX11_scoreOf_27 : decode cX11_scoreOf 27 = .ok (.invokevirtual 323, 3) := by decide +kernel
theorem dX11_scoreOf_30 : decode cX11_scoreOf 30 = .ok (.imul, 1) := by decide +kernel
theorem dX11_scoreOf_31 : decode cX11_scoreOf 31 = .ok (.isub, 1) := by decide +kernel
theorem dX11_scoreOf_32 : decode cX11_scoreOf 32 = .ok (.goto 4, 3) := by decide +kernel
theorem dX11_scoreOf_35 : decode cX11_scoreOf 35 = .ok (.iconst 0, 1) := by decide +kernel
theorem dX11_scoreOf_36 : decode cX11_scoreOf 36 = .ok (.iadd, 1) := by decide +kernel
theorem dX11_scoreOf_37 : decode cX11_scoreOf 37 = .ok (.istore_n 2, 1) := by decide +kernel
theorem dX11_scoreOf_38 : decode cX11_scoreOf 38 = .ok (.iinc 3 1, 3) := by decide +kernel
theorem dX11_scoreOf_41 : decode cX11_scoreOf 41 = .ok (.goto (-37), 3) := by decide +kernel
theorem dX11_scoreOf_44 : decode cX11_scoreOf 44 = .ok (.iload_n 2, 1) := by decide +kernel
theorem dX11_scoreOf_45 : decode cX11_scoreOf 45 = .ok (.ireturn, 1) := by decide +kernel
theorem dX11_score_0 : decode cX11_score 0 = .ok (.aload_n 0, 1) := by decide +kernel
theorem dX11_score_1 : decode cX11_score 1 = .ok (.iconst 0, 1) := by decide +kernel
theorem dX11_score_2 : decode cX11_score 2 = .ok (.putfield 130, 3) := by decide +kernel
theorem dX11_score_5 : decode cX11_score 5 = .ok (.iload_n 1, 1) := by decide +kernel
theorem dX11_score_6 : decode cX11_score 6 = .ok (.invokestatic 314, 3) := by decide +kernel
theorem dX11_score_9 : decode cX11_score 9 = .ok (.ifCond .ne 7, 3) := by decide +kernel
theorem dX11_score_12 : decode cX11_score 12 = .ok (.ldc_w 329, 3) := by decide +kernel
theorem dX11_score_15 : decode cX11_score 15 = .ok (.ireturn, 1) := by decide +kernel
theorem dX11_score_16 : decode cX11_score 16 = .ok (.aload_n 0, 1) := by decide +kernel
theorem dX11_score_17 : decode cX11_score 17 = .ok (.invokevirtual 311, 3) := by decide +kernel
theorem dX11_score_20 : decode cX11_score 20 = .ok (.aload_n 0, 1) := by decide +kernel
theorem dX11_score_21 : decode cX11_score 21 = .ok (.iload_n 1, 1) := by decide +kernel
theorem dX11_score_22 : decode cX11_score 22 = .ok (.invokevirtual 330, 3) := by decide +kernel
theorem dX11_score_25 : decode cX11_score 25 = .ok (.ireturn, 1) := by decide +kernel
theorem dX11_findScores_0 : decode cX11_findScores 0 = .ok (.iload_n 1, 1) := by decide +kernel
theorem dX11_findScores_1 : decode cX11_findScores 1 = .ok (.istore_n 3, 1) := by decide +kernel
theorem dX11_findScores_2 : decode cX11_findScores 2 = .ok (.iload_n 3, 1) := by decide +kernel
theorem dX11_findScores_3 : decode cX11_findScores 3 = .ok (.iload_n 2, 1) := by decide +kernel
theorem dX11_findScores_4 : decode cX11_findScores 4 = .ok (.if_icmp .gt 22, 3) := by decide +kernel
theorem dX11_findScores_7 : decode cX11_findScores 7 = .ok (.aload_n 0, 1) := by decide +kernel
theorem dX11_findScores_8 : decode cX11_findScores 8 = .ok (.getfield 117, 3) := by decide +kernel
theorem dX11_findScores_11 : decode cX11_findScores 11 = .ok (.iload_n 3, 1) := by decide +kernel
theorem dX11_findScores_12 : decode cX11_findScores 12 = .ok (.iload_n 1, 1) := by decide +kernel
theorem dX11_findScores_13 : decode cX11_findScores 13 = .ok (.isub, 1) := by decide +kernel
theorem dX11_findScores_14 : decode cX11_findScores 14 = .ok (.aload_n 0, 1) := by decide +kernel
theorem dX11_findScores_15 : decode cX11_findScores 15 = .ok (.iload_n 3, 1) := by decide +kernel
theorem dX11_findScores_16 : decode cX11_findScores 16 = .ok (.invokevirtual 330, 3) := by decide +kernel
theorem dX11_findScores_19 : decode cX11_findScores 19 = .ok (.iastore, 1) := by decide +kernel
theorem dX11_findScores_20 : decode cX11_findScores 20 = .ok (.iinc 3 1, 3) := by decide +kernel
theorem dX11_findScores_23 : decode cX11_findScores 23 = .ok (.goto (-21), 3) := by decide +kernel
theorem dX11_findScores_26 : decode cX11_findScores 26 = .ok (.return_, 1) := by decide +kernel
theorem dX11_against_0 : decode cX11_against 0 = .ok (.aload_n 0, 1) := by decide +kernel
theorem dX11_against_1 : decode cX11_against 1 = .ok (.getfield 117, 3) := by decide +kernel
theorem dX11_against_4 : decode cX11_against 4 = .ok (.iload_n 2, 1) := by decide +kernel
theorem dX11_against_5 : decode cX11_against 5 = .ok (.iload_n 1, 1) := by decide +kernel
theorem dX11_against_6 : decode cX11_against 6 = .ok (.isub, 1) := by decide +kernel
theorem dX11_against_7 : decode cX11_against 7 = .ok (.iaload, 1) := by decide +kernel
theorem dX11_against_8 : decode cX11_against 8 = .ok (.i2l, 1) := by decide +kernel
theorem dX11_against_9 : decode cX11_against 9 = .ok (.iload_n 3, 1) := by decide +kernel
theorem dX11_against_10 : decode cX11_against 10 = .ok (.i2l, 1) := by decide +kernel
theorem dX11_against_11 : decode cX11_against 11 = .ok (.lmul, 1) := by decide +kernel
theorem dX11_against_12 : decode cX11_against 12 = .ok (.aload_n 0, 1) := by decide +kernel
theorem dX11_against_13 : decode cX11_against 13 = .ok (.getfield 117, 3) := by decide +kernel
theorem dX11_against_16 : decode cX11_against 16 = .ok (.iload_n 3, 1) := by decide +kernel
theorem dX11_against_17 : decode cX11_against 17 = .ok (.iload_n 1, 1) := by decide +kernel
theorem dX11_against_18 : decode cX11_against 18 = .ok (.isub, 1) := by decide +kernel
theorem dX11_against_19 : decode cX11_against 19 = .ok (.iaload, 1) := by decide +kernel
theorem dX11_against_20 : decode cX11_against 20 = .ok (.i2l, 1) := by decide +kernel
theorem dX11_against_21 : decode cX11_against 21 = .ok (.iload_n 2, 1) := by decide +kernel
theorem dX11_against_22 : decode cX11_against 22 = .ok (.i2l, 1) := by decide +kernel
theorem dX11_against_23 : decode cX11_against 23 = .ok (.lmul, 1) := by decide +kernel
theorem dX11_against_24 : decode cX11_against 24 = .ok (.lsub, 1) := by decide +kernel
theorem dX11_against_25 : decode cX11_against 25 = .ok (.lreturn, 1) := by decide +kernel
theorem dX11_bestOf_0 : decode cX11_bestOf 0 = .ok (.aload_n 0, 1) := by decide +kernel
theorem dX11_bestOf_1 : decode cX11_bestOf 1 = .ok (.iload_n 1, 1) := by decide +kernel
theorem dX11_bestOf_2 : decode cX11_bestOf 2 = .ok (.iload_n 2, 1) := by decide +kernel
theorem dX11_bestOf_3 : decode cX11_bestOf 3 = .ok (.invokevirtual 333, 3) := by decide +kernel
theorem dX11_bestOf_6 : decode cX11_bestOf 6 = .ok (.iload_n 1, 1) := by decide +kernel
theorem dX11_bestOf_7 : decode cX11_bestOf 7 = .ok (.istore_n 3, 1) := by decide +kernel
theorem dX11_bestOf_8 : decode cX11_bestOf 8 = .ok (.iload_n 1, 1) := by decide +kernel
theorem dX11_bestOf_9 : decode cX11_bestOf 9 = .ok (.iconst 1, 1) := by decide +kernel
theorem dX11_bestOf_10 : decode cX11_bestOf 10 = .ok (.iadd, 1) := by decide +kernel
theorem dX11_bestOf_11 : decode cX11_bestOf 11 = .ok (.istore 4, 2) := by decide +kernel
theorem dX11_bestOf_13 : decode cX11_bestOf 13 = .ok (.iload 4, 2) := by decide +kernel
theorem dX11_bestOf_15 : decode cX11_bestOf 15 = .ok (.iload_n 2, 1) := by decide +kernel
theorem dX11_bestOf_16 : decode cX11_bestOf 16 = .ok (.if_icmp .gt 29, 3) := by decide +kernel
theorem dX11_bestOf_19 : decode cX11_bestOf 19 = .ok (.aload_n 0, 1) := by decide +kernel
theorem dX11_bestOf_20 : decode cX11_bestOf 20 = .ok (.iload_n 1, 1) := by decide +kernel
theorem dX11_bestOf_21 : decode cX11_bestOf 21 = .ok (.iload 4, 2) := by decide +kernel
theorem dX11_bestOf_23 : decode cX11_bestOf 23 = .ok (.iload_n 3, 1) := by decide +kernel
theorem dX11_bestOf_24 : decode cX11_bestOf 24 = .ok (.invokevirtual 336, 3) := by decide +kernel
theorem dX11_bestOf_27 : decode cX11_bestOf 27 = .ok (.lconst 0, 1) := by decide +kernel
theorem dX11_bestOf_28 : decode cX11_bestOf 28 = .ok (.lcmp, 1) := by decide +kernel
theorem dX11_bestOf_29 : decode cX11_bestOf 29 = .ok (.ifCond .lt 8, 3) := by decide +kernel
theorem dX11_bestOf_32 : decode cX11_bestOf 32 = .ok (.iload 4, 2) := by decide +kernel
theorem dX11_bestOf_34 : decode cX11_bestOf 34 = .ok (.goto 4, 3) := by decide +kernel
theorem dX11_bestOf_37 : decode cX11_bestOf 37 = .ok (.iload_n 3, 1) := by decide +kernel
theorem dX11_bestOf_38 : decode cX11_bestOf 38 = .ok (.istore_n 3, 1) := by decide +kernel
theorem dX11_bestOf_39 : decode cX11_bestOf 39 = .ok (.iinc 4 1, 3) := by decide +kernel
theorem dX11_bestOf_42 : decode cX11_bestOf 42 = .ok (.goto (-29), 3) := by decide +kernel
theorem dX11_bestOf_45 : decode cX11_bestOf 45 = .ok (.iload_n 3, 1) := by decide +kernel
theorem dX11_bestOf_46 : decode cX11_bestOf 46 = .ok (.ireturn, 1) := by decide +kernel
theorem dX11_best_0 : decode cX11_best 0 = .ok (.aload_n 0, 1) := by decide +kernel
theorem dX11_best_1 : decode cX11_best 1 = .ok (.iconst 0, 1) := by decide +kernel
theorem dX11_best_2 : decode cX11_best 2 = .ok (.putfield 130, 3) := by decide +kernel
theorem dX11_best_5 : decode cX11_best 5 = .ok (.iload_n 1, 1) := by decide +kernel
theorem dX11_best_6 : decode cX11_best 6 = .ok (.iload_n 2, 1) := by decide +kernel
theorem dX11_best_7 : decode cX11_best 7 = .ok (.invokestatic 340, 3) := by decide +kernel
theorem dX11_best_10 : decode cX11_best 10 = .ok (.ifCond .ne 5, 3) := by decide +kernel
theorem dX11_best_13 : decode cX11_best 13 = .ok (.iconst (-1), 1) := by decide +kernel
theorem dX11_best_14 : decode cX11_best 14 = .ok (.ireturn, 1) := by decide +kernel
theorem dX11_best_15 : decode cX11_best 15 = .ok (.aload_n 0, 1) := by decide +kernel
theorem dX11_best_16 : decode cX11_best 16 = .ok (.invokevirtual 311, 3) := by decide +kernel
theorem dX11_best_19 : decode cX11_best 19 = .ok (.aload_n 0, 1) := by decide +kernel
theorem dX11_best_20 : decode cX11_best 20 = .ok (.invokevirtual 344, 3) := by decide +kernel
theorem dX11_best_23 : decode cX11_best 23 = .ok (.ifCond .le 12, 3) := by decide +kernel
theorem dX11_best_26 : decode cX11_best 26 = .ok (.aload_n 0, 1) := by decide +kernel
theorem dX11_best_27 : decode cX11_best 27 = .ok (.iload_n 1, 1) := by decide +kernel
theorem dX11_best_28 : decode cX11_best 28 = .ok (.iload_n 2, 1) := by decide +kernel
theorem dX11_best_29 : decode cX11_best 29 = .ok (.invokevirtual 347, 3) := by decide +kernel
theorem dX11_best_32 : decode cX11_best 32 = .ok (.goto 4, 3) := by decide +kernel
theorem dX11_best_35 : decode cX11_best 35 = .ok (.iconst (-1), 1) := by decide +kernel
theorem dX11_best_36 : decode cX11_best 36 = .ok (.ireturn, 1) := by decide +kernel
theorem dX11_isPeak_0 : decode cX11_isPeak 0 = .ok (.iload_n 3, 1) := by decide +kernel
theorem dX11_isPeak_1 : decode cX11_isPeak 1 = .ok (.iload_n 1, 1) := by decide +kernel
theorem dX11_isPeak_2 : decode cX11_isPeak 2 = .ok (.if_icmp .eq 17, 3) := by decide +kernel
theorem dX11_isPeak_5 : decode cX11_isPeak 5 = .ok (.aload_n 0, 1) := by decide +kernel
theorem dX11_isPeak_6 : decode cX11_isPeak 6 = .ok (.iload_n 1, 1) := by decide +kernel
theorem dX11_isPeak_7 : decode cX11_isPeak 7 = .ok (.iload_n 3, 1) := by decide +kernel
theorem dX11_isPeak_8 : decode cX11_isPeak 8 = .ok (.iload_n 3, 1) := by decide +kernel
theorem dX11_isPeak_9 : decode cX11_isPeak 9 = .ok (.iconst 1, 1) := by decide +kernel
theorem dX11_isPeak_10 : decode cX11_isPeak 10 = .ok (.isub, 1) := by decide +kernel
theorem dX11_isPeak_11 : decode cX11_isPeak 11 = .ok (.invokevirtual 336, 3) := by decide +kernel
theorem dX11_isPeak_14 : decode cX11_isPeak 14 = .ok (.lconst 0, 1) := by decide +kernel
theorem dX11_isPeak_15 : decode cX11_isPeak 15 = .ok (.lcmp, 1) := by decide +kernel
theorem dX11_isPeak_16 : decode cX11_isPeak 16 = .ok (.ifCond .le 26, 3) := by decide +kernel
theorem dX11_isPeak_19 : decode cX11_isPeak 19 = .ok (.iload_n 3, 1) := by decide +kernel
theorem dX11_isPeak_20 : decode cX11_isPeak 20 = .ok (.iload_n 2, 1) := by decide +kernel
theorem dX11_isPeak_21 : decode cX11_isPeak 21 = .ok (.if_icmp .eq 17, 3) := by decide +kernel
theorem dX11_isPeak_24 : decode cX11_isPeak 24 = .ok (.aload_n 0, 1) := by decide +kernel
theorem dX11_isPeak_25 : decode cX11_isPeak 25 = .ok (.iload_n 1, 1) := by decide +kernel
theorem dX11_isPeak_26 : decode cX11_isPeak 26 = .ok (.iload_n 3, 1) := by decide +kernel
theorem dX11_isPeak_27 : decode cX11_isPeak 27 = .ok (.iload_n 3, 1) := by decide +kernel
theorem dX11_isPeak_28 : decode cX11_isPeak 28 = .ok (.iconst 1, 1) := by decide +kernel
theorem dX11_isPeak_29 : decode cX11_isPeak 29 = .ok (.iadd, 1) := by decide +kernel
theorem dX11_isPeak_30 : decode cX11_isPeak 30 = .ok (.invokevirtual 336, 3) := by decide +kernel
theorem dX11_isPeak_33 : decode cX11_isPeak 33 = .ok (.lconst 0, 1) := by decide +kernel
theorem dX11_isPeak_34 : decode cX11_isPeak 34 = .ok (.lcmp, 1) := by decide +kernel
theorem dX11_isPeak_35 : decode cX11_isPeak 35 = .ok (.ifCond .lt 7, 3) := by decide +kernel
theorem dX11_isPeak_38 : decode cX11_isPeak 38 = .ok (.iconst 1, 1) := by decide +kernel
theorem dX11_isPeak_39 : decode cX11_isPeak 39 = .ok (.goto 4, 3) := by decide +kernel
theorem dX11_isPeak_42 : decode cX11_isPeak 42 = .ok (.iconst 0, 1) := by decide +kernel
theorem dX11_isPeak_43 : decode cX11_isPeak 43 = .ok (.ireturn, 1) := by decide +kernel
theorem dX11_placeOf_0 : decode cX11_placeOf 0 = .ok (.aload_n 0, 1) := by decide +kernel
theorem dX11_placeOf_1 : decode cX11_placeOf 1 = .ok (.iload_n 1, 1) := by decide +kernel
theorem dX11_placeOf_2 : decode cX11_placeOf 2 = .ok (.iload_n 2, 1) := by decide +kernel
theorem dX11_placeOf_3 : decode cX11_placeOf 3 = .ok (.iload_n 3, 1) := by decide +kernel
theorem dX11_placeOf_4 : decode cX11_placeOf 4 = .ok (.invokevirtual 350, 3) := by decide +kernel
theorem dX11_placeOf_7 : decode cX11_placeOf 7 = .ok (.ifCond .ne 7, 3) := by decide +kernel
theorem dX11_placeOf_10 : decode cX11_placeOf 10 = .ok (.sipush 9999, 3) := by decide +kernel
theorem dX11_placeOf_13 : decode cX11_placeOf 13 = .ok (.ireturn, 1) := by decide +kernel
theorem dX11_placeOf_14 : decode cX11_placeOf 14 = .ok (.iconst 0, 1) := by decide +kernel
theorem dX11_placeOf_15 : decode cX11_placeOf 15 = .ok (.istore 4, 2) := by decide +kernel
theorem dX11_placeOf_17 : decode cX11_placeOf 17 = .ok (.iload_n 1, 1) := by decide +kernel
theorem dX11_placeOf_18 : decode cX11_placeOf 18 = .ok (.istore 5, 2) := by decide +kernel
theorem dX11_placeOf_20 : decode cX11_placeOf 20 = .ok (.iload 5, 2) := by decide +kernel
theorem dX11_placeOf_22 : decode cX11_placeOf 22 = .ok (.iload_n 2, 1) := by decide +kernel
theorem dX11_placeOf_23 : decode cX11_placeOf 23 = .ok (.if_icmp .gt 66, 3) := by decide +kernel
theorem dX11_placeOf_26 : decode cX11_placeOf 26 = .ok (.aload_n 0, 1) := by decide +kernel
theorem dX11_placeOf_27 : decode cX11_placeOf 27 = .ok (.iload_n 1, 1) := by decide +kernel
theorem dX11_placeOf_28 : decode cX11_placeOf 28 = .ok (.iload 5, 2) := by decide +kernel
theorem dX11_placeOf_30 : decode cX11_placeOf 30 = .ok (.iload_n 3, 1) := by decide +kernel
theorem dX11_placeOf_31 : decode cX11_placeOf 31 = .ok (.invokevirtual 336, 3) := by decide +kernel
theorem dX11_placeOf_34 : decode cX11_placeOf 34 = .ok (.lstore 6, 2) := by decide +kernel
theorem dX11_placeOf_36 : decode cX11_placeOf 36 = .ok (.iload 4, 2) := by decide +kernel
theorem dX11_placeOf_38 : decode cX11_placeOf 38 = .ok (.iload 5, 2) := by decide +kernel
theorem dX11_placeOf_40 : decode cX11_placeOf 40 = .ok (.iload_n 3, 1) := by decide +kernel
theorem dX11_placeOf_41 : decode cX11_placeOf 41 = .ok (.if_icmp .eq 38, 3) := by decide +kernel
theorem dX11_placeOf_44 : decode cX11_placeOf 44 = .ok (.aload_n 0, 1) := by decide +kernel
theorem dX11_placeOf_45 : decode cX11_placeOf 45 = .ok (.iload_n 1, 1) := by decide +kernel
theorem dX11_placeOf_46 : decode cX11_placeOf 46 = .ok (.iload_n 2, 1) := by decide +kernel
theorem dX11_placeOf_47 : decode cX11_placeOf 47 = .ok (.iload 5, 2) := by decide +kernel
theorem dX11_placeOf_49 : decode cX11_placeOf 49 = .ok (.invokevirtual 350, 3) := by decide +kernel
theorem dX11_placeOf_52 : decode cX11_placeOf 52 = .ok (.ifCond .eq 27, 3) := by decide +kernel
theorem dX11_placeOf_55 : decode cX11_placeOf 55 = .ok (.lload 6, 2) := by decide +kernel
theorem dX11_placeOf_57 : decode cX11_placeOf 57 = .ok (.lconst 0, 1) := by decide +kernel
theorem dX11_placeOf_58 : decode cX11_placeOf 58 = .ok (.lcmp, 1) := by decide +kernel
theorem dX11_placeOf_59 : decode cX11_placeOf 59 = .ok (.ifCond .gt 16, 3) := by decide +kernel
theorem dX11_placeOf_62 : decode cX11_placeOf 62 = .ok (.lload 6, 2) := by decide +kernel
theorem dX11_placeOf_64 : decode cX11_placeOf 64 = .ok (.lconst 0, 1) := by decide +kernel
theorem dX11_placeOf_65 : decode cX11_placeOf 65 = .ok (.lcmp, 1) := by decide +kernel
theorem dX11_placeOf_66 : decode cX11_placeOf 66 = .ok (.ifCond .ne 13, 3) := by decide +kernel
theorem dX11_placeOf_69 : decode cX11_placeOf 69 = .ok (.iload 5, 2) := by decide +kernel
theorem dX11_placeOf_71 : decode cX11_placeOf 71 = .ok (.iload_n 3, 1) := by decide +kernel
theorem dX11_placeOf_72 : decode cX11_placeOf 72 = .ok (.if_icmp .le 7, 3) := by decide +kernel
theorem dX11_placeOf_75 : decode cX11_placeOf 75 = .ok (.iconst 1, 1) := by decide +kernel
theorem dX11_placeOf_76 : decode cX11_placeOf 76 = .ok (.goto 4, 3) := by decide +kernel
theorem dX11_placeOf_79 : decode cX11_placeOf 79 = .ok (.iconst 0, 1) := by decide +kernel
theorem dX11_placeOf_80 : decode cX11_placeOf 80 = .ok (.iadd, 1) := by decide +kernel
theorem dX11_placeOf_81 : decode cX11_placeOf 81 = .ok (.istore 4, 2) := by decide +kernel
theorem dX11_placeOf_83 : decode cX11_placeOf 83 = .ok (.iinc 5 1, 3) := by decide +kernel
theorem dX11_placeOf_86 : decode cX11_placeOf 86 = .ok (.goto (-66), 3) := by decide +kernel
theorem dX11_placeOf_89 : decode cX11_placeOf 89 = .ok (.iload 4, 2) := by decide +kernel
theorem dX11_placeOf_91 : decode cX11_placeOf 91 = .ok (.ireturn, 1) := by decide +kernel
theorem dX11_peak_0 : decode cX11_peak 0 = .ok (.aload_n 0, 1) := by decide +kernel
theorem dX11_peak_1 : decode cX11_peak 1 = .ok (.iconst 0, 1) := by decide +kernel
theorem dX11_peak_2 : decode cX11_peak 2 = .ok (.putfield 130, 3) := by decide +kernel
theorem dX11_peak_5 : decode cX11_peak 5 = .ok (.iload_n 1, 1) := by decide +kernel
theorem dX11_peak_6 : decode cX11_peak 6 = .ok (.iload_n 2, 1) := by decide +kernel
theorem dX11_peak_7 : decode cX11_peak 7 = .ok (.invokestatic 340, 3) := by decide +kernel
theorem dX11_peak_10 : decode cX11_peak 10 = .ok (.ifCond .ne 5, 3) := by decide +kernel
theorem dX11_peak_13 : decode cX11_peak 13 = .ok (.iconst (-1), 1) := by decide +kernel
theorem dX11_peak_14 : decode cX11_peak 14 = .ok (.ireturn, 1) := by decide +kernel
theorem dX11_peak_15 : decode cX11_peak 15 = .ok (.aload_n 0, 1) := by decide +kernel
theorem dX11_peak_16 : decode cX11_peak 16 = .ok (.invokevirtual 311, 3) := by decide +kernel
theorem dX11_peak_19 : decode cX11_peak 19 = .ok (.aload_n 0, 1) := by decide +kernel
theorem dX11_peak_20 : decode cX11_peak 20 = .ok (.invokevirtual 344, 3) := by decide +kernel
theorem dX11_peak_23 : decode cX11_peak 23 = .ok (.ifCond .eq 14, 3) := by decide +kernel
theorem dX11_peak_26 : decode cX11_peak 26 = .ok (.iload_n 3, 1) := by decide +kernel
theorem dX11_peak_27 : decode cX11_peak 27 = .ok (.iconst 0, 1) := by decide +kernel
theorem dX11_peak_28 : decode cX11_peak 28 = .ok (.iload_n 2, 1) := by decide +kernel
theorem dX11_peak_29 : decode cX11_peak 29 = .ok (.iload_n 1, 1) := by decide +kernel
theorem dX11_peak_30 : decode cX11_peak 30 = .ok (.isub, 1) := by decide +kernel
theorem dX11_peak_31 : decode cX11_peak 31 = .ok (.invokestatic 138, 3) := by decide +kernel
theorem dX11_peak_34 : decode cX11_peak 34 = .ok (.ifCond .ne 5, 3) := by decide +kernel
theorem dX11_peak_37 : decode cX11_peak 37 = .ok (.iconst (-1), 1) := by decide +kernel
theorem dX11_peak_38 : decode cX11_peak 38 = .ok (.ireturn, 1) := by decide +kernel
theorem dX11_peak_39 : decode cX11_peak 39 = .ok (.aload_n 0, 1) := by decide +kernel
theorem dX11_peak_40 : decode cX11_peak 40 = .ok (.iload_n 1, 1) := by decide +kernel
theorem dX11_peak_41 : decode cX11_peak 41 = .ok (.iload_n 2, 1) := by decide +kernel
theorem dX11_peak_42 : decode cX11_peak 42 = .ok (.invokevirtual 333, 3) := by decide +kernel
theorem dX11_peak_45 : decode cX11_peak 45 = .ok (.iload_n 1, 1) := by decide +kernel
theorem dX11_peak_46 : decode cX11_peak 46 = .ok (.istore 4, 2) := by decide +kernel
theorem dX11_peak_48 : decode cX11_peak 48 = .ok (.iload 4, 2) := by decide +kernel
theorem dX11_peak_50 : decode cX11_peak 50 = .ok (.iload_n 2, 1) := by decide +kernel
theorem dX11_peak_51 : decode cX11_peak 51 = .ok (.if_icmp .gt 24, 3) := by decide +kernel
theorem dX11_peak_54 : decode cX11_peak 54 = .ok (.aload_n 0, 1) := by decide +kernel
theorem dX11_peak_55 : decode cX11_peak 55 = .ok (.iload_n 1, 1) := by decide +kernel
theorem dX11_peak_56 : decode cX11_peak 56 = .ok (.iload_n 2, 1) := by decide +kernel
theorem dX11_peak_57 : decode cX11_peak 57 = .ok (.iload 4, 2) := by decide +kernel
theorem dX11_peak_59 : decode cX11_peak 59 = .ok (.invokevirtual 353, 3) := by decide +kernel
theorem dX11_peak_62 : decode cX11_peak 62 = .ok (.iload_n 3, 1) := by decide +kernel
theorem dX11_peak_63 : decode cX11_peak 63 = .ok (.if_icmp .ne 6, 3) := by decide +kernel
theorem dX11_peak_66 : decode cX11_peak 66 = .ok (.iload 4, 2) := by decide +kernel
theorem dX11_peak_68 : decode cX11_peak 68 = .ok (.ireturn, 1) := by decide +kernel
theorem dX11_peak_69 : decode cX11_peak 69 = .ok (.iinc 4 1, 3) := by decide +kernel
theorem dX11_peak_72 : decode cX11_peak 72 = .ok (.goto (-24), 3) := by decide +kernel
theorem dX11_peak_75 : decode cX11_peak 75 = .ok (.iconst (-1), 1) := by decide +kernel
theorem dX11_peak_76 : decode cX11_peak 76 = .ok (.ireturn, 1) := by decide +kernel
theorem dX11_sumOf_0 : decode cX11_sumOf 0 = .ok (.lconst 0, 1) := by decide +kernel
theorem dX11_sumOf_1 : decode cX11_sumOf 1 = .ok (.lstore_n 3, 1) := by decide +kernel
theorem dX11_sumOf_2 : decode cX11_sumOf 2 = .ok (.iconst 0, 1) := by decide +kernel
theorem dX11_sumOf_3 : decode cX11_sumOf 3 = .ok (.istore 5, 2) := by decide +kernel
theorem dX11_sumOf_5 : decode cX11_sumOf 5 = .ok (.iload 5, 2) := by decide +kernel
theorem dX11_sumOf_7 : decode cX11_sumOf 7 = .ok (.aload_n 0, 1) := by decide +kernel
theorem dX11_sumOf_8 : decode cX11_sumOf 8 = .ok (.getfield 302, 3) := by decide +kernel
theorem dX11_sumOf_11 : decode cX11_sumOf 11 = .ok (.if_icmp .ge 74, 3) := by decide +kernel
theorem dX11_sumOf_14 : decode cX11_sumOf 14 = .ok (.aload_n 0, 1) := by decide +kernel
theorem dX11_sumOf_15 : decode cX11_sumOf 15 = .ok (.getfield 114, 3) := by decide +kernel
theorem dX11_sumOf_18 : decode cX11_sumOf 18 = .ok (.iload 5, 2) := by decide +kernel
theorem dX11_sumOf_20 : decode cX11_sumOf 20 = .ok (.baload, 1) := by decide +kernel
theorem dX11_sumOf_21 : decode cX11_sumOf 21 = .ok (.ifCond .eq 58, 3) := by decide +kernel
theorem dX11_sumOf_24 : decode cX11_sumOf 24 = .ok (.aload_n 0, 1) := by decide +kernel
theorem dX11_sumOf_25 : decode cX11_sumOf 25 = .ok (.iload 5, 2) := by decide +kernel
theorem dX11_sumOf_27 : decode cX11_sumOf 27 = .ok (.iload_n 1, 1) := by decide +kernel
theorem dX11_sumOf_28 : decode cX11_sumOf 28 = .ok (.invokevirtual 323, 3) := by decide +kernel
theorem dX11_sumOf_31 : decode cX11_sumOf 31 = .ok (.istore 6, 2) := by decide +kernel
theorem dX11_sumOf_33 : decode cX11_sumOf 33 = .ok (.aload_n 0, 1) := by decide +kernel
theorem dX11_sumOf_34 : decode cX11_sumOf 34 = .ok (.iload 5, 2) := by decide +kernel
theorem dX11_sumOf_36 : decode cX11_sumOf 36 = .ok (.iload_n 2, 1) := by decide +kernel
theorem dX11_sumOf_37 : decode cX11_sumOf 37 = .ok (.invokevirtual 323, 3) := by decide +kernel
theorem dX11_sumOf_40 : decode cX11_sumOf 40 = .ok (.istore 7, 2) := by decide +kernel
theorem dX11_sumOf_42 : decode cX11_sumOf 42 = .ok (.lload_n 3, 1) := by decide +kernel
theorem dX11_sumOf_43 : decode cX11_sumOf 43 = .ok (.iload 6, 2) := by decide +kernel
theorem dX11_sumOf_45 : decode cX11_sumOf 45 = .ok (.iload_n 2, 1) := by decide +kernel
theorem dX11_sumOf_46 : decode cX11_sumOf 46 = .ok (.imul, 1) := by decide +kernel
theorem dX11_sumOf_47 : decode cX11_sumOf 47 = .ok (.iload 7, 2) := by decide +kernel
theorem dX11_sumOf_49 : decode cX11_sumOf 49 = .ok (.iload_n 1, 1) := by decide +kernel
theorem dX11_sumOf_50 : decode cX11_sumOf 50 = .ok (.imul, 1) := by decide +kernel
theorem dX11_sumOf_51 : decode cX11_sumOf 51 = .ok (.if_icmp .gt 16, 3) := by decide +kernel
theorem dX11_sumOf_54 : decode cX11_sumOf 54 = .ok (.iload_n 1, 1) := by decide +kernel
theorem dX11_sumOf_55 : decode cX11_sumOf 55 = .ok (.iconst 4, 1) := by decide +kernel
theorem dX11_sumOf_56 : decode cX11_sumOf 56 = .ok (.iload 6, 2) := by decide +kernel
theorem dX11_sumOf_58 : decode cX11_sumOf 58 = .ok (.imul, 1) := by decide +kernel
theorem dX11_sumOf_59 : decode cX11_sumOf 59 = .ok (.isub, 1) := by decide +kernel
theorem dX11_sumOf_60 : decode cX11_sumOf 60 = .ok (.i2l, 1) := by decide +kernel
theorem dX11_sumOf_61 : decode cX11_sumOf 61 = .ok (.iload_n 2, 1) := by decide +kernel
theorem dX11_sumOf_62 : decode cX11_sumOf 62 = .ok (.i2l, 1) := by decide +kernel
theorem dX11_sumOf_63 : decode cX11_sumOf 63 = .ok (.lmul, 1) := by decide +kernel
theorem dX11_sumOf_64 : decode cX11_sumOf 64 = .ok (.goto 13, 3) := by decide +kernel
theorem dX11_sumOf_67 : decode cX11_sumOf 67 = .ok (.iload_n 2, 1) := by decide +kernel
theorem dX11_sumOf_68 : decode cX11_sumOf 68 = .ok (.iconst 4, 1) := by decide +kernel
theorem dX11_sumOf_69 : decode cX11_sumOf 69 = .ok (.iload 7, 2) := by decide +kernel
theorem dX11_sumOf_71 : decode cX11_sumOf 71 = .ok (.imul, 1) := by decide +kernel
theorem dX11_sumOf_72 : decode cX11_sumOf 72 = .ok (.isub, 1) := by decide +kernel
theorem dX11_sumOf_73 : decode cX11_sumOf 73 = .ok (.i2l, 1) := by decide +kernel
theorem dX11_sumOf_74 : decode cX11_sumOf 74 = .ok (.iload_n 1, 1) := by decide +kernel
theorem dX11_sumOf_75 : decode cX11_sumOf 75 = .ok (.i2l, 1) := by decide +kernel
theorem dX11_sumOf_76 : decode cX11_sumOf 76 = .ok (.lmul, 1) := by decide +kernel
theorem dX11_sumOf_77 : decode cX11_sumOf 77 = .ok (.ladd, 1) := by decide +kernel
theorem dX11_sumOf_78 : decode cX11_sumOf 78 = .ok (.lstore_n 3, 1) := by decide +kernel
theorem dX11_sumOf_79 : decode cX11_sumOf 79 = .ok (.iinc 5 1, 3) := by decide +kernel
theorem dX11_sumOf_82 : decode cX11_sumOf 82 = .ok (.goto (-77), 3) := by decide +kernel
theorem dX11_sumOf_85 : decode cX11_sumOf 85 = .ok (.lload_n 3, 1) := by decide +kernel
theorem dX11_sumOf_86 : decode cX11_sumOf 86 = .ok (.lreturn, 1) := by decide +kernel
theorem dX11_pair_0 : decode cX11_pair 0 = .ok (.aload_n 0, 1) := by decide +kernel
theorem dX11_pair_1 : decode cX11_pair 1 = .ok (.iconst 0, 1) := by decide +kernel
theorem dX11_pair_2 : decode cX11_pair 2 = .ok (.putfield 130, 3) := by decide +kernel
theorem dX11_pair_5 : decode cX11_pair 5 = .ok (.iload_n 1, 1) := by decide +kernel
theorem dX11_pair_6 : decode cX11_pair 6 = .ok (.iload_n 2, 1) := by decide +kernel
theorem dX11_pair_7 : decode cX11_pair 7 = .ok (.invokestatic 340, 3) := by decide +kernel
theorem dX11_pair_10 : decode cX11_pair 10 = .ok (.ifCond .eq 16, 3) := by decide +kernel
theorem dX11_pair_13 : decode cX11_pair 13 = .ok (.iload_n 1, 1) := by decide +kernel
theorem dX11_pair_14 : decode cX11_pair 14 = .ok (.iload_n 2, 1) := by decide +kernel
theorem dX11_pair_15 : decode cX11_pair 15 = .ok (.if_icmp .eq 11, 3) := by decide +kernel
theorem dX11_pair_18 : decode cX11_pair 18 = .ok (.iload_n 2, 1) := by decide +kernel
theorem dX11_pair_19 : decode cX11_pair 19 = .ok (.iload_n 1, 1) := by decide +kernel
theorem dX11_pair_20 : decode cX11_pair 20 = .ok (.isub, 1) := by decide +kernel
theorem dX11_pair_21 : decode cX11_pair 21 = .ok (.bipush 40, 2) := by decide +kernel
theorem dX11_pair_23 : decode cX11_pair 23 = .ok (.if_icmp .le 5, 3) := by decide +kernel
theorem dX11_pair_26 : decode cX11_pair 26 = .ok (.iconst (-1), 1) := by decide +kernel
theorem dX11_pair_27 : decode cX11_pair 27 = .ok (.ireturn, 1) := by decide +kernel
theorem dX11_pair_28 : decode cX11_pair 28 = .ok (.aload_n 0, 1) := by decide +kernel
theorem dX11_pair_29 : decode cX11_pair 29 = .ok (.invokevirtual 311, 3) := by decide +kernel
theorem dX11_pair_32 : decode cX11_pair 32 = .ok (.aload_n 0, 1) := by decide +kernel
theorem dX11_pair_33 : decode cX11_pair 33 = .ok (.invokevirtual 344, 3) := by decide +kernel
theorem dX11_pair_36 : decode cX11_pair 36 = .ok (.ifCond .ne 5, 3) := by decide +kernel
theorem dX11_pair_39 : decode cX11_pair 39 = .ok (.iconst (-1), 1) := by decide +kernel
theorem dX11_pair_40 : decode cX11_pair 40 = .ok (.ireturn, 1) := by decide +kernel
theorem dX11_pair_41 : decode cX11_pair 41 = .ok (.iconst 0, 1) := by decide +kernel
theorem dX11_pair_42 : decode cX11_pair 42 = .ok (.istore_n 3, 1) := by decide +kernel
theorem dX11_pair_43 : decode cX11_pair 43 = .ok (.iconst 0, 1) := by decide +kernel
theorem dX11_pair_44 : decode cX11_pair 44 = .ok (.istore 4, 2) := by decide +kernel
theorem dX11_pair_46 : decode cX11_pair 46 = .ok (.lconst 0, 1) := by decide +kernel
theorem dX11_pair_47 : decode cX11_pair 47 = .ok (.lstore 5, 2) := by decide +kernel
theorem dX11_pair_49 : decode cX11_pair 49 = .ok (.iload_n 1, 1) := by decide +kernel
theorem dX11_pair_50 : decode cX11_pair 50 = .ok (.iconst 1, 1) := by decide +kernel
theorem dX11_pair_51 : decode cX11_pair 51 = .ok (.iadd, 1) := by decide +kernel
theorem dX11_pair_52 : decode cX11_pair 52 = .ok (.istore 7, 2) := by decide +kernel
theorem dX11_pair_54 : decode cX11_pair 54 = .ok (.iload 7, 2) := by decide +kernel
theorem dX11_pair_56 : decode cX11_pair 56 = .ok (.iload_n 2, 1) := by decide +kernel
theorem dX11_pair_57 : decode cX11_pair 57 = .ok (.if_icmp .gt 74, 3) := by decide +kernel
theorem dX11_pair_60 : decode cX11_pair 60 = .ok (.iload_n 1, 1) := by decide +kernel
theorem dX11_pair_61 : decode cX11_pair 61 = .ok (.istore 8, 2) := by decide +kernel
theorem dX11_pair_63 : decode cX11_pair 63 = .ok (.iload 8, 2) := by decide +kernel
theorem dX11_pair_65 : decode cX11_pair 65 = .ok (.iload 7, 2) := by decide +kernel
theorem dX11_pair_67 : decode cX11_pair 67 = .ok (.if_icmp .ge 58, 3) := by decide +kernel
theorem dX11_pair_70 : decode cX11_pair 70 = .ok (.aload_n 0, 1) := by decide +kernel
theorem dX11_pair_71 : decode cX11_pair 71 = .ok (.iload 8, 2) := by decide +kernel
theorem dX11_pair_73 : decode cX11_pair 73 = .ok (.iload 7, 2) := by decide +kernel
theorem dX11_pair_75 : decode cX11_pair 75 = .ok (.invokevirtual 356, 3) := by decide +kernel
theorem dX11_pair_78 : decode cX11_pair 78 = .ok (.lstore 9, 2) := by decide +kernel
theorem dX11_pair_80 : decode cX11_pair 80 = .ok (.iload 4, 2) := by decide +kernel
theorem dX11_pair_82 : decode cX11_pair 82 = .ok (.ifCond .eq 26, 3) := by decide +kernel
theorem dX11_pair_85 : decode cX11_pair 85 = .ok (.lload 9, 2) := by decide +kernel
theorem dX11_pair_87 : decode cX11_pair 87 = .ok (.iload_n 3, 1) := by decide +kernel
theorem dX11_pair_88 : decode cX11_pair 88 = .ok (.i2l, 1) := by decide +kernel
theorem dX11_pair_89 : decode cX11_pair 89 = .ok (.lmul, 1) := by decide +kernel
theorem dX11_pair_90 : decode cX11_pair 90 = .ok (.iload 4, 2) := by decide +kernel
theorem dX11_pair_92 : decode cX11_pair 92 = .ok (.i2l, 1) := by decide +kernel
theorem dX11_pair_93 : decode cX11_pair 93 = .ok (.lmul, 1) := by decide +kernel
theorem dX11_pair_94 : decode cX11_pair 94 = .ok (.lload 5, 2) := by decide +kernel
theorem dX11_pair_96 : decode cX11_pair 96 = .ok (.iload 8, 2) := by decide +kernel
theorem dX11_pair_98 : decode cX11_pair 98 = .ok (.i2l, 1) := by decide +kernel
theorem dX11_pair_99 : decode cX11_pair 99 = .ok (.lmul, 1) := by decide +kernel
theorem dX11_pair_100 : decode cX11_pair 100 = .ok (.iload 7, 2) := by decide +kernel
theorem dX11_pair_102 : decode cX11_pair 102 = .ok (.i2l, 1) := by decide +kernel
theorem dX11_pair_103 : decode cX11_pair 103 = .ok (.lmul, 1) := by decide +kernel
theorem dX11_pair_104 : decode cX11_pair 104 = .ok (.lcmp, 1) := by decide +kernel
theorem dX11_pair_105 : decode cX11_pair 105 = .ok (.ifCond .lt 14, 3) := by decide +kernel
theorem dX11_pair_108 : decode cX11_pair 108 = .ok (.lload 9, 2) := by decide +kernel
theorem dX11_pair_110 : decode cX11_pair 110 = .ok (.lstore 5, 2) := by decide +kernel
theorem dX11_pair_112 : decode cX11_pair 112 = .ok (.iload 8, 2) := by decide +kernel
theorem dX11_pair_114 : decode cX11_pair 114 = .ok (.istore_n 3, 1) := by decide +kernel
theorem dX11_pair_115 : decode cX11_pair 115 = .ok (.iload 7, 2) := by decide +kernel
theorem dX11_pair_117 : decode cX11_pair 117 = .ok (.istore 4, 2) := by decide +kernel
theorem dX11_pair_119 : decode cX11_pair 119 = .ok (.iinc 8 1, 3) := by decide +kernel
theorem dX11_pair_122 : decode cX11_pair 122 = .ok (.goto (-59), 3) := by decide +kernel
theorem dX11_pair_125 : decode cX11_pair 125 = .ok (.iinc 7 1, 3) := by decide +kernel
theorem dX11_pair_128 : decode cX11_pair 128 = .ok (.goto (-74), 3) := by decide +kernel
theorem dX11_pair_131 : decode cX11_pair 131 = .ok (.sipush 10000, 3) := by decide +kernel
theorem dX11_pair_134 : decode cX11_pair 134 = .ok (.iload 4, 2) := by decide +kernel
theorem dX11_pair_136 : decode cX11_pair 136 = .ok (.imul, 1) := by decide +kernel
theorem dX11_pair_137 : decode cX11_pair 137 = .ok (.iload_n 3, 1) := by decide +kernel
theorem dX11_pair_138 : decode cX11_pair 138 = .ok (.iadd, 1) := by decide +kernel
theorem dX11_pair_139 : decode cX11_pair 139 = .ok (.ireturn, 1) := by decide +kernel
theorem dX11_sum_0 : decode cX11_sum 0 = .ok (.aload_n 0, 1) := by decide +kernel
theorem dX11_sum_1 : decode cX11_sum 1 = .ok (.iconst 0, 1) := by decide +kernel
theorem dX11_sum_2 : decode cX11_sum 2 = .ok (.putfield 130, 3) := by decide +kernel
theorem dX11_sum_5 : decode cX11_sum 5 = .ok (.iload_n 1, 1) := by decide +kernel
theorem dX11_sum_6 : decode cX11_sum 6 = .ok (.invokestatic 314, 3) := by decide +kernel
theorem dX11_sum_9 : decode cX11_sum 9 = .ok (.ifCond .eq 15, 3) := by decide +kernel
theorem dX11_sum_12 : decode cX11_sum 12 = .ok (.iload_n 2, 1) := by decide +kernel
theorem dX11_sum_13 : decode cX11_sum 13 = .ok (.invokestatic 314, 3) := by decide +kernel
theorem dX11_sum_16 : decode cX11_sum 16 = .ok (.ifCond .eq 8, 3) := by decide +kernel
theorem dX11_sum_19 : decode cX11_sum 19 = .ok (.iload_n 1, 1) := by decide +kernel
theorem dX11_sum_20 : decode cX11_sum 20 = .ok (.iload_n 2, 1) := by decide +kernel
theorem dX11_sum_21 : decode cX11_sum 21 = .ok (.if_icmp .lt 7, 3) := by decide +kernel
theorem dX11_sum_24 : decode cX11_sum 24 = .ok (.ldc2_w 360, 3) := by decide +kernel
theorem dX11_sum_27 : decode cX11_sum 27 = .ok (.lreturn, 1) := by decide +kernel
theorem dX11_sum_28 : decode cX11_sum 28 = .ok (.aload_n 0, 1) := by decide +kernel
theorem dX11_sum_29 : decode cX11_sum 29 = .ok (.invokevirtual 311, 3) := by decide +kernel
theorem dX11_sum_32 : decode cX11_sum 32 = .ok (.aload_n 0, 1) := by decide +kernel
theorem dX11_sum_33 : decode cX11_sum 33 = .ok (.iload_n 1, 1) := by decide +kernel
theorem dX11_sum_34 : decode cX11_sum 34 = .ok (.iload_n 2, 1) := by decide +kernel
theorem dX11_sum_35 : decode cX11_sum 35 = .ok (.invokevirtual 356, 3) := by decide +kernel
theorem dX11_sum_38 : decode cX11_sum 38 = .ok (.lreturn, 1) := by decide +kernel
theorem dX11_likely_0 : decode cX11_likely 0 = .ok (.iconst 0, 1) := by decide +kernel
theorem dX11_likely_1 : decode cX11_likely 1 = .ok (.istore_n 2, 1) := by decide +kernel
theorem dX11_likely_2 : decode cX11_likely 2 = .ok (.iconst 0, 1) := by decide +kernel
theorem dX11_likely_3 : decode cX11_likely 3 = .ok (.istore_n 3, 1) := by decide +kernel
theorem dX11_likely_4 : decode cX11_likely 4 = .ok (.iload_n 3, 1) := by decide +kernel
theorem dX11_likely_5 : decode cX11_likely 5 = .ok (.iload_n 0, 1) := by decide +kernel
theorem dX11_likely_6 : decode cX11_likely 6 = .ok (.if_icmp .ge 58, 3) := by decide +kernel
theorem dX11_likely_9 : decode cX11_likely 9 = .ok (.iload_n 3, 1) := by decide +kernel
theorem dX11_likely_10 : decode cX11_likely 10 = .ok (.iload_n 3, 1) := by decide +kernel
theorem dX11_likely_11 : decode cX11_likely 11 = .ok (.iload_n 1, 1) := by decide +kernel
theorem dX11_likely_12 : decode cX11_likely 12 = .ok (.iadd, 1) := by decide +kernel
theorem dX11_likely_13 : decode cX11_likely 13 = .ok (.iconst 0, 1) := by decide +kernel
theorem dX11_likely_14 : decode cX11_likely 14 = .ok (.invokestatic 317, 3) := by decide +kernel
theorem dX11_likely_17 : decode cX11_likely 17 = .ok (.istore 4, 2) := by decide +kernel
theorem dX11_likely_19 : decode cX11_likely 19 = .ok (.iload_n 3, 1) := by decide +kernel
theorem dX11_likely_20 : decode cX11_likely 20 = .ok (.iload_n 3, 1) := by decide +kernel
theorem dX11_likely_21 : decode cX11_likely 21 = .ok (.iload_n 1, 1) := by decide +kernel
theorem dX11_likely_22 : decode cX11_likely 22 = .ok (.iadd, 1) := by decide +kernel
theorem dX11_likely_23 : decode cX11_likely 23 = .ok (.iload_n 0, 1) := by decide +kernel
theorem dX11_likely_24 : decode cX11_likely 24 = .ok (.invokestatic 317, 3) := by decide +kernel
theorem dX11_likely_27 : decode cX11_likely 27 = .ok (.istore 5, 2) := by decide +kernel
theorem dX11_likely_29 : decode cX11_likely 29 = .ok (.iload_n 2, 1) := by decide +kernel
theorem dX11_likely_30 : decode cX11_likely 30 = .ok (.bipush 8, 2) := by decide +kernel
theorem dX11_likely_32 : decode cX11_likely 32 = .ok (.iload 4, 2) := by decide +kernel
theorem dX11_likely_34 : decode cX11_likely 34 = .ok (.iload 5, 2) := by decide +kernel
theorem dX11_likely_36 : decode cX11_likely 36 = .ok (.if_icmp .ge 8, 3) := by decide +kernel
theorem dX11_likely_39 : decode cX11_likely 39 = .ok (.iload 4, 2) := by decide +kernel
theorem dX11_likely_41 : decode cX11_likely 41 = .ok (.goto 5, 3) := by decide +kernel
theorem dX11_likely_44 : decode cX11_likely 44 = .ok (.iload 5, 2) := by decide +kernel
theorem dX11_likely_46 : decode cX11_likely 46 = .ok (.imul, 1) := by decide +kernel
theorem dX11_likely_47 : decode cX11_likely 47 = .ok (.iload_n 0, 1) := by decide +kernel
theorem dX11_likely_48 : decode cX11_likely 48 = .ok (.if_icmp .gt 7, 3) := by decide +kernel
theorem dX11_likely_51 : decode cX11_likely 51 = .ok (.iconst 1, 1) := by decide +kernel
theorem dX11_likely_52 : decode cX11_likely 52 = .ok (.goto 4, 3) := by decide +kernel
theorem dX11_likely_55 : decode cX11_likely 55 = .ok (.iconst 0, 1) := by decide +kernel
theorem dX11_likely_56 : decode cX11_likely 56 = .ok (.iadd, 1) := by decide +kernel
theorem dX11_likely_57 : decode cX11_likely 57 = .ok (.istore_n 2, 1) := by decide +kernel
theorem dX11_likely_58 : decode cX11_likely 58 = .ok (.iinc 3 1, 3) := by decide +kernel
theorem dX11_likely_61 : decode cX11_likely 61 = .ok (.goto (-57), 3) := by decide +kernel
theorem dX11_likely_64 : decode cX11_likely 64 = .ok (.iload_n 2, 1) := by decide +kernel
theorem dX11_likely_65 : decode cX11_likely 65 = .ok (.ireturn, 1) := by decide +kernel
theorem dX11_nearOf_0 : decode cX11_nearOf 0 = .ok (.iconst 0, 1) := by decide +kernel
theorem dX11_nearOf_1 : decode cX11_nearOf 1 = .ok (.istore_n 2, 1) := by decide +kernel
theorem dX11_nearOf_2 : decode cX11_nearOf 2 = .ok (.iconst 0, 1) := by decide +kernel
theorem dX11_nearOf_3 : decode cX11_nearOf 3 = .ok (.istore_n 3, 1) := by decide +kernel
theorem dX11_nearOf_4 : decode cX11_nearOf 4 = .ok (.iload_n 3, 1) := by decide +kernel
theorem dX11_nearOf_5 : decode cX11_nearOf 5 = .ok (.aload_n 0, 1) := by decide +kernel
theorem dX11_nearOf_6 : decode cX11_nearOf 6 = .ok (.getfield 302, 3) := by decide +kernel
theorem dX11_nearOf_9 : decode cX11_nearOf 9 = .ok (.if_icmp .ge 39, 3) := by decide +kernel
theorem dX11_nearOf_12 : decode cX11_nearOf 12 = .ok (.iload_n 2, 1) := by decide +kernel
theorem dX11_nearOf_13 : decode cX11_nearOf 13 = .ok (.aload_n 0, 1) := by decide +kernel
theorem dX11_nearOf_14 : decode cX11_nearOf 14 = .ok (.getfield 114, 3) := by decide +kernel
theorem dX11_nearOf_17 : decode cX11_nearOf 17 = .ok (.iload_n 3, 1) := by decide +kernel
theorem dX11_nearOf_18 : decode cX11_nearOf 18 = .ok (.baload, 1) := by decide +kernel
theorem dX11_nearOf_19 : decode cX11_nearOf 19 = .ok (.ifCond .eq 20, 3) := by decide +kernel
theorem dX11_nearOf_22 : decode cX11_nearOf 22 = .ok (.bipush 8, 2) := by decide +kernel
theorem dX11_nearOf_24 : decode cX11_nearOf 24 = .ok (.aload_n 0, 1) := by decide +kernel
theorem dX11_nearOf_25 : decode cX11_nearOf 25 = .ok (.iload_n 3, 1) := by decide +kernel
theorem dX11_nearOf_26 : decode cX11_nearOf 26 = .ok (.iload_n 1, 1) := by decide +kernel
theorem dX11_nearOf_27 : decode cX11_nearOf 27 = .ok (.invokevirtual 323, 3) := by decide +kernel
theorem dX11_nearOf_30 : decode cX11_nearOf 30 = .ok (.imul, 1) := by decide +kernel
theorem dX11_nearOf_31 : decode cX11_nearOf 31 = .ok (.iload_n 1, 1) := by decide +kernel
theorem dX11_nearOf_32 : decode cX11_nearOf 32 = .ok (.if_icmp .gt 7, 3) := by decide +kernel
theorem dX11_nearOf_35 : decode cX11_nearOf 35 = .ok (.iconst 1, 1) := by decide +kernel
theorem dX11_nearOf_36 : decode cX11_nearOf 36 = .ok (.goto 4, 3) := by decide +kernel
theorem dX11_nearOf_39 : decode cX11_nearOf 39 = .ok (.iconst 0, 1) := by decide +kernel
theorem dX11_nearOf_40 : decode cX11_nearOf 40 = .ok (.iadd, 1) := by decide +kernel
theorem dX11_nearOf_41 : decode cX11_nearOf 41 = .ok (.istore_n 2, 1) := by decide +kernel
theorem dX11_nearOf_42 : decode cX11_nearOf 42 = .ok (.iinc 3 1, 3) := by decide +kernel
theorem dX11_nearOf_45 : decode cX11_nearOf 45 = .ok (.goto (-41), 3) := by decide +kernel
theorem dX11_nearOf_48 : decode cX11_nearOf 48 = .ok (.iload_n 2, 1) := by decide +kernel
theorem dX11_nearOf_49 : decode cX11_nearOf 49 = .ok (.ireturn, 1) := by decide +kernel
theorem dX11_beginChances_0 : decode cX11_beginChances 0 = .ok (.iconst 0, 1) := by decide +kernel
theorem dX11_beginChances_1 : decode cX11_beginChances 1 = .ok (.istore_n 1, 1) := by decide +kernel
theorem dX11_beginChances_2 : decode cX11_beginChances 2 = .ok (.iload_n 1, 1) := by decide +kernel
theorem dX11_beginChances_3 : decode cX11_beginChances 3 = .ok (.bipush 32, 2) := by decide +kernel
theorem dX11_beginChances_5 : decode cX11_beginChances 5 = .ok (.if_icmp .gt 26, 3) := by decide +kernel
theorem dX11_beginChances_8 : decode cX11_beginChances 8 = .ok (.aload_n 0, 1) := by decide +kernel
theorem dX11_beginChances_9 : decode cX11_beginChances 9 = .ok (.getfield 120, 3) := by decide +kernel
theorem dX11_beginChances_12 : decode cX11_beginChances 12 = .ok (.iload_n 1, 1) := by decide +kernel
theorem dX11_beginChances_13 : decode cX11_beginChances 13 = .ok (.iload_n 1, 1) := by decide +kernel
theorem dX11_beginChances_14 : decode cX11_beginChances 14 = .ok (.ifCond .ne 9, 3) := by decide +kernel
theorem dX11_beginChances_17 : decode cX11_beginChances 17 = .ok (.ldc2_w 362, 3) := by decide +kernel
theorem dX11_beginChances_20 : decode cX11_beginChances 20 = .ok (.goto 4, 3) := by decide +kernel
theorem dX11_beginChances_23 : decode cX11_beginChances 23 = .ok (.lconst 0, 1) := by decide +kernel
theorem dX11_beginChances_24 : decode cX11_beginChances 24 = .ok (.lastore, 1) := by decide +kernel
theorem dX11_beginChances_25 : decode cX11_beginChances 25 = .ok (.iinc 1 1, 3) := by decide +kernel
theorem dX11_beginChances_28 : decode cX11_beginChances 28 = .ok (.goto (-26), 3) := by decide +kernel
theorem dX11_beginChances_31 : decode cX11_beginChances 31 = .ok (.return_, 1) := by decide +kernel
theorem dX11_draw_0 : decode cX11_draw 0 = .ok (.bipush 32, 2) := by decide +kernel
theorem dX11_draw_2 : decode cX11_draw 2 = .ok (.istore_n 3, 1) := by decide +kernel
theorem dX11_draw_3 : decode cX11_draw 3 = .ok (.iload_n 3, 1) := by decide +kernel
theorem dX11_draw_4 : decode cX11_draw 4 = .ok (.ifCond .lt 49, 3) := by decide +kernel
theorem dX11_draw_7 : decode cX11_draw 7 = .ok (.aload_n 0, 1) := by decide +kernel
theorem dX11_draw_8 : decode cX11_draw 8 = .ok (.getfield 120, 3) := by decide +kernel
theorem dX11_draw_11 : decode cX11_draw 11 = .ok (.iload_n 3, 1) := by decide +kernel
theorem dX11_draw_12 : decode cX11_draw 12 = .ok (.aload_n 0, 1) := by decide +kernel
theorem dX11_draw_13 : decode cX11_draw 13 = .ok (.getfield 120, 3) := by decide +kernel
theorem dX11_draw_16 : decode cX11_draw 16 = .ok (.iload_n 3, 1) := by decide +kernel
theorem dX11_draw_17 : decode cX11_draw 17 = .ok (.laload, 1) := by decide +kernel
theorem dX11_draw_18 : decode cX11_draw 18 = .ok (.iload_n 2, 1) := by decide +kernel
theorem dX11_draw_19 : decode cX11_draw 19 = .ok (.iload_n 1, 1) := by decide +kernel
theorem dX11_draw_20 : decode cX11_draw 20 = .ok (.isub, 1) := by decide +kernel
theorem dX11_draw_21 : decode cX11_draw 21 = .ok (.i2l, 1) := by decide +kernel
theorem dX11_draw_22 : decode cX11_draw 22 = .ok (.lmul, 1) := by decide +kernel
theorem dX11_draw_23 : decode cX11_draw 23 = .ok (.iload_n 3, 1) := by decide +kernel
theorem dX11_draw_24 : decode cX11_draw 24 = .ok (.ifCond .le 17, 3) := by decide +kernel
theorem dX11_draw_27 : decode cX11_draw 27 = .ok (.aload_n 0, 1) := by decide +kernel
theorem dX11_draw_28 : decode cX11_draw 28 = .ok (.getfield 120, 3) := by decide +kernel
theorem dX11_draw_31 : decode cX11_draw 31 = .ok (.iload_n 3, 1) := by decide +kernel
theorem dX11_draw_32 : decode cX11_draw 32 = .ok (.iconst 1, 1) := by decide +kernel
theorem dX11_draw_33 : decode cX11_draw 33 = .ok (.isub, 1) := by decide +kernel
theorem dX11_draw_34 : decode cX11_draw 34 = .ok (.laload, 1) := by decide +kernel
theorem dX11_draw_35 : decode cX11_draw 35 = .ok (.iload_n 1, 1) := by decide +kernel
theorem dX11_draw_36 : decode cX11_draw 36 = .ok (.i2l, 1) := by decide +kernel
theorem dX11_draw_37 : decode cX11_draw 37 = .ok (.lmul, 1) := by decide +kernel
theorem dX11_draw_38 : decode cX11_draw 38 = .ok (.goto 4, 3) := by decide +kernel
theorem dX11_draw_41 : decode cX11_draw 41 = .ok (.lconst 0, 1) := by decide +kernel
theorem dX11_draw_42 : decode cX11_draw 42 = .ok (.ladd, 1) := by decide +kernel
theorem dX11_draw_43 : decode cX11_draw 43 = .ok (.iload_n 2, 1) := by decide +kernel
theorem dX11_draw_44 : decode cX11_draw 44 = .ok (.i2l, 1) := by decide +kernel
theorem dX11_draw_45 : decode cX11_draw 45 = .ok (.ldiv, 1) := by decide +kernel
theorem dX11_draw_46 : decode cX11_draw 46 = .ok (.lastore, 1) := by decide +kernel
theorem dX11_draw_47 : decode cX11_draw 47 = .ok (.iinc 3 (-1), 3) := by decide +kernel
theorem dX11_draw_50 : decode cX11_draw 50 = .ok (.goto (-47), 3) := by decide +kernel
theorem dX11_draw_53 : decode cX11_draw 53 = .ok (.return_, 1) := by decide +kernel
theorem dX11_chancesFrom_0 : decode cX11_chancesFrom 0 = .ok (.lconst 0, 1) := by decide +kernel
theorem dX11_chancesFrom_1 : decode cX11_chancesFrom 1 = .ok (.lstore_n 2, 1) := by decide +kernel
theorem dX11_chancesFrom_2 : decode cX11_chancesFrom 2 = .ok (.iload_n 1, 1) := by decide +kernel
theorem dX11_chancesFrom_3 : decode cX11_chancesFrom 3 = .ok (.istore 4, 2) := by decide +kernel
theorem dX11_chancesFrom_5 : decode cX11_chancesFrom 5 = .ok (.iload 4, 2) := by decide +kernel
theorem dX11_chancesFrom_7 : decode cX11_chancesFrom 7 = .ok (.bipush 32, 2) := by decide +kernel
theorem dX11_chancesFrom_9 : decode cX11_chancesFrom 9 = .ok (.if_icmp .gt 19, 3) := by decide +kernel
theorem dX11_chancesFrom_12 : decode cX11_chancesFrom 12 = .ok (.lload_n 2, 1) := by decide +kernel
theorem dX11_chancesFrom_13 : decode cX11_chancesFrom 13 = .ok (.aload_n 0, 1) := by decide +kernel
theorem dX11_chancesFrom_14 : decode cX11_chancesFrom 14 = .ok (.getfield 120, 3) := by decide +kernel
theorem dX11_chancesFrom_17 : decode cX11_chancesFrom 17 = .ok (.iload 4, 2) := by decide +kernel
theorem dX11_chancesFrom_19 : decode cX11_chancesFrom 19 = .ok (.laload, 1) := by decide +kernel
theorem dX11_chancesFrom_20 : decode cX11_chancesFrom 20 = .ok (.ladd, 1) := by decide +kernel
theorem dX11_chancesFrom_21 : decode cX11_chancesFrom 21 = .ok (.lstore_n 2, 1) := by decide +kernel
theorem dX11_chancesFrom_22 : decode cX11_chancesFrom 22 = .ok (.iinc 4 1, 3) := by decide +kernel
theorem dX11_chancesFrom_25 : decode cX11_chancesFrom 25 = .ok (.goto (-20), 3) := by decide +kernel
theorem dX11_chancesFrom_28 : decode cX11_chancesFrom 28 = .ok (.lload_n 2, 1) := by decide +kernel
theorem dX11_chancesFrom_29 : decode cX11_chancesFrom 29 = .ok (.lreturn, 1) := by decide +kernel
theorem dX11_chanceOf_0 : decode cX11_chanceOf 0 = .ok (.aload_n 0, 1) := by decide +kernel
theorem dX11_chanceOf_1 : decode cX11_chanceOf 1 = .ok (.invokevirtual 364, 3) := by decide +kernel
theorem dX11_chanceOf_4 : decode cX11_chanceOf 4 = .ok (.iconst 0, 1) := by decide +kernel
theorem dX11_chanceOf_5 : decode cX11_chanceOf 5 = .ok (.istore_n 2, 1) := by decide +kernel
theorem dX11_chanceOf_6 : decode cX11_chanceOf 6 = .ok (.iload_n 2, 1) := by decide +kernel
theorem dX11_chanceOf_7 : decode cX11_chanceOf 7 = .ok (.aload_n 0, 1) := by decide +kernel
theorem dX11_chanceOf_8 : decode cX11_chanceOf 8 = .ok (.getfield 302, 3) := by decide +kernel
theorem dX11_chanceOf_11 : decode cX11_chanceOf 11 = .ok (.if_icmp .ge 40, 3) := by decide +kernel
theorem dX11_chanceOf_14 : decode cX11_chanceOf 14 = .ok (.aload_n 0, 1) := by decide +kernel
theorem dX11_chanceOf_15 : decode cX11_chanceOf 15 = .ok (.getfield 114, 3) := by decide +kernel
theorem dX11_chanceOf_18 : decode cX11_chanceOf 18 = .ok (.iload_n 2, 1) := by decide +kernel
theorem dX11_chanceOf_19 : decode cX11_chanceOf 19 = .ok (.baload, 1) := by decide +kernel
theorem dX11_chanceOf_20 : decode cX11_chanceOf 20 = .ok (.ifCond .eq 25, 3) := by decide +kernel
theorem dX11_chanceOf_23 : decode cX11_chanceOf 23 = .ok (.aload_n 0, 1) := by decide +kernel
theorem dX11_chanceOf_24 : decode cX11_chanceOf 24 = .ok (.iload_n 1, 1) := by decide +kernel
theorem dX11_chanceOf_25 : decode cX11_chanceOf 25 = .ok (.aload_n 0, 1) := by decide +kernel
theorem dX11_chanceOf_26 : decode cX11_chanceOf 26 = .ok (.getfield 111, 3) := by decide +kernel
theorem dX11_chanceOf_29 : decode cX11_chanceOf 29 = .ok (.iload_n 2, 1) := by decide +kernel
theorem dX11_chanceOf_30 : decode cX11_chanceOf 30 = .ok (.iaload, 1) := by decide +kernel
theorem dX11_chanceOf_31 : decode cX11_chanceOf 31 = .ok (.aload_n 0, 1) := by decide +kernel
theorem dX11_chanceOf_32 : decode cX11_chanceOf 32 = .ok (.getfield 108, 3) := by decide +kernel
theorem dX11_chanceOf_35 : decode cX11_chanceOf 35 = .ok (.iload_n 2, 1) := by decide +kernel
theorem dX11_chanceOf_36 : decode cX11_chanceOf 36 = .ok (.iaload, 1) := by decide +kernel
theorem dX11_chanceOf_37 : decode cX11_chanceOf 37 = .ok (.isub, 1) := by decide +kernel
theorem dX11_chanceOf_38 : decode cX11_chanceOf 38 = .ok (.invokestatic 367, 3) := by decide +kernel
theorem dX11_chanceOf_41 : decode cX11_chanceOf 41 = .ok (.iload_n 1, 1) := by decide +kernel
theorem dX11_chanceOf_42 : decode cX11_chanceOf 42 = .ok (.invokevirtual 370, 3) := by decide +kernel
theorem dX11_chanceOf_45 : decode cX11_chanceOf 45 = .ok (.iinc 2 1, 3) := by decide +kernel
theorem dX11_chanceOf_48 : decode cX11_chanceOf 48 = .ok (.goto (-42), 3) := by decide +kernel
theorem dX11_chanceOf_51 : decode cX11_chanceOf 51 = .ok (.aload_n 0, 1) := by decide +kernel
theorem dX11_chanceOf_52 : decode cX11_chanceOf 52 = .ok (.aload_n 0, 1) := by decide +kernel
theorem dX11_chanceOf_53 : decode cX11_chanceOf 53 = .ok (.iload_n 1, 1) := by decide +kernel
theorem dX11_chanceOf_54 : decode cX11_chanceOf 54 = .ok (.invokevirtual 373, 3) := by decide +kernel
theorem dX11_chanceOf_57 : decode cX11_chanceOf 57 = .ok (.invokevirtual 376, 3) := by decide +kernel
theorem dX11_chanceOf_60 : decode cX11_chanceOf 60 = .ok (.lreturn, 1) := by decide +kernel
theorem dX11_chance_0 : decode cX11_chance 0 = .ok (.aload_n 0, 1) := by decide +kernel
theorem dX11_chance_1 : decode cX11_chance 1 = .ok (.iconst 0, 1) := by decide +kernel
theorem dX11_chance_2 : decode cX11_chance 2 = .ok (.putfield 130, 3) := by decide +kernel
theorem dX11_chance_5 : decode cX11_chance 5 = .ok (.iload_n 1, 1) := by decide +kernel
theorem dX11_chance_6 : decode cX11_chance 6 = .ok (.invokestatic 314, 3) := by decide +kernel
theorem dX11_chance_9 : decode cX11_chance 9 = .ok (.ifCond .ne 5, 3) := by decide +kernel
theorem dX11_chance_12 : decode cX11_chance 12 = .ok (.iconst (-1), 1) := by decide +kernel
theorem dX11_chance_13 : decode cX11_chance 13 = .ok (.ireturn, 1) := by decide +kernel
theorem dX11_chance_14 : decode cX11_chance 14 = .ok (.aload_n 0, 1) := by decide +kernel
theorem dX11_chance_15 : decode cX11_chance 15 = .ok (.invokevirtual 311, 3) := by decide +kernel
theorem dX11_chance_18 : decode cX11_chance 18 = .ok (.aload_n 0, 1) := by decide +kernel
theorem dX11_chance_19 : decode cX11_chance 19 = .ok (.iload_n 1, 1) := by decide +kernel
theorem dX11_chance_20 : decode cX11_chance 20 = .ok (.invokevirtual 380, 3) := by decide +kernel
theorem dX11_chance_23 : decode cX11_chance 23 = .ok (.l2i, 1) := by decide +kernel
theorem dX11_chance_24 : decode cX11_chance 24 = .ok (.ireturn, 1) := by decide +kernel
theorem dX11_thousands_0 : decode cX11_thousands 0 = .ok (.lload_n 0, 1) := by decide +kernel
theorem dX11_thousands_1 : decode cX11_thousands 1 = .ok (.ldc2_w 383, 3) := by decide +kernel
theorem dX11_thousands_4 : decode cX11_thousands 4 = .ok (.ldiv, 1) := by decide +kernel
theorem dX11_thousands_5 : decode cX11_thousands 5 = .ok (.lstore_n 2, 1) := by decide +kernel
theorem dX11_thousands_6 : decode cX11_thousands 6 = .ok (.lload_n 2, 1) := by decide +kernel
theorem dX11_thousands_7 : decode cX11_thousands 7 = .ok (.ldc2_w 385, 3) := by decide +kernel
theorem dX11_thousands_10 : decode cX11_thousands 10 = .ok (.lcmp, 1) := by decide +kernel
theorem dX11_thousands_11 : decode cX11_thousands 11 = .ok (.ifCond .le 9, 3) := by decide +kernel
theorem dX11_thousands_14 : decode cX11_thousands 14 = .ok (.sipush 9999, 3) := by decide +kernel
theorem dX11_thousands_17 : decode cX11_thousands 17 = .ok (.goto 5, 3) := by decide +kernel
theorem dX11_thousands_20 : decode cX11_thousands 20 = .ok (.lload_n 2, 1) := by decide +kernel
theorem dX11_thousands_21 : decode cX11_thousands 21 = .ok (.l2i, 1) := by decide +kernel
theorem dX11_thousands_22 : decode cX11_thousands 22 = .ok (.ireturn, 1) := by decide +kernel
theorem dX11_findProof_0 : decode cX11_findProof 0 = .ok (.aload_n 0, 1) := by decide +kernel
theorem dX11_findProof_1 : decode cX11_findProof 1 = .ok (.invokevirtual 344, 3) := by decide +kernel
theorem dX11_findProof_4 : decode cX11_findProof 4 = .ok (.istore 4, 2) := by decide +kernel
theorem dX11_findProof_6 : decode cX11_findProof 6 = .ok (.aload_n 0, 1) := by decide +kernel
theorem dX11_findProof_7 : decode cX11_findProof 7 = .ok (.iload_n 1, 1) := by decide +kernel
theorem dX11_findProof_8 : decode cX11_findProof 8 = .ok (.invokevirtual 380, 3) := by decide +kernel
theorem dX11_findProof_11 : decode cX11_findProof 11 = .ok (.lstore 5, 2) := by decide +kernel
theorem dX11_findProof_13 : decode cX11_findProof 13 = .ok (.lload 5, 2) := by decide +kernel
theorem dX11_findProof_15 : decode cX11_findProof 15 = .ok (.iload_n 3, 1) := by decide +kernel
theorem dX11_findProof_16 : decode cX11_findProof 16 = .ok (.iload_n 2, 1) := by decide +kernel
theorem dX11_findProof_17 : decode cX11_findProof 17 = .ok (.isub, 1) := by decide +kernel
theorem dX11_findProof_18 : decode cX11_findProof 18 = .ok (.iconst 1, 1) := by decide +kernel
theorem dX11_findProof_19 : decode cX11_findProof 19 = .ok (.iadd, 1) := by decide +kernel
theorem dX11_findProof_20 : decode cX11_findProof 20 = .ok (.i2l, 1) := by decide +kernel
theorem dX11_findProof_21 : decode cX11_findProof 21 = .ok (.lmul, 1) := by decide +kernel
theorem dX11_findProof_22 : decode cX11_findProof 22 = .ok (.lstore 7, 2) := by decide +kernel
theorem dX11_findProof_24 : decode cX11_findProof 24 = .ok (.iconst 0, 1) := by decide +kernel
theorem dX11_findProof_25 : decode cX11_findProof 25 = .ok (.istore 9, 2) := by decide +kernel
theorem dX11_findProof_27 : decode cX11_findProof 27 = .ok (.iconst 0, 1) := by decide +kernel
theorem dX11_findProof_28 : decode cX11_findProof 28 = .ok (.istore 10, 2) := by decide +kernel
theorem dX11_findProof_30 : decode cX11_findProof 30 = .ok (.iconst 0, 1) := by decide +kernel
theorem dX11_findProof_31 : decode cX11_findProof 31 = .ok (.istore 11, 2) := by decide +kernel
theorem dX11_findProof_33 : decode cX11_findProof 33 = .ok (.iload 11, 2) := by decide +kernel
theorem dX11_findProof_35 : decode cX11_findProof 35 = .ok (.aload_n 0, 1) := by decide +kernel
theorem dX11_findProof_36 : decode cX11_findProof 36 = .ok (.getfield 302, 3) := by decide +kernel
theorem dX11_findProof_39 : decode cX11_findProof 39 = .ok (.if_icmp .ge 68, 3) := by decide +kernel
theorem dX11_findProof_42 : decode cX11_findProof 42 = .ok (.aload_n 0, 1) := by decide +kernel
theorem dX11_findProof_43 : decode cX11_findProof 43 = .ok (.getfield 114, 3) := by decide +kernel
theorem dX11_findProof_46 : decode cX11_findProof 46 = .ok (.iload 11, 2) := by decide +kernel
theorem dX11_findProof_48 : decode cX11_findProof 48 = .ok (.baload, 1) := by decide +kernel
theorem dX11_findProof_49 : decode cX11_findProof 49 = .ok (.ifCond .eq 52, 3) := by decide +kernel
theorem dX11_findProof_52 : decode cX11_findProof 52 = .ok (.bipush 8, 2) := by decide +kernel
theorem dX11_findProof_54 : decode cX11_findProof 54 = .ok (.aload_n 0, 1) := by decide +kernel
theorem dX11_findProof_55 : decode cX11_findProof 55 = .ok (.iload 11, 2) := by decide +kernel
theorem dX11_findProof_57 : decode cX11_findProof 57 = .ok (.iload_n 1, 1) := by decide +kernel
theorem dX11_findProof_58 : decode cX11_findProof 58 = .ok (.invokevirtual 323, 3) := by decide +kernel
theorem dX11_findProof_61 : decode cX11_findProof 61 = .ok (.imul, 1) := by decide +kernel
theorem dX11_findProof_62 : decode cX11_findProof 62 = .ok (.iload_n 1, 1) := by decide +kernel
theorem dX11_findProof_63 : decode cX11_findProof 63 = .ok (.if_icmp .gt 38, 3) := by decide +kernel
theorem dX11_findProof_66 : decode cX11_findProof 66 = .ok (.iload 9, 2) := by decide +kernel
theorem dX11_findProof_68 : decode cX11_findProof 68 = .ok (.iconst 1, 1) := by decide +kernel
theorem dX11_findProof_69 : decode cX11_findProof 69 = .ok (.aload_n 0, 1) := by decide +kernel
theorem dX11_findProof_70 : decode cX11_findProof 70 = .ok (.iload 11, 2) := by decide +kernel
theorem dX11_findProof_72 : decode cX11_findProof 72 = .ok (.iconst 4, 1) := by decide +kernel
theorem dX11_findProof_73 : decode cX11_findProof 73 = .ok (.invokevirtual 291, 3) := by decide +kernel
theorem dX11_findProof_76 : decode cX11_findProof 76 = .ok (.ishl, 1) := by decide +kernel
theorem dX11_findProof_77 : decode cX11_findProof 77 = .ok (.ior, 1) := by decide +kernel
theorem dX11_findProof_78 : decode cX11_findProof 78 = .ok (.istore 9, 2) := by decide +kernel
theorem dX11_findProof_80 : decode cX11_findProof 80 = .ok (.iload 10, 2) := by decide +kernel
