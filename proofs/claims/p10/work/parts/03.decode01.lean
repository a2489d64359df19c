theorem dX4_init_28 : decode cX4_init 28 = .ok (.newarray .int, 2) := by decide +kernel
theorem dX4_init_30 : decode cX4_init 30 = .ok (.putfield 22, 3) := by decide +kernel
theorem dX4_init_33 : decode cX4_init 33 = .ok (.aload_n 0, 1) := by decide +kernel
theorem dX4_init_34 : decode cX4_init 34 = .ok (.bipush 32, 2) := by decide +kernel
theorem dX4_init_36 : decode cX4_init 36 = .ok (.newarray .int, 2) := by decide +kernel
theorem dX4_init_38 : decode cX4_init 38 = .ok (.putfield 25, 3) := by decide +kernel
theorem dX4_init_41 : decode cX4_init 41 = .ok (.aload_n 0, 1) := by decide +kernel
theorem dX4_init_42 : decode cX4_init 42 = .ok (.bipush 32, 2) := by decide +kernel
theorem dX4_init_44 : decode cX4_init 44 = .ok (.newarray .int, 2) := by decide +kernel
theorem dX4_init_46 : decode cX4_init 46 = .ok (.putfield 28, 3) := by decide +kernel
theorem dX4_init_49 : decode cX4_init 49 = .ok (.aload_n 0, 1) := by decide +kernel
theorem dX4_init_50 : decode cX4_init 50 = .ok (.bipush 8, 2) := by decide +kernel
theorem dX4_init_52 : decode cX4_init 52 = .ok (.newarray .int, 2) := by decide +kernel
theorem dX4_init_54 : decode cX4_init 54 = .ok (.putfield 31, 3) := by decide +kernel
theorem dX4_init_57 : decode cX4_init 57 = .ok (.return_, 1) := by decide +kernel
theorem dX4_gather_0 : decode cX4_gather 0 = .ok (.aload_n 0, 1) := by decide +kernel
theorem dX4_gather_1 : decode cX4_gather 1 = .ok (.iconst 0, 1) := by decide +kernel
theorem dX4_gather_2 : decode cX4_gather 2 = .ok (.putfield 9, 3) := by decide +kernel
theorem dX4_gather_5 : decode cX4_gather 5 = .ok (.iconst 0, 1) := by decide +kernel
theorem dX4_gather_6 : decode cX4_gather 6 = .ok (.istore 4, 2) := by decide +kernel
theorem dX4_gather_8 : decode cX4_gather 8 = .ok (.iload 4, 2) := by decide +kernel
theorem dX4_gather_10 : decode cX4_gather 10 = .ok (.aload_n 1, 1) := by decide +kernel
theorem dX4_gather_11 : decode cX4_gather 11 = .ok (.getfield 34, 3) := by decide +kernel
theorem dX4_gather_14 : decode cX4_gather 14 = .ok (.getfield 40, 3) := by decide +kernel
theorem dX4_gather_17 : decode cX4_gather 17 = .ok (.if_icmp .ge 27, 3) := by decide +kernel
theorem dX4_gather_20 : decode cX4_gather 20 = .ok (.aload_n 1, 1) := by decide +kernel
theorem dX4_gather_21 : decode cX4_gather 21 = .ok (.iload 4, 2) := by decide +kernel
theorem dX4_gather_23 : decode cX4_gather 23 = .ok (.iload_n 2, 1) := by decide +kernel
theorem dX4_gather_24 : decode cX4_gather 24 = .ok (.iload_n 3, 1) := by decide +kernel
theorem dX4_gather_25 : decode cX4_gather 25 = .ok (.invokestatic 45, 3) := by decide +kernel
theorem dX4_gather_28 : decode cX4_gather 28 = .ok (.ifCond .eq 10, 3) := by decide +kernel
theorem dX4_gather_31 : decode cX4_gather 31 = .ok (.aload_n 0, 1) := by decide +kernel
theorem dX4_gather_32 : decode cX4_gather 32 = .ok (.aload_n 1, 1) := by decide +kernel
theorem dX4_gather_33 : decode cX4_gather 33 = .ok (.iload 4, 2) := by decide +kernel
theorem dX4_gather_35 : decode cX4_gather 35 = .ok (.invokevirtual 49, 3) := by decide +kernel
theorem dX4_gather_38 : decode cX4_gather 38 = .ok (.iinc 4 1, 3) := by decide +kernel
theorem dX4_gather_41 : decode cX4_gather 41 = .ok (.goto (-33), 3) := by decide +kernel
theorem dX4_gather_44 : decode cX4_gather 44 = .ok (.aload_n 0, 1) := by decide +kernel
theorem dX4_gather_45 : decode cX4_gather 45 = .ok (.getfield 9, 3) := by decide +kernel
theorem dX4_gather_48 : decode cX4_gather 48 = .ok (.ireturn, 1) := by decide +kernel
theorem dX4_takeAlone_0 : decode cX4_takeAlone 0 = .ok (.aload_n 0, 1) := by decide +kernel
theorem dX4_takeAlone_1 : decode cX4_takeAlone 1 = .ok (.iconst 0, 1) := by decide +kernel
theorem dX4_takeAlone_2 : decode cX4_takeAlone 2 = .ok (.putfield 9, 3) := by decide +kernel
theorem dX4_takeAlone_5 : decode cX4_takeAlone 5 = .ok (.iload_n 2, 1) := by decide +kernel
theorem dX4_takeAlone_6 : decode cX4_takeAlone 6 = .ok (.ifCond .lt 14, 3) := by decide +kernel
theorem dX4_takeAlone_9 : decode cX4_takeAlone 9 = .ok (.iload_n 2, 1) := by decide +kernel
theorem dX4_takeAlone_10 : decode cX4_takeAlone 10 = .ok (.aload_n 1, 1) := by decide +kernel
theorem dX4_takeAlone_11 : decode cX4_takeAlone 11 = .ok (.getfield 34, 3) := by decide +kernel
theorem dX4_takeAlone_14 : decode cX4_takeAlone 14 = .ok (.getfield 40, 3) := by decide +kernel
theorem dX4_takeAlone_17 : decode cX4_takeAlone 17 = .ok (.if_icmp .lt 5, 3) := by decide +kernel
theorem dX4_takeAlone_20 : decode cX4_takeAlone 20 = .ok (.iconst 0, 1) := by decide +kernel
theorem dX4_takeAlone_21 : decode cX4_takeAlone 21 = .ok (.ireturn, 1) := by decide +kernel
theorem dX4_takeAlone_22 : decode cX4_takeAlone 22 = .ok (.aload_n 0, 1) := by decide +kernel
theorem dX4_takeAlone_23 : decode cX4_takeAlone 23 = .ok (.aload_n 1, 1) := by decide +kernel
theorem dX4_takeAlone_24 : decode cX4_takeAlone 24 = .ok (.iload_n 2, 1) := by decide +kernel
theorem dX4_takeAlone_25 : decode cX4_takeAlone 25 = .ok (.invokevirtual 49, 3) := by decide +kernel
theorem dX4_takeAlone_28 : decode cX4_takeAlone 28 = .ok (.iconst 1, 1) := by decide +kernel
theorem dX4_takeAlone_29 : decode cX4_takeAlone 29 = .ok (.ireturn, 1) := by decide +kernel
theorem dX4_numberOf_0 : decode cX4_numberOf 0 = .ok (.aload_n 0, 1) := by decide +kernel
theorem dX4_numberOf_1 : decode cX4_numberOf 1 = .ok (.iload_n 1, 1) := by decide +kernel
theorem dX4_numberOf_2 : decode cX4_numberOf 2 = .ok (.invokevirtual 53, 3) := by decide +kernel
theorem dX4_numberOf_5 : decode cX4_numberOf 5 = .ok (.ifCond .eq 12, 3) := by decide +kernel
theorem dX4_numberOf_8 : decode cX4_numberOf 8 = .ok (.aload_n 0, 1) := by decide +kernel
theorem dX4_numberOf_9 : decode cX4_numberOf 9 = .ok (.getfield 22, 3) := by decide +kernel
theorem dX4_numberOf_12 : decode cX4_numberOf 12 = .ok (.iload_n 1, 1) := by decide +kernel
theorem dX4_numberOf_13 : decode cX4_numberOf 13 = .ok (.iaload, 1) := by decide +kernel
theorem dX4_numberOf_14 : decode cX4_numberOf 14 = .ok (.goto 4, 3) := by decide +kernel
theorem dX4_numberOf_17 : decode cX4_numberOf 17 = .ok (.iconst (-1), 1) := by decide +kernel
theorem dX4_numberOf_18 : decode cX4_numberOf 18 = .ok (.ireturn, 1) := by decide +kernel
theorem dX4_indexOf_0 : decode cX4_indexOf 0 = .ok (.iconst 0, 1) := by decide +kernel
theorem dX4_indexOf_1 : decode cX4_indexOf 1 = .ok (.istore_n 2, 1) := by decide +kernel
theorem dX4_indexOf_2 : decode cX4_indexOf 2 = .ok (.iload_n 2, 1) := by decide +kernel
theorem dX4_indexOf_3 : decode cX4_indexOf 3 = .ok (.aload_n 0, 1) := by decide +kernel
theorem dX4_indexOf_4 : decode cX4_indexOf 4 = .ok (.getfield 9, 3) := by decide +kernel
theorem dX4_indexOf_7 : decode cX4_indexOf 7 = .ok (.if_icmp .ge 20, 3) := by decide +kernel
theorem dX4_indexOf_10 : decode cX4_indexOf 10 = .ok (.aload_n 0, 1) := by decide +kernel
theorem dX4_indexOf_11 : decode cX4_indexOf 11 = .ok (.iload_n 2, 1) := by decide +kernel
theorem dX4_indexOf_12 : decode cX4_indexOf 12 = .ok (.invokevirtual 57, 3) := by decide +kernel
theorem dX4_indexOf_15 : decode cX4_indexOf 15 = .ok (.iload_n 1, 1) := by decide +kernel
theorem dX4_indexOf_16 : decode cX4_indexOf 16 = .ok (.if_icmp .ne 5, 3) := by decide +kernel
theorem dX4_indexOf_19 : decode cX4_indexOf 19 = .ok (.iload_n 2, 1) := by decide +kernel
theorem dX4_indexOf_20 : decode cX4_indexOf 20 = .ok (.ireturn, 1) := by decide +kernel
theorem dX4_indexOf_21 : decode cX4_indexOf 21 = .ok (.iinc 2 1, 3) := by decide +kernel
theorem dX4_indexOf_24 : decode cX4_indexOf 24 = .ok (.goto (-22), 3) := by decide +kernel
theorem dX4_indexOf_27 : decode cX4_indexOf 27 = .ok (.iconst (-1), 1) := by decide +kernel
theorem dX4_indexOf_28 : decode cX4_indexOf 28 = .ok (.ireturn, 1) := by decide +kernel
theorem dX4_markOf_0 : decode cX4_markOf 0 = .ok (.aload_n 0, 1) := by decide +kernel
theorem dX4_markOf_1 : decode cX4_markOf 1 = .ok (.iload_n 1, 1) := by decide +kernel
theorem dX4_markOf_2 : decode cX4_markOf 2 = .ok (.invokevirtual 53, 3) := by decide +kernel
theorem dX4_markOf_5 : decode cX4_markOf 5 = .ok (.ifCond .eq 12, 3) := by decide +kernel
theorem dX4_markOf_8 : decode cX4_markOf 8 = .ok (.aload_n 0, 1) := by decide +kernel
theorem dX4_markOf_9 : decode cX4_markOf 9 = .ok (.getfield 25, 3) := by decide +kernel
theorem dX4_markOf_12 : decode cX4_markOf 12 = .ok (.iload_n 1, 1) := by decide +kernel
theorem dX4_markOf_13 : decode cX4_markOf 13 = .ok (.iaload, 1) := by decide +kernel
theorem dX4_markOf_14 : decode cX4_markOf 14 = .ok (.goto 4, 3) := by decide +kernel
theorem dX4_markOf_17 : decode cX4_markOf 17 = .ok (.iconst 0, 1) := by decide +kernel
theorem dX4_markOf_18 : decode cX4_markOf 18 = .ok (.ireturn, 1) := by decide +kernel
theorem dX4_townOf_0 : decode cX4_townOf 0 = .ok (.aload_n 0, 1) := by decide +kernel
theorem dX4_townOf_1 : decode cX4_townOf 1 = .ok (.iload_n 1, 1) := by decide +kernel
theorem dX4_townOf_2 : decode cX4_townOf 2 = .ok (.invokevirtual 53, 3) := by decide +kernel
theorem dX4_townOf_5 : decode cX4_townOf 5 = .ok (.ifCond .eq 12, 3) := by decide +kernel
theorem dX4_townOf_8 : decode cX4_townOf 8 = .ok (.aload_n 0, 1) := by decide +kernel
theorem dX4_townOf_9 : decode cX4_townOf 9 = .ok (.getfield 28, 3) := by decide +kernel
theorem dX4_townOf_12 : decode cX4_townOf 12 = .ok (.iload_n 1, 1) := by decide +kernel
theorem dX4_townOf_13 : decode cX4_townOf 13 = .ok (.iaload, 1) := by decide +kernel
theorem dX4_townOf_14 : decode cX4_townOf 14 = .ok (.goto 4, 3) := by decide +kernel
theorem dX4_townOf_17 : decode cX4_townOf 17 = .ok (.iconst 0, 1) := by decide +kernel
theorem dX4_townOf_18 : decode cX4_townOf 18 = .ok (.ireturn, 1) := by decide +kernel
theorem dX4_offOf_0 : decode cX4_offOf 0 = .ok (.aload_n 0, 1) := by decide +kernel
theorem dX4_offOf_1 : decode cX4_offOf 1 = .ok (.iload_n 1, 1) := by decide +kernel
theorem dX4_offOf_2 : decode cX4_offOf 2 = .ok (.invokevirtual 53, 3) := by decide +kernel
theorem dX4_offOf_5 : decode cX4_offOf 5 = .ok (.ifCond .eq 28, 3) := by decide +kernel
theorem dX4_offOf_8 : decode cX4_offOf 8 = .ok (.aload_n 0, 1) := by decide +kernel
theorem dX4_offOf_9 : decode cX4_offOf 9 = .ok (.getfield 15, 3) := by decide +kernel
theorem dX4_offOf_12 : decode cX4_offOf 12 = .ok (.iload_n 1, 1) := by decide +kernel
theorem dX4_offOf_13 : decode cX4_offOf 13 = .ok (.iaload, 1) := by decide +kernel
theorem dX4_offOf_14 : decode cX4_offOf 14 = .ok (.aload_n 0, 1) := by decide +kernel
theorem dX4_offOf_15 : decode cX4_offOf 15 = .ok (.getfield 19, 3) := by decide +kernel
theorem dX4_offOf_18 : decode cX4_offOf 18 = .ok (.iload_n 1, 1) := by decide +kernel
theorem dX4_offOf_19 : decode cX4_offOf 19 = .ok (.iaload, 1) := by decide +kernel
theorem dX4_offOf_20 : decode cX4_offOf 20 = .ok (.aload_n 0, 1) := by decide +kernel
theorem dX4_offOf_21 : decode cX4_offOf 21 = .ok (.getfield 25, 3) := by decide +kernel
theorem dX4_offOf_24 : decode cX4_offOf 24 = .ok (.iload_n 1, 1) := by decide +kernel
theorem dX4_offOf_25 : decode cX4_offOf 25 = .ok (.iaload, 1) := by decide +kernel
theorem dX4_offOf_26 : decode cX4_offOf 26 = .ok (.iload_n 2, 1) := by decide +kernel
theorem dX4_offOf_27 : decode cX4_offOf 27 = .ok (.invokestatic 61, 3) := by decide +kernel
theorem dX4_offOf_30 : decode cX4_offOf 30 = .ok (.goto 4, 3) := by decide +kernel
theorem dX4_offOf_33 : decode cX4_offOf 33 = .ok (.iconst 0, 1) := by decide +kernel
theorem dX4_offOf_34 : decode cX4_offOf 34 = .ok (.ireturn, 1) := by decide +kernel
theorem dX4_offIf_0 : decode cX4_offIf 0 = .ok (.aload_n 0, 1) := by decide +kernel
theorem dX4_offIf_1 : decode cX4_offIf 1 = .ok (.iload_n 1, 1) := by decide +kernel
theorem dX4_offIf_2 : decode cX4_offIf 2 = .ok (.invokevirtual 53, 3) := by decide +kernel
theorem dX4_offIf_5 : decode cX4_offIf 5 = .ok (.ifCond .eq 18, 3) := by decide +kernel
theorem dX4_offIf_8 : decode cX4_offIf 8 = .ok (.iload_n 2, 1) := by decide +kernel
theorem dX4_offIf_9 : decode cX4_offIf 9 = .ok (.iload_n 2, 1) := by decide +kernel
theorem dX4_offIf_10 : decode cX4_offIf 10 = .ok (.aload_n 0, 1) := by decide +kernel
theorem dX4_offIf_11 : decode cX4_offIf 11 = .ok (.getfield 25, 3) := by decide +kernel
theorem dX4_offIf_14 : decode cX4_offIf 14 = .ok (.iload_n 1, 1) := by decide +kernel
theorem dX4_offIf_15 : decode cX4_offIf 15 = .ok (.iaload, 1) := by decide +kernel
theorem dX4_offIf_16 : decode cX4_offIf 16 = .ok (.iload_n 3, 1) := by decide +kernel
theorem dX4_offIf_17 : decode cX4_offIf 17 = .ok (.invokestatic 61, 3) := by decide +kernel
theorem dX4_offIf_20 : decode cX4_offIf 20 = .ok (.goto 4, 3) := by decide +kernel
theorem dX4_offIf_23 : decode cX4_offIf 23 = .ok (.iconst 0, 1) := by decide +kernel
theorem dX4_offIf_24 : decode cX4_offIf 24 = .ok (.ireturn, 1) := by decide +kernel
theorem dX4_isNear_0 : decode cX4_isNear 0 = .ok (.bipush 8, 2) := by decide +kernel
theorem dX4_isNear_2 : decode cX4_isNear 2 = .ok (.aload_n 0, 1) := by decide +kernel
theorem dX4_isNear_3 : decode cX4_isNear 3 = .ok (.iload_n 1, 1) := by decide +kernel
theorem dX4_isNear_4 : decode cX4_isNear 4 = .ok (.iload_n 2, 1) := by decide +kernel
theorem dX4_isNear_5 : decode cX4_isNear 5 = .ok (.invokevirtual 67, 3) := by decide +kernel
theorem dX4_isNear_8 : decode cX4_isNear 8 = .ok (.imul, 1) := by decide +kernel
theorem dX4_isNear_9 : decode cX4_isNear 9 = .ok (.iload_n 2, 1) := by decide +kernel
theorem dX4_isNear_10 : decode cX4_isNear 10 = .ok (.if_icmp .gt 7, 3) := by decide +kernel
theorem dX4_isNear_13 : decode cX4_isNear 13 = .ok (.iconst 1, 1) := by decide +kernel
theorem dX4_isNear_14 : decode cX4_isNear 14 = .ok (.goto 4, 3) := by decide +kernel
theorem dX4_isNear_17 : decode cX4_isNear 17 = .ok (.iconst 0, 1) := by decide +kernel
theorem dX4_isNear_18 : decode cX4_isNear 18 = .ok (.ireturn, 1) := by decide +kernel
theorem dX4_timesOf_0 : decode cX4_timesOf 0 = .ok (.aload_n 0, 1) := by decide +kernel
theorem dX4_timesOf_1 : decode cX4_timesOf 1 = .ok (.iload_n 1, 1) := by decide +kernel
theorem dX4_timesOf_2 : decode cX4_timesOf 2 = .ok (.invokevirtual 53, 3) := by decide +kernel
theorem dX4_timesOf_5 : decode cX4_timesOf 5 = .ok (.ifCond .eq 28, 3) := by decide +kernel
theorem dX4_timesOf_8 : decode cX4_timesOf 8 = .ok (.aload_n 0, 1) := by decide +kernel
theorem dX4_timesOf_9 : decode cX4_timesOf 9 = .ok (.getfield 15, 3) := by decide +kernel
theorem dX4_timesOf_12 : decode cX4_timesOf 12 = .ok (.iload_n 1, 1) := by decide +kernel
theorem dX4_timesOf_13 : decode cX4_timesOf 13 = .ok (.iaload, 1) := by decide +kernel
theorem dX4_timesOf_14 : decode cX4_timesOf 14 = .ok (.aload_n 0, 1) := by decide +kernel
theorem dX4_timesOf_15 : decode cX4_timesOf 15 = .ok (.getfield 19, 3) := by decide +kernel
theorem dX4_timesOf_18 : decode cX4_timesOf 18 = .ok (.iload_n 1, 1) := by decide +kernel
theorem dX4_timesOf_19 : decode cX4_timesOf 19 = .ok (.iaload, 1) := by decide +kernel
theorem dX4_timesOf_20 : decode cX4_timesOf 20 = .ok (.aload_n 0, 1) := by decide +kernel
theorem dX4_timesOf_21 : decode cX4_timesOf 21 = .ok (.getfield 25, 3) := by decide +kernel
theorem dX4_timesOf_24 : decode cX4_timesOf 24 = .ok (.iload_n 1, 1) := by decide +kernel
theorem dX4_timesOf_25 : decode cX4_timesOf 25 = .ok (.iaload, 1) := by decide +kernel
theorem dX4_timesOf_26 : decode cX4_timesOf 26 = .ok (.iload_n 2, 1) := by decide +kernel
theorem dX4_timesOf_27 : decode cX4_timesOf 27 = .ok (.invokestatic 71, 3) := by decide +kernel
theorem dX4_timesOf_30 : decode cX4_timesOf 30 = .ok (.goto 4, 3) := by decide +kernel
theorem dX4_timesOf_33 : decode cX4_timesOf 33 = .ok (.iconst 0, 1) := by decide +kernel
theorem dX4_timesOf_34 : decode cX4_timesOf 34 = .ok (.ireturn, 1) := by decide +kernel
theorem dX4_shortOf_0 : decode cX4_shortOf 0 = .ok (.aload_n 0, 1) := by decide +kernel
theorem dX4_shortOf_1 : decode cX4_shortOf 1 = .ok (.iload_n 1, 1) := by decide +kernel
theorem dX4_shortOf_2 : decode cX4_shortOf 2 = .ok (.invokevirtual 53, 3) := by decide +kernel
theorem dX4_shortOf_5 : decode cX4_shortOf 5 = .ok (.ifCond .eq 22, 3) := by decide +kernel
theorem dX4_shortOf_8 : decode cX4_shortOf 8 = .ok (.aload_n 0, 1) := by decide +kernel
theorem dX4_shortOf_9 : decode cX4_shortOf 9 = .ok (.getfield 19, 3) := by decide +kernel
theorem dX4_shortOf_12 : decode cX4_shortOf 12 = .ok (.iload_n 1, 1) := by decide +kernel
theorem dX4_shortOf_13 : decode cX4_shortOf 13 = .ok (.iaload, 1) := by decide +kernel
theorem dX4_shortOf_14 : decode cX4_shortOf 14 = .ok (.aload_n 0, 1) := by decide +kernel
theorem dX4_shortOf_15 : decode cX4_shortOf 15 = .ok (.getfield 25, 3) := by decide +kernel
theorem dX4_shortOf_18 : decode cX4_shortOf 18 = .ok (.iload_n 1, 1) := by decide +kernel
theorem dX4_shortOf_19 : decode cX4_shortOf 19 = .ok (.iaload, 1) := by decide +kernel
theorem dX4_shortOf_20 : decode cX4_shortOf 20 = .ok (.iload_n 2, 1) := by decide +kernel
theorem dX4_shortOf_21 : decode cX4_shortOf 21 = .ok (.invokestatic 74, 3) := by decide +kernel
theorem dX4_shortOf_24 : decode cX4_shortOf 24 = .ok (.goto 4, 3) := by decide +kernel
theorem dX4_shortOf_27 : decode cX4_shortOf 27 = .ok (.iconst 0, 1) := by decide +kernel
theorem dX4_shortOf_28 : decode cX4_shortOf 28 = .ok (.ireturn, 1) := by decide +kernel
theorem dX4_luckyOf_0 : decode cX4_luckyOf 0 = .ok (.aload_n 0, 1) := by decide +kernel
theorem dX4_luckyOf_1 : decode cX4_luckyOf 1 = .ok (.iload_n 1, 1) := by decide +kernel
theorem dX4_luckyOf_2 : decode cX4_luckyOf 2 = .ok (.invokevirtual 53, 3) := by decide +kernel
theorem dX4_luckyOf_5 : decode cX4_luckyOf 5 = .ok (.ifCond .eq 23, 3) := by decide +kernel
theorem dX4_luckyOf_8 : decode cX4_luckyOf 8 = .ok (.aload_n 0, 1) := by decide +kernel
theorem dX4_luckyOf_9 : decode cX4_luckyOf 9 = .ok (.getfield 19, 3) := by decide +kernel
theorem dX4_luckyOf_12 : decode cX4_luckyOf 12 = .ok (.iload_n 1, 1) := by decide +kernel
theorem dX4_luckyOf_13 : decode cX4_luckyOf 13 = .ok (.iaload, 1) := by decide +kernel
theorem dX4_luckyOf_14 : decode cX4_luckyOf 14 = .ok (.aload_n 0, 1) := by decide +kernel
theorem dX4_luckyOf_15 : decode cX4_luckyOf 15 = .ok (.getfield 15, 3) := by decide +kernel
theorem dX4_luckyOf_18 : decode cX4_luckyOf 18 = .ok (.iload_n 1, 1) := by decide +kernel
theorem dX4_luckyOf_19 : decode cX4_luckyOf 19 = .ok (.iaload, 1) := by decide +kernel
theorem dX4_luckyOf_20 : decode cX4_luckyOf 20 = .ok (.isub, 1) := by decide +kernel
theorem dX4_luckyOf_21 : decode cX4_luckyOf 21 = .ok (.iload_n 2, 1) := by decide +kernel
theorem dX4_luckyOf_22 : decode cX4_luckyOf 22 = .ok (.invokestatic 78, 3) := by decide +kernel
theorem dX4_luckyOf_25 : decode cX4_luckyOf 25 = .ok (.goto 4, 3) := by decide +kernel
theorem dX4_luckyOf_28 : decode cX4_luckyOf 28 = .ok (.iconst 0, 1) := by decide +kernel
theorem dX4_luckyOf_29 : decode cX4_luckyOf 29 = .ok (.ireturn, 1) := by decide +kernel
theorem dX4_scoreBy_0 : decode cX4_scoreBy 0 = .ok (.iconst 0, 1) := by decide +kernel
theorem dX4_scoreBy_1 : decode cX4_scoreBy 1 = .ok (.istore_n 2, 1) := by decide +kernel
theorem dX4_scoreBy_2 : decode cX4_scoreBy 2 = .ok (.iconst 0, 1) := by decide +kernel
theorem dX4_scoreBy_3 : decode cX4_scoreBy 3 = .ok (.istore_n 3, 1) := by decide +kernel
theorem dX4_scoreBy_4 : decode cX4_scoreBy 4 = .ok (.iload_n 3, 1) := by decide +kernel
theorem dX4_scoreBy_5 : decode cX4_scoreBy 5 = .ok (.aload_n 0, 1) := by decide +kernel
theorem dX4_scoreBy_6 : decode cX4_scoreBy 6 = .ok (.getfield 9, 3) := by decide +kernel
theorem dX4_scoreBy_9 : decode cX4_scoreBy 9 = .ok (.if_icmp .ge 18, 3) := by decide +kernel
theorem dX4_scoreBy_12 : decode cX4_scoreBy 12 = .ok (.iload_n 2, 1) := by decide +kernel
theorem dX4_scoreBy_13 : decode cX4_scoreBy 13 = .ok (.aload_n 0, 1) := by decide +kernel
theorem dX4_scoreBy_14 : decode cX4_scoreBy 14 = .ok (.iload_n 3, 1) := by decide +kernel
theorem dX4_scoreBy_15 : decode cX4_scoreBy 15 = .ok (.iload_n 1, 1) := by decide +kernel
theorem dX4_scoreBy_16 : decode cX4_scoreBy 16 = .ok (.invokevirtual 67, 3) := by decide +kernel
theorem dX4_scoreBy_19 : decode cX4_scoreBy 19 = .ok (.iadd, 1) := by decide +kernel
theorem dX4_scoreBy_20 : decode cX4_scoreBy 20 = .ok (.istore_n 2, 1) := by decide +kernel
theorem dX4_scoreBy_21 : decode cX4_scoreBy 21 = .ok (.iinc 3 1, 3) := by decide +kernel
theorem dX4_scoreBy_24 : decode cX4_scoreBy 24 = .ok (.goto (-20), 3) := by decide +kernel
theorem dX4_scoreBy_27 : decode cX4_scoreBy 27 = .ok (.iload_n 1, 1) := by decide +kernel
theorem dX4_scoreBy_28 : decode cX4_scoreBy 28 = .ok (.aload_n 0, 1) := by decide +kernel
theorem dX4_scoreBy_29 : decode cX4_scoreBy 29 = .ok (.getfield 9, 3) := by decide +kernel
theorem dX4_scoreBy_32 : decode cX4_scoreBy 32 = .ok (.imul, 1) := by decide +kernel
theorem dX4_scoreBy_33 : decode cX4_scoreBy 33 = .ok (.iconst 4, 1) := by decide +kernel
theorem dX4_scoreBy_34 : decode cX4_scoreBy 34 = .ok (.iload_n 2, 1) := by decide +kernel
theorem dX4_scoreBy_35 : decode cX4_scoreBy 35 = .ok (.imul, 1) := by decide +kernel
theorem dX4_scoreBy_36 : decode cX4_scoreBy 36 = .ok (.isub, 1) := by decide +kernel
theorem dX4_scoreBy_37 : decode cX4_scoreBy 37 = .ok (.ireturn, 1) := by decide +kernel
theorem dX4_nearBy_0 : decode cX4_nearBy 0 = .ok (.iconst 0, 1) := by decide +kernel
theorem dX4_nearBy_1 : decode cX4_nearBy 1 = .ok (.istore_n 2, 1) := by decide +kernel
theorem dX4_nearBy_2 : decode cX4_nearBy 2 = .ok (.iconst 0, 1) := by decide +kernel
theorem dX4_nearBy_3 : decode cX4_nearBy 3 = .ok (.istore_n 3, 1) := by decide +kernel
theorem dX4_nearBy_4 : decode cX4_nearBy 4 = .ok (.iload_n 3, 1) := by decide +kernel
theorem dX4_nearBy_5 : decode cX4_nearBy 5 = .ok (.aload_n 0, 1) := by decide +kernel
theorem dX4_nearBy_6 : decode cX4_nearBy 6 = .ok (.getfield 9, 3) := by decide +kernel
theorem dX4_nearBy_9 : decode cX4_nearBy 9 = .ok (.if_icmp .ge 26, 3) := by decide +kernel
theorem dX4_nearBy_12 : decode cX4_nearBy 12 = .ok (.iload_n 2, 1) := by decide +kernel
theorem dX4_nearBy_13 : decode cX4_nearBy 13 = .ok (.aload_n 0, 1) := by decide +kernel
theorem dX4_nearBy_14 : decode cX4_nearBy 14 = .ok (.iload_n 3, 1) := by decide +kernel
theorem dX4_nearBy_15 : decode cX4_nearBy 15 = .ok (.iload_n 1, 1) := by decide +kernel
theorem dX4_nearBy_16 : decode cX4_nearBy 16 = .ok (.invokevirtual 81, 3) := by decide +kernel
theorem dX4_nearBy_19 : decode cX4_nearBy 19 = .ok (.ifCond .eq 7, 3) := by decide +kernel
theorem dX4_nearBy_22 : decode cX4_nearBy 22 = .ok (.iconst 1, 1) := by decide +kernel
theorem dX4_nearBy_23 : decode cX4_nearBy 23 = .ok (.goto 4, 3) := by decide +kernel
theorem dX4_nearBy_26 : decode cX4_nearBy 26 = .ok (.iconst 0, 1) := by decide +kernel
theorem dX4_nearBy_27 : decode cX4_nearBy 27 = .ok (.iadd, 1) := by decide +kernel
theorem dX4_nearBy_28 : decode cX4_nearBy 28 = .ok (.istore_n 2, 1) := by decide +kernel
theorem dX4_nearBy_29 : decode cX4_nearBy 29 = .ok (.iinc 3 1, 3) := by decide +kernel
theorem dX4_nearBy_32 : decode cX4_nearBy 32 = .ok (.goto (-28), 3) := by decide +kernel
theorem dX4_nearBy_35 : decode cX4_nearBy 35 = .ok (.iload_n 2, 1) := by decide +kernel
theorem dX4_nearBy_36 : decode cX4_nearBy 36 = .ok (.ireturn, 1) := by decide +kernel
theorem dX4_townsNear_0 : decode cX4_townsNear 0 = .ok (.iconst 0, 1) := by decide +kernel
theorem dX4_townsNear_1 : decode cX4_townsNear 1 = .ok (.istore_n 2, 1) := by decide +kernel
theorem dX4_townsNear_2 : decode cX4_townsNear 2 = .ok (.iconst 0, 1) := by decide +kernel
theorem dX4_townsNear_3 : decode cX4_townsNear 3 = .ok (.istore_n 3, 1) := by decide +kernel
theorem dX4_townsNear_4 : decode cX4_townsNear 4 = .ok (.iload_n 3, 1) := by decide +kernel
theorem dX4_townsNear_5 : decode cX4_townsNear 5 = .ok (.aload_n 0, 1) := by decide +kernel
theorem dX4_townsNear_6 : decode cX4_townsNear 6 = .ok (.getfield 9, 3) := by decide +kernel
theorem dX4_townsNear_9 : decode cX4_townsNear 9 = .ok (.if_icmp .ge 32, 3) := by decide +kernel
theorem dX4_townsNear_12 : decode cX4_townsNear 12 = .ok (.iload_n 2, 1) := by decide +kernel
theorem dX4_townsNear_13 : decode cX4_townsNear 13 = .ok (.aload_n 0, 1) := by decide +kernel
theorem dX4_townsNear_14 : decode cX4_townsNear 14 = .ok (.iload_n 3, 1) := by decide +kernel
theorem dX4_townsNear_15 : decode cX4_townsNear 15 = .ok (.iload_n 1, 1) := by decide +kernel
theorem dX4_townsNear_16 : decode cX4_townsNear 16 = .ok (.invokevirtual 81, 3) := by decide +kernel
theorem dX4_townsNear_19 : decode cX4_townsNear 19 = .ok (.ifCond .eq 13, 3) := by decide +kernel
theorem dX4_townsNear_22 : decode cX4_townsNear 22 = .ok (.iconst 1, 1) := by decide +kernel
theorem dX4_townsNear_23 : decode cX4_townsNear 23 = .ok (.aload_n 0, 1) := by decide +kernel
theorem dX4_townsNear_24 : decode cX4_townsNear 24 = .ok (.iload_n 3, 1) := by decide +kernel
theorem dX4_townsNear_25 : decode cX4_townsNear 25 = .ok (.invokevirtual 85, 3) := by decide +kernel
theorem dX4_townsNear_28 : decode cX4_townsNear 28 = .ok (.ishl, 1) := by decide +kernel
theorem dX4_townsNear_29 : decode cX4_townsNear 29 = .ok (.goto 4, 3) := by decide +kernel
theorem dX4_townsNear_32 : decode cX4_townsNear 32 = .ok (.iconst 0, 1) := by decide +kernel
theorem dX4_townsNear_33 : decode cX4_townsNear 33 = .ok (.ior, 1) := by decide +kernel
theorem dX4_townsNear_34 : decode cX4_townsNear 34 = .ok (.istore_n 2, 1) := by decide +kernel
theorem dX4_townsNear_35 : decode cX4_townsNear 35 = .ok (.iinc 3 1, 3) := by decide +kernel
theorem dX4_townsNear_38 : decode cX4_townsNear 38 = .ok (.goto (-34), 3) := by decide +kernel
theorem dX4_townsNear_41 : decode cX4_townsNear 41 = .ok (.iload_n 2, 1) := by decide +kernel
theorem dX4_townsNear_42 : decode cX4_townsNear 42 = .ok (.invokestatic 88, 3) := by decide +kernel
theorem dX4_townsNear_45 : decode cX4_townsNear 45 = .ok (.ireturn, 1) := by decide +kernel
theorem dX4_marksNear_0 : decode cX4_marksNear 0 = .ok (.iconst 0, 1) := by decide +kernel
theorem dX4_marksNear_1 : decode cX4_marksNear 1 = .ok (.istore_n 2, 1) := by decide +kernel
theorem dX4_marksNear_2 : decode cX4_marksNear 2 = .ok (.iconst 0, 1) := by decide +kernel
theorem dX4_marksNear_3 : decode cX4_marksNear 3 = .ok (.istore_n 3, 1) := by decide +kernel
theorem dX4_marksNear_4 : decode cX4_marksNear 4 = .ok (.iload_n 3, 1) := by decide +kernel
theorem dX4_marksNear_5 : decode cX4_marksNear 5 = .ok (.aload_n 0, 1) := by decide +kernel
theorem dX4_marksNear_6 : decode cX4_marksNear 6 = .ok (.getfield 9, 3) := by decide +kernel
theorem dX4_marksNear_9 : decode cX4_marksNear 9 = .ok (.if_icmp .ge 34, 3) := by decide +kernel
theorem dX4_marksNear_12 : decode cX4_marksNear 12 = .ok (.iload_n 2, 1) := by decide +kernel
theorem dX4_marksNear_13 : decode cX4_marksNear 13 = .ok (.aload_n 0, 1) := by decide +kernel
theorem dX4_marksNear_14 : decode cX4_marksNear 14 = .ok (.iload_n 3, 1) := by decide +kernel
theorem dX4_marksNear_15 : decode cX4_marksNear 15 = .ok (.invokevirtual 93, 3) := by decide +kernel
theorem dX4_marksNear_18 : decode cX4_marksNear 18 = .ok (.ifCond .le 16, 3) := by decide +kernel
theorem dX4_marksNear_21 : decode cX4_marksNear 21 = .ok (.aload_n 0, 1) := by decide +kernel
theorem dX4_marksNear_22 : decode cX4_marksNear 22 = .ok (.iload_n 3, 1) := by decide +kernel
theorem dX4_marksNear_23 : decode cX4_marksNear 23 = .ok (.iload_n 1, 1) := by decide +kernel
theorem dX4_marksNear_24 : decode cX4_marksNear 24 = .ok (.invokevirtual 81, 3) := by decide +kernel
theorem dX4_marksNear_27 : decode cX4_marksNear 27 = .ok (.ifCond .eq 7, 3) := by decide +kernel
theorem dX4_marksNear_30 : decode cX4_marksNear 30 = .ok (.iconst 1, 1) := by decide +kernel
theorem dX4_marksNear_31 : decode cX4_marksNear 31 = .ok (.goto 4, 3) := by decide +kernel
theorem dX4_marksNear_34 : decode cX4_marksNear 34 = .ok (.iconst 0, 1) := by decide +kernel
theorem dX4_marksNear_35 : decode cX4_marksNear 35 = .ok (.iadd, 1) := by decide +kernel
theorem dX4_marksNear_36 : decode cX4_marksNear 36 = .ok (.istore_n 2, 1) := by decide +kernel
theorem dX4_marksNear_37 : decode cX4_marksNear 37 = .ok (.iinc 3 1, 3) := by decide +kernel
theorem dX4_marksNear_40 : decode cX4_marksNear 40 = .ok (.goto (-36), 3) := by decide +kernel
theorem dX4_marksNear_43 : decode cX4_marksNear 43 = .ok (.iload_n 2, 1) := by decide +kernel
theorem dX4_marksNear_44 : decode cX4_marksNear 44 = .ok (.ireturn, 1) := by decide +kernel
theorem dX4_shortsBy_0 : decode cX4_shortsBy 0 = .ok (.iconst 0, 1) := by decide +kernel
theorem dX4_shortsBy_1 : decode cX4_shortsBy 1 = .ok (.istore_n 2, 1) := by decide +kernel
theorem dX4_shortsBy_2 : decode cX4_shortsBy 2 = .ok (.iconst 0, 1) := by decide +kernel
theorem dX4_shortsBy_3 : decode cX4_shortsBy 3 = .ok (.istore_n 3, 1) := by decide +kernel
theorem dX4_shortsBy_4 : decode cX4_shortsBy 4 = .ok (.iload_n 3, 1) := by decide +kernel
theorem dX4_shortsBy_5 : decode cX4_shortsBy 5 = .ok (.aload_n 0, 1) := by decide +kernel
theorem dX4_shortsBy_6 : decode cX4_shortsBy 6 = .ok (.getfield 9, 3) := by decide +kernel
theorem dX4_shortsBy_9 : decode cX4_shortsBy 9 = .ok (.if_icmp .ge 30, 3) := by decide +kernel
theorem dX4_shortsBy_12 : decode cX4_shortsBy 12 = .ok (.iload_n 2, 1) := by decide +kernel
theorem dX4_shortsBy_13 : decode cX4_shortsBy 13 = .ok (.bipush 100, 2) := by decide +kernel
theorem dX4_shortsBy_15 : decode cX4_shortsBy 15 = .ok (.aload_n 0, 1) := by decide +kernel
theorem dX4_shortsBy_16 : decode cX4_shortsBy 16 = .ok (.iload_n 3, 1) := by decide +kernel
theorem dX4_shortsBy_17 : decode cX4_shortsBy 17 = .ok (.iload_n 1, 1) := by decide +kernel
theorem dX4_shortsBy_18 : decode cX4_shortsBy 18 = .ok (.invokevirtual 96, 3) := by decide +kernel
theorem dX4_shortsBy_21 : decode cX4_shortsBy 21 = .ok (.imul, 1) := by decide +kernel
theorem dX4_shortsBy_22 : decode cX4_shortsBy 22 = .ok (.iload_n 1, 1) := by decide +kernel
theorem dX4_shortsBy_23 : decode cX4_shortsBy 23 = .ok (.if_icmp .le 7, 3) := by decide +kernel
theorem dX4_shortsBy_26 : decode cX4_shortsBy 26 = .ok (.iconst 1, 1) := by decide +kernel
theorem dX4_shortsBy_27 : decode cX4_shortsBy 27 = .ok (.goto 4, 3) := by decide +kernel
theorem dX4_shortsBy_30 : decode cX4_shortsBy 30 = .ok (.iconst 0, 1) := by decide +kernel
theorem dX4_shortsBy_31 : decode cX4_shortsBy 31 = .ok (.iadd, 1) := by decide +kernel
theorem dX4_shortsBy_32 : decode cX4_shortsBy 32 = .ok (.istore_n 2, 1) := by decide +kernel
theorem dX4_shortsBy_33 : decode cX4_shortsBy 33 = .ok (.iinc 3 1, 3) := by decide +kernel
theorem dX4_shortsBy_36 : decode cX4_shortsBy 36 = .ok (.goto (-32), 3) := by decide +kernel
theorem dX4_shortsBy_39 : decode cX4_shortsBy 39 = .ok (.iload_n 2, 1) := by decide +kernel
theorem dX4_shortsBy_40 : decode cX4_shortsBy 40 = .ok (.ireturn, 1) := by decide +kernel
theorem dX4_doublesBy_0 : decode cX4_doublesBy 0 = .ok (.iconst 0, 1) := by decide +kernel
theorem dX4_doublesBy_1 : decode cX4_doublesBy 1 = .ok (.istore_n 2, 1) := by decide +kernel
theorem dX4_doublesBy_2 : decode cX4_doublesBy 2 = .ok (.iconst 0, 1) := by decide +kernel
theorem dX4_doublesBy_3 : decode cX4_doublesBy 3 = .ok (.istore_n 3, 1) := by decide +kernel
theorem dX4_doublesBy_4 : decode cX4_doublesBy 4 = .ok (.iload_n 3, 1) := by decide +kernel
theorem dX4_doublesBy_5 : decode cX4_doublesBy 5 = .ok (.aload_n 0, 1) := by decide +kernel
theorem dX4_doublesBy_6 : decode cX4_doublesBy 6 = .ok (.getfield 9, 3) := by decide +kernel
theorem dX4_doublesBy_9 : decode cX4_doublesBy 9 = .ok (.if_icmp .ge 32, 3) := by decide +kernel
theorem dX4_doublesBy_12 : decode cX4_doublesBy 12 = .ok (.iload_n 2, 1) := by decide +kernel
theorem dX4_doublesBy_13 : decode cX4_doublesBy 13 = .ok (.aload_n 0, 1) := by decide +kernel
theorem dX4_doublesBy_14 : decode cX4_doublesBy 14 = .ok (.aload_n 0, 1) := by decide +kernel
theorem dX4_doublesBy_15 : decode cX4_doublesBy 15 = .ok (.iload_n 3, 1) := by decide +kernel
theorem dX4_doublesBy_16 : decode cX4_doublesBy 16 = .ok (.iload_n 1, 1) := by decide +kernel
theorem dX4_doublesBy_17 : decode cX4_doublesBy 17 = .ok (.invokevirtual 99, 3) := by decide +kernel
theorem dX4_doublesBy_20 : decode cX4_doublesBy 20 = .ok (.iload_n 1, 1) := by decide +kernel
theorem dX4_doublesBy_21 : decode cX4_doublesBy 21 = .ok (.invokevirtual 102, 3) := by decide +kernel
theorem dX4_doublesBy_24 : decode cX4_doublesBy 24 = .ok (.iload_n 3, 1) := by decide +kernel
theorem dX4_doublesBy_25 : decode cX4_doublesBy 25 = .ok (.if_icmp .ge 7, 3) := by decide +kernel
theorem dX4_doublesBy_28 : decode cX4_doublesBy 28 = .ok (.iconst 1, 1) := by decide +kernel
theorem dX4_doublesBy_29 : decode cX4_doublesBy 29 = .ok (.goto 4, 3) := by decide +kernel
theorem dX4_doublesBy_32 : decode cX4_doublesBy 32 = .ok (.iconst 0, 1) := by decide +kernel
theorem dX4_doublesBy_33 : decode cX4_doublesBy 33 = .ok (.iadd, 1) := by decide +kernel
theorem dX4_doublesBy_34 : decode cX4_doublesBy 34 = .ok (.istore_n 2, 1) := by decide +kernel
theorem dX4_doublesBy_35 : decode cX4_doublesBy 35 = .ok (.iinc 3 1, 3) := by decide +kernel
theorem dX4_doublesBy_38 : decode cX4_doublesBy 38 = .ok (.goto (-34), 3) := by decide +kernel
theorem dX4_doublesBy_41 : decode cX4_doublesBy 41 = .ok (.iload_n 2, 1) := by decide +kernel
theorem dX4_doublesBy_42 : decode cX4_doublesBy 42 = .ok (.ireturn, 1) := by decide +kernel
theorem dX4_lacksBy_0 : decode cX4_lacksBy 0 = .ok (.iconst 0, 1) := by decide +kernel
theorem dX4_lacksBy_1 : decode cX4_lacksBy 1 = .ok (.istore_n 2, 1) := by decide +kernel
theorem dX4_lacksBy_2 : decode cX4_lacksBy 2 = .ok (.aload_n 0, 1) := by decide +kernel
theorem dX4_lacksBy_3 : decode cX4_lacksBy 3 = .ok (.iload_n 1, 1) := by decide +kernel
theorem dX4_lacksBy_4 : decode cX4_lacksBy 4 = .ok (.invokevirtual 105, 3) := by decide +kernel
theorem dX4_lacksBy_7 : decode cX4_lacksBy 7 = .ok (.istore_n 3, 1) := by decide +kernel
theorem dX4_lacksBy_8 : decode cX4_lacksBy 8 = .ok (.iconst 0, 1) := by decide +kernel
theorem dX4_lacksBy_9 : decode cX4_lacksBy 9 = .ok (.istore 4, 2) := by decide +kernel
theorem dX4_lacksBy_11 : decode cX4_lacksBy 11 = .ok (.iload 4, 2) := by decide +kernel
theorem dX4_lacksBy_13 : decode cX4_lacksBy 13 = .ok (.iconst 5, 1) := by decide +kernel
theorem dX4_lacksBy_14 : decode cX4_lacksBy 14 = .ok (.if_icmp .gt 44, 3) := by decide +kernel
theorem dX4_lacksBy_17 : decode cX4_lacksBy 17 = .ok (.iconst 1, 1) := by decide +kernel
theorem dX4_lacksBy_18 : decode cX4_lacksBy 18 = .ok (.iload 4, 2) := by decide +kernel
theorem dX4_lacksBy_20 : decode cX4_lacksBy 20 = .ok (.ishl, 1) := by decide +kernel
theorem dX4_lacksBy_21 : decode cX4_lacksBy 21 = .ok (.iload_n 3, 1) := by decide +kernel
theorem dX4_lacksBy_22 : decode cX4_lacksBy 22 = .ok (.if_icmp .gt 36, 3) := by decide +kernel
theorem dX4_lacksBy_25 : decode cX4_lacksBy 25 = .ok (.iload_n 2, 1) := by decide +kernel
theorem dX4_lacksBy_26 : decode cX4_lacksBy 26 = .ok (.aload_n 0, 1) := by decide +kernel
theorem dX4_lacksBy_27 : decode cX4_lacksBy 27 = .ok (.iconst 1, 1) := by decide +kernel
theorem dX4_lacksBy_28 : decode cX4_lacksBy 28 = .ok (.iload 4, 2) := by decide +kernel
theorem dX4_lacksBy_30 : decode cX4_lacksBy 30 = .ok (.ishl, 1) := by decide +kernel
theorem dX4_lacksBy_31 : decode cX4_lacksBy 31 = .ok (.iload_n 1, 1) := by decide +kernel
theorem dX4_lacksBy_32 : decode cX4_lacksBy 32 = .ok (.invokevirtual 102, 3) := by decide +kernel
theorem dX4_lacksBy_35 : decode cX4_lacksBy 35 = .ok (.aload_n 0, 1) := by decide +kernel
theorem dX4_lacksBy_36 : decode cX4_lacksBy 36 = .ok (.getfield 9, 3) := by decide +kernel
theorem dX4_lacksBy_39 : decode cX4_lacksBy 39 = .ok (.if_icmp .ne 10, 3) := by decide +kernel
theorem dX4_lacksBy_42 : decode cX4_lacksBy 42 = .ok (.iconst 1, 1) := by decide +kernel
theorem dX4_lacksBy_43 : decode cX4_lacksBy 43 = .ok (.iload 4, 2) := by decide +kernel
theorem dX4_lacksBy_45 : decode cX4_lacksBy 45 = .ok (.ishl, 1) := by decide +kernel
theorem dX4_lacksBy_46 : decode cX4_lacksBy 46 = .ok (.goto 4, 3) := by decide +kernel
theorem dX4_lacksBy_49 : decode cX4_lacksBy 49 = .ok (.iconst 0, 1) := by decide +kernel
theorem dX4_lacksBy_50 : decode cX4_lacksBy 50 = .ok (.ior, 1) := by decide +kernel
theorem dX4_lacksBy_51 : decode cX4_lacksBy 51 = .ok (.istore_n 2, 1) := by decide +kernel
theorem dX4_lacksBy_52 : decode cX4_lacksBy 52 = .ok (.iinc 4 1, 3) := by decide +kernel
theorem dX4_lacksBy_55 : decode cX4_lacksBy 55 = .ok (.goto (-44), 3) := by decide +kernel
theorem dX4_lacksBy_58 : decode cX4_lacksBy 58 = .ok (.iload_n 2, 1) := by decide +kernel
theorem dX4_lacksBy_59 : decode cX4_lacksBy 59 = .ok (.ireturn, 1) := by decide +kernel
theorem dX4_greatestTimes_0 : decode cX4_greatestTimes 0 = .ok (.iconst 0, 1) := by decide +kernel
theorem dX4_greatestTimes_1 : decode cX4_greatestTimes 1 = .ok (.istore_n 2, 1) := by decide +kernel
theorem dX4_greatestTimes_2 : decode cX4_greatestTimes 2 = .ok (.iconst 0, 1) := by decide +kernel
theorem dX4_greatestTimes_3 : decode cX4_greatestTimes 3 = .ok (.istore_n 3, 1) := by decide +kernel
theorem dX4_greatestTimes_4 : decode cX4_greatestTimes 4 = .ok (.iload_n 3, 1) := by decide +kernel
theorem dX4_greatestTimes_5 : decode cX4_greatestTimes 5 = .ok (.aload_n 0, 1) := by decide +kernel
theorem dX4_greatestTimes_6 : decode cX4_greatestTimes 6 = .ok (.getfield 9, 3) := by decide +kernel
theorem dX4_greatestTimes_9 : decode cX4_greatestTimes 9 = .ok (.if_icmp .ge 20, 3) := by decide +kernel
theorem dX4_greatestTimes_12 : decode cX4_greatestTimes 12 = .ok (.iload_n 2, 1) := by decide +kernel
theorem dX4_greatestTimes_13 : decode cX4_greatestTimes 13 = .ok (.aload_n 0, 1) := by decide +kernel
theorem dX4_greatestTimes_14 : decode cX4_greatestTimes 14 = .ok (.iload_n 3, 1) := by decide +kernel
theorem dX4_greatestTimes_15 : decode cX4_greatestTimes 15 = .ok (.iload_n 1, 1) := by decide +kernel
theorem dX4_greatestTimes_16 : decode cX4_greatestTimes 16 = .ok (.invokevirtual 99, 3) := by decide +kernel
theorem dX4_greatestTimes_19 : decode cX4_greatestTimes 19 = .ok (.invokestatic 108, 3) := by decide +kernel
theorem dX4_greatestTimes_22 : decode cX4_greatestTimes 22 = .ok (.istore_n 2, 1) := by decide +kernel
theorem dX4_greatestTimes_23 : decode cX4_greatestTimes 23 = .ok (.iinc 3 1, 3) := by decide +kernel
theorem dX4_greatestTimes_26 : decode cX4_greatestTimes 26 = .ok (.goto (-22), 3) := by decide +kernel
theorem dX4_greatestTimes_29 : decode cX4_greatestTimes 29 = .ok (.iload_n 2, 1) := by decide +kernel
theorem dX4_greatestTimes_30 : decode cX4_greatestTimes 30 = .ok (.ireturn, 1) := by decide +kernel
theorem dX4_leastOfHeap_0 : decode cX4_leastOfHeap 0 = .ok (.lconst 1, 1) := by decide +kernel
theorem dX4_leastOfHeap_1 : decode cX4_leastOfHeap 1 = .ok (.iload_n 2, 1) := by decide +kernel
theorem dX4_leastOfHeap_2 : decode cX4_leastOfHeap 2 = .ok (.lshl, 1) := by decide +kernel
theorem dX4_leastOfHeap_3 : decode cX4_leastOfHeap 3 = .ok (.lstore 4, 2) := by decide +kernel
theorem dX4_leastOfHeap_5 : decode cX4_leastOfHeap 5 = .ok (.lconst 0, 1) := by decide +kernel
theorem dX4_leastOfHeap_6 : decode cX4_leastOfHeap 6 = .ok (.lstore 6, 2) := by decide +kernel
theorem dX4_leastOfHeap_8 : decode cX4_leastOfHeap 8 = .ok (.iconst 0, 1) := by decide +kernel
theorem dX4_leastOfHeap_9 : decode cX4_leastOfHeap 9 = .ok (.istore 8, 2) := by decide +kernel
theorem dX4_leastOfHeap_11 : decode cX4_leastOfHeap 11 = .ok (.iload 8, 2) := by decide +kernel
theorem dX4_leastOfHeap_13 : decode cX4_leastOfHeap 13 = .ok (.aload_n 0, 1) := by decide +kernel
theorem dX4_leastOfHeap_14 : decode cX4_leastOfHeap 14 = .ok (.getfield 9, 3) := by decide +kernel
theorem dX4_leastOfHeap_17 : decode cX4_leastOfHeap 17 = .ok (.if_icmp .ge 85, 3) := by decide +kernel
theorem dX4_leastOfHeap_20 : decode cX4_leastOfHeap 20 = .ok (.lload 4, 2) := by decide +kernel
theorem dX4_leastOfHeap_22 : decode cX4_leastOfHeap 22 = .ok (.lload 6, 2) := by decide +kernel
theorem dX4_leastOfHeap_24 : decode cX4_leastOfHeap 24 = .ok (.ldc2_w 113, 3) := by decide +kernel
theorem dX4_leastOfHeap_27 : decode cX4_leastOfHeap 27 = .ok (.lxor, 1) := by decide +kernel
theorem dX4_leastOfHeap_28 : decode cX4_leastOfHeap 28 = .ok (.land, 1) := by decide +kernel
theorem dX4_leastOfHeap_29 : decode cX4_leastOfHeap 29 = .ok (.invokestatic 115, 3) := by decide +kernel
theorem dX4_leastOfHeap_32 : decode cX4_leastOfHeap 32 = .ok (.istore 9, 2) := by decide +kernel
theorem dX4_leastOfHeap_34 : decode cX4_leastOfHeap 34 = .ok (.iload 9, 2) := by decide +kernel
theorem dX4_leastOfHeap_36 : decode cX4_leastOfHeap 36 = .ok (.iconst (-1), 1) := by decide +kernel
theorem dX4_leastOfHeap_37 : decode cX4_leastOfHeap 37 = .ok (.if_icmp .ne 6, 3) := by decide +kernel
theorem dX4_leastOfHeap_40 : decode cX4_leastOfHeap 40 = .ok (.goto 62, 3) := by decide +kernel
theorem dX4_leastOfHeap_43 : decode cX4_leastOfHeap 43 = .ok (.lload 6, 2) := by decide +kernel
theorem dX4_leastOfHeap_45 : decode cX4_leastOfHeap 45 = .ok (.lconst 1, 1) := by decide +kernel
theorem dX4_leastOfHeap_46 : decode cX4_leastOfHeap 46 = .ok (.iload 9, 2) := by decide +kernel
theorem dX4_leastOfHeap_48 : decode cX4_leastOfHeap 48 = .ok (.lshl, 1) := by decide +kernel
theorem dX4_leastOfHeap_49 : decode cX4_leastOfHeap 49 = .ok (.lor, 1) := by decide +kernel
theorem dX4_leastOfHeap_50 : decode cX4_leastOfHeap 50 = .ok (.lstore 6, 2) := by decide +kernel
theorem dX4_leastOfHeap_52 : decode cX4_leastOfHeap 52 = .ok (.iconst 0, 1) := by decide +kernel
theorem dX4_leastOfHeap_53 : decode cX4_leastOfHeap 53 = .ok (.istore 10, 2) := by decide +kernel
theorem dX4_leastOfHeap_55 : decode cX4_leastOfHeap 55 = .ok (.iload 10, 2) := by decide +kernel
theorem dX4_leastOfHeap_57 : decode cX4_leastOfHeap 57 = .ok (.aload_n 0, 1) := by decide +kernel
theorem dX4_leastOfHeap_58 : decode cX4_leastOfHeap 58 = .ok (.getfield 9, 3) := by decide +kernel
theorem dX4_leastOfHeap_61 : decode cX4_leastOfHeap 61 = .ok (.if_icmp .ge 35, 3) := by decide +kernel
theorem dX4_leastOfHeap_64 : decode cX4_leastOfHeap 64 = .ok (.lload 4, 2) := by decide +kernel
theorem dX4_leastOfHeap_66 : decode cX4_leastOfHeap 66 = .ok (.aload_n 0, 1) := by decide +kernel
theorem dX4_leastOfHeap_67 : decode cX4_leastOfHeap 67 = .ok (.aload_n 1, 1) := by decide +kernel
theorem dX4_leastOfHeap_68 : decode cX4_leastOfHeap 68 = .ok (.iload 9, 2) := by decide +kernel
theorem dX4_leastOfHeap_70 : decode cX4_leastOfHeap 70 = .ok (.iload 10, 2) := by decide +kernel
theorem dX4_leastOfHeap_72 : decode cX4_leastOfHeap 72 = .ok (.iload_n 3, 1) := by decide +kernel
theorem dX4_leastOfHeap_73 : decode cX4_leastOfHeap 73 = .ok (.invokevirtual 119, 3) := by decide +kernel
theorem dX4_leastOfHeap_76 : decode cX4_leastOfHeap 76 = .ok (.ifCond .eq 10, 3) := by decide +kernel
theorem dX4_leastOfHeap_79 : decode cX4_leastOfHeap 79 = .ok (.lconst 1, 1) := by decide +kernel
theorem dX4_leastOfHeap_80 : decode cX4_leastOfHeap 80 = .ok (.iload 10, 2) := by decide +kernel
theorem dX4_leastOfHeap_82 : decode cX4_leastOfHeap 82 = .ok (.lshl, 1) := by decide +kernel
theorem dX4_leastOfHeap_83 : decode cX4_leastOfHeap 83 = .ok (.goto 4, 3) := by decide +kernel
theorem dX4_leastOfHeap_86 : decode cX4_leastOfHeap 86 = .ok (.lconst 0, 1) := by decide +kernel
theorem dX4_leastOfHeap_87 : decode cX4_leastOfHeap 87 = .ok (.lor, 1) := by decide +kernel
theorem dX4_leastOfHeap_88 : decode cX4_leastOfHeap 88 = .ok (.lstore 4, 2) := by decide +kernel
theorem dX4_leastOfHeap_90 : decode cX4_leastOfHeap 90 = .ok (.iinc 10 1, 3) := by decide +kernel
theorem dX4_leastOfHeap_93 : decode cX4_leastOfHeap 93 = .ok (.goto (-38), 3) := by decide +kernel
theorem dX4_leastOfHeap_96 : decode cX4_leastOfHeap 96 = .ok (.iinc 8 1, 3) := by decide +kernel
theorem dX4_leastOfHeap_99 : decode cX4_leastOfHeap 99 = .ok (.goto (-88), 3) := by decide +kernel
theorem dX4_leastOfHeap_102 : decode cX4_leastOfHeap 102 = .ok (.aload_n 0, 1) := by decide +kernel
theorem dX4_leastOfHeap_103 : decode cX4_leastOfHeap 103 = .ok (.lload 4, 2) := by decide +kernel
theorem dX4_leastOfHeap_105 : decode cX4_leastOfHeap 105 = .ok (.invokestatic 115, 3) := by decide +kernel
theorem dX4_leastOfHeap_108 : decode cX4_leastOfHeap 108 = .ok (.invokevirtual 57, 3) := by decide +kernel
theorem dX4_leastOfHeap_111 : decode cX4_leastOfHeap 111 = .ok (.ireturn, 1) := by decide +kernel
theorem dX4_has_0 : decode cX4_has 0 = .ok (.iload_n 1, 1) := by decide +kernel
theorem dX4_has_1 : decode cX4_has 1 = .ok (.ifCond .lt 21, 3) := by decide +kernel
theorem dX4_has_4 : decode cX4_has 4 = .ok (.iload_n 1, 1) := by decide +kernel
theorem dX4_has_5 : decode cX4_has 5 = .ok (.aload_n 0, 1) := by decide +kernel
theorem dX4_has_6 : decode cX4_has 6 = .ok (.getfield 9, 3) := by decide +kernel
theorem dX4_has_9 : decode cX4_has 9 = .ok (.if_icmp .ge 13, 3) := by decide +kernel
theorem dX4_has_12 : decode cX4_has 12 = .ok (.iload_n 1, 1) := by decide +kernel
theorem dX4_has_13 : decode cX4_has 13 = .ok (.bipush 32, 2) := by decide +kernel
theorem dX4_has_15 : decode cX4_has 15 = .ok (.if_icmp .ge 7, 3) := by decide +kernel
theorem dX4_has_18 : decode cX4_has 18 = .ok (.iconst 1, 1) := by decide +kernel
theorem dX4_has_19 : decode cX4_has 19 = .ok (.goto 4, 3) := by decide +kernel
theorem dX4_has_22 : decode cX4_has 22 = .ok (.iconst 0, 1) := by decide +kernel
theorem dX4_has_23 : decode cX4_has 23 = .ok (.ireturn, 1) := by decide +kernel
theorem dX4_belongs_0 : decode cX4_belongs 0 = .ok (.aload_n 0, 1) := by decide +kernel
theorem dX4_belongs_1 : decode cX4_belongs 1 = .ok (.getfield 34, 3) := by decide +kernel
theorem dX4_belongs_4 : decode cX4_belongs 4 = .ok (.astore 4, 2) := by decide +kernel
theorem dX4_belongs_6 : decode cX4_belongs 6 = .ok (.iload_n 2, 1) := by decide +kernel
theorem dX4_belongs_7 : decode cX4_belongs 7 = .ok (.iconst 5, 1) := by decide +kernel
theorem dX4_belongs_8 : decode cX4_belongs 8 = .ok (.if_icmp .ne 33, 3) := by decide +kernel
theorem dX4_belongs_11 : decode cX4_belongs 11 = .ok (.aload 4, 2) := by decide +kernel
theorem dX4_belongs_13 : decode cX4_belongs 13 = .ok (.iload_n 1, 1) := by decide +kernel
theorem dX4_belongs_14 : decode cX4_belongs 14 = .ok (.bipush 9, 2) := by decide +kernel
theorem dX4_belongs_16 : decode cX4_belongs 16 = .ok (.invokevirtual 123, 3) := by decide +kernel
theorem dX4_belongs_19 : decode cX4_belongs 19 = .ok (.iconst 1, 1) := by decide +kernel
theorem dX4_belongs_20 : decode cX4_belongs 20 = .ok (.if_icmp .ne 19, 3) := by decide +kernel
theorem dX4_belongs_23 : decode cX4_belongs 23 = .ok (.aload 4, 2) := by decide +kernel
theorem dX4_belongs_25 : decode cX4_belongs 25 = .ok (.iload_n 1, 1) := by decide +kernel
theorem dX4_belongs_26 : decode cX4_belongs 26 = .ok (.bipush 10, 2) := by decide +kernel
theorem dX4_belongs_28 : decode cX4_belongs 28 = .ok (.invokevirtual 123, 3) := by decide +kernel
theorem dX4_belongs_31 : decode cX4_belongs 31 = .ok (.iload_n 3, 1) := by decide +kernel
theorem dX4_belongs_32 : decode cX4_belongs 32 = .ok (.if_icmp .ne 7, 3) := by decide +kernel
theorem dX4_belongs_35 : decode cX4_belongs 35 = .ok (.iconst 1, 1) := by decide +kernel
theorem dX4_belongs_36 : decode cX4_belongs 36 = .ok (.goto 4, 3) := by decide +kernel
theorem dX4_belongs_39 : decode cX4_belongs 39 = .ok (.iconst 0, 1) := by decide +kernel
theorem dX4_belongs_40 : decode cX4_belongs 40 = .ok (.ireturn, 1) := by decide +kernel
theorem dX4_belongs_41 : decode cX4_belongs 41 = .ok (.aload_n 0, 1) := by decide +kernel
theorem dX4_belongs_42 : decode cX4_belongs 42 = .ok (.getfield 126, 3) := by decide +kernel
theorem dX4_belongs_45 : decode cX4_belongs 45 = .ok (.aload 4, 2) := by decide +kernel
theorem dX4_belongs_47 : decode cX4_belongs 47 = .ok (.iload_n 1, 1) := by decide +kernel
theorem dX4_belongs_48 : decode cX4_belongs 48 = .ok (.invokevirtual 130, 3) := by decide +kernel
theorem dX4_belongs_51 : decode cX4_belongs 51 = .ok (.ifCond .ne 5, 3) := by decide +kernel
theorem dX4_belongs_54 : decode cX4_belongs 54 = .ok (.iconst 0, 1) := by decide +kernel
theorem dX4_belongs_55 : decode cX4_belongs 55 = .ok (.ireturn, 1) := by decide +kernel
theorem dX4_belongs_56 : decode cX4_belongs 56 = .ok (.iload_n 2, 1) := by decide +kernel
theorem dX4_belongs_57 : decode cX4_belongs 57 = .ok (.tableswitch 101 1 4 #[31, 48, 65, 83], 31) := by decide +kernel
theorem dX4_belongs_88 : decode cX4_belongs 88 = .ok (.aload 4, 2) := by decide +kernel
theorem dX4_belongs_90 : decode cX4_belongs 90 = .ok (.iload_n 1, 1) := by decide +kernel
theorem dX4_belongs_91 : decode cX4_belongs 91 = .ok (.iconst 4, 1) := by decide +kernel
theorem dX4_belongs_92 : decode cX4_belongs 92 = .ok (.invokevirtual 123, 3) := by decide +kernel
theorem dX4_belongs_95 : decode cX4_belongs 95 = .ok (.iload_n 3, 1) := by decide +kernel
theorem dX4_belongs_96 : decode cX4_belongs 96 = .ok (.if_icmp .ne 7, 3) := by decide +kernel
theorem dX4_belongs_99 : decode cX4_belongs 99 = .ok (.iconst 1, 1) := by decide +kernel
theorem dX4_belongs_100 : decode cX4_belongs 100 = .ok (.goto 4, 3) := by decide +kernel
theorem dX4_belongs_103 : decode cX4_belongs 103 = .ok (.iconst 0, 1) := by decide +kernel
theorem dX4_belongs_104 : decode cX4_belongs 104 = .ok (.ireturn, 1) := by decide +kernel
theorem dX4_belongs_105 : decode cX4_belongs 105 = .ok (.aload 4, 2) := by decide +kernel
theorem dX4_belongs_107 : decode cX4_belongs 107 = .ok (.iload_n 1, 1) := by decide +kernel
theorem dX4_belongs_108 : decode cX4_belongs 108 = .ok (.iconst 5, 1) := by decide +kernel
theorem dX4_belongs_109 : decode cX4_belongs 109 = .ok (.invokevirtual 123, 3) := by decide +kernel
theorem dX4_belongs_112 : decode cX4_belongs 112 = .ok (.iload_n 3, 1) := by decide +kernel
theorem dX4_belongs_113 : decode cX4_belongs 113 = .ok (.if_icmp .lt 7, 3) := by decide +kernel
theorem dX4_belongs_116 : decode cX4_belongs 116 = .ok (.iconst 1, 1) := by decide +kernel
theorem dX4_belongs_117 : decode cX4_belongs 117 = .ok (.goto 4, 3) := by decide +kernel
theorem dX4_belongs_120 : decode cX4_belongs 120 = .ok (.iconst 0, 1) := by decide +kernel
theorem dX4_belongs_121 : decode cX4_belongs 121 = .ok (.ireturn, 1) := by decide +kernel
theorem dX4_belongs_122 : decode cX4_belongs 122 = .ok (.aload 4, 2) := by decide +kernel
theorem dX4_belongs_124 : decode cX4_belongs 124 = .ok (.iload_n 1, 1) := by decide +kernel
theorem dX4_belongs_125 : decode cX4_belongs 125 = .ok (.bipush 6, 2) := by decide +kernel
theorem dX4_belongs_127 : decode cX4_belongs 127 = .ok (.invokevirtual 123, 3) := by decide +kernel
theorem dX4_belongs_130 : decode cX4_belongs 130 = .ok (.iload_n 3, 1) := by decide +kernel
theorem dX4_belongs_131 : decode cX4_belongs 131 = .ok (.if_icmp .ge 7, 3) := by decide +kernel
theorem dX4_belongs_134 : decode cX4_belongs 134 = .ok (.iconst 1, 1) := by decide +kernel
theorem dX4_belongs_135 : decode cX4_belongs 135 = .ok (.goto 4, 3) := by decide +kernel
theorem dX4_belongs_138 : decode cX4_belongs 138 = .ok (.iconst 0, 1) := by decide +kernel
theorem dX4_belongs_139 : decode cX4_belongs 139 = .ok (.ireturn, 1) := by decide +kernel
theorem dX4_belongs_140 : decode cX4_belongs 140 = .ok (.aload 4, 2) := by decide +kernel
theorem dX4_belongs_142 : decode cX4_belongs 142 = .ok (.iload_n 1, 1) := by decide +kernel
theorem dX4_belongs_143 : decode cX4_belongs 143 = .ok (.bipush 8, 2) := by decide +kernel
theorem dX4_belongs_145 : decode cX4_belongs 145 = .ok (.invokevirtual 123, 3) := by decide +kernel
theorem dX4_belongs_148 : decode cX4_belongs 148 = .ok (.iload_n 3, 1) := by decide +kernel
theorem dX4_belongs_149 : decode cX4_belongs 149 = .ok (.if_icmp .ne 7, 3) := by decide +kernel
theorem dX4_belongs_152 : decode cX4_belongs 152 = .ok (.iconst 1, 1) := by decide +kernel
theorem dX4_belongs_153 : decode cX4_belongs 153 = .ok (.goto 4, 3) := by decide +kernel
theorem dX4_belongs_156 : decode cX4_belongs 156 = .ok (.iconst 0, 1) := by decide +kernel
theorem dX4_belongs_157 : decode cX4_belongs 157 = .ok (.ireturn, 1) := by decide +kernel
theorem dX4_belongs_158 : decode cX4_belongs 158 = .ok (.iconst 1, 1) := by decide +kernel
theorem dX4_belongs_159 : decode cX4_belongs 159 = .ok (.ireturn, 1) := by decide +kernel
theorem dX4_lay_0 : decode cX4_lay 0 = .ok (.aload_n 0, 1) := by decide +kernel
theorem dX4_lay_1 : decode cX4_lay 1 = .ok (.getfield 9, 3) := by decide +kernel
theorem dX4_lay_4 : decode cX4_lay 4 = .ok (.istore_n 3, 1) := by decide +kernel
theorem dX4_lay_5 : decode cX4_lay 5 = .ok (.iload_n 3, 1) := by decide +kernel
theorem dX4_lay_6 : decode cX4_lay 6 = .ok (.ifCond .lt 9, 3) := by decide +kernel
theorem dX4_lay_9 : decode cX4_lay 9 = .ok (.iload_n 3, 1) := by decide +kernel
theorem dX4_lay_10 : decode cX4_lay 10 = .ok (.bipush 32, 2) := by decide +kernel
theorem dX4_lay_12 : decode cX4_lay 12 = .ok (.if_icmp .lt 4, 3) := by decide +kernel
theorem dX4_lay_15 : decode cX4_lay 15 = .ok (.return_, 1) := by decide +kernel
theorem dX4_lay_16 : decode cX4_lay 16 = .ok (.aload_n 1, 1) := by decide +kernel
theorem dX4_lay_17 : decode cX4_lay 17 = .ok (.getfield 34, 3) := by decide +kernel
theorem dX4_lay_20 : decode cX4_lay 20 = .ok (.astore 4, 2) := by decide +kernel
theorem dX4_lay_22 : decode cX4_lay 22 = .ok (.aload_n 0, 1) := by decide +kernel
theorem dX4_lay_23 : decode cX4_lay 23 = .ok (.getfield 22, 3) := by decide +kernel
theorem dX4_lay_26 : decode cX4_lay 26 = .ok (.iload_n 3, 1) := by decide +kernel
theorem dX4_lay_27 : decode cX4_lay 27 = .ok (.iload_n 2, 1) := by decide +kernel
theorem dX4_lay_28 : decode cX4_lay 28 = .ok (.iastore, 1) := by decide +kernel
theorem dX4_lay_29 : decode cX4_lay 29 = .ok (.aload_n 0, 1) := by decide +kernel
theorem dX4_lay_30 : decode cX4_lay 30 = .ok (.getfield 25, 3) := by decide +kernel
theorem dX4_lay_33 : decode cX4_lay 33 = .ok (.iload_n 3, 1) := by decide +kernel
theorem dX4_lay_34 : decode cX4_lay 34 = .ok (.aload 4, 2) := by decide +kernel
theorem dX4_lay_36 : decode cX4_lay 36 = .ok (.iload_n 2, 1) := by decide +kernel
theorem dX4_lay_37 : decode cX4_lay 37 = .ok (.bipush 7, 2) := by decide +kernel
theorem dX4_lay_39 : decode cX4_lay 39 = .ok (.invokevirtual 123, 3) := by decide +kernel
theorem dX4_lay_42 : decode cX4_lay 42 = .ok (.iastore, 1) := by decide +kernel
theorem dX4_lay_43 : decode cX4_lay 43 = .ok (.aload_n 0, 1) := by decide +kernel
theorem dX4_lay_44 : decode cX4_lay 44 = .ok (.getfield 28, 3) := by decide +kernel
theorem dX4_lay_47 : decode cX4_lay 47 = .ok (.iload_n 3, 1) := by decide +kernel
theorem dX4_lay_48 : decode cX4_lay 48 = .ok (.aload 4, 2) := by decide +kernel
theorem dX4_lay_50 : decode cX4_lay 50 = .ok (.iload_n 2, 1) := by decide +kernel
theorem dX4_lay_51 : decode cX4_lay 51 = .ok (.iconst 4, 1) := by decide +kernel
theorem dX4_lay_52 : decode cX4_lay 52 = .ok (.invokevirtual 123, 3) := by decide +kernel
theorem dX4_lay_55 : decode cX4_lay 55 = .ok (.iastore, 1) := by decide +kernel
theorem dX4_lay_56 : decode cX4_lay 56 = .ok (.aload_n 0, 1) := by decide +kernel
theorem dX4_lay_57 : decode cX4_lay 57 = .ok (.dup, 1) := by decide +kernel
theorem dX4_lay_58 : decode cX4_lay 58 = .ok (.getfield 9, 3) := by decide +kernel
theorem dX4_lay_61 : decode cX4_lay 61 = .ok (.iconst 1, 1) := by decide +kernel
theorem dX4_lay_62 : decode cX4_lay 62 = .ok (.iadd, 1) := by decide +kernel
theorem dX4_lay_63 : decode cX4_lay 63 = .ok (.putfield 9, 3) := by decide +kernel
theorem dX4_lay_66 : decode cX4_lay 66 = .ok (.aload_n 0, 1) := by decide +kernel
theorem dX4_lay_67 : decode cX4_lay 67 = .ok (.aload 4, 2) := by decide +kernel
theorem dX4_lay_69 : decode cX4_lay 69 = .ok (.aload_n 1, 1) := by decide +kernel
theorem dX4_lay_70 : decode cX4_lay 70 = .ok (.getfield 136, 3) := by decide +kernel
theorem dX4_lay_73 : decode cX4_lay 73 = .ok (.iload_n 3, 1) := by decide +kernel
theorem dX4_lay_74 : decode cX4_lay 74 = .ok (.invokevirtual 140, 3) := by decide +kernel
theorem dX4_lay_77 : decode cX4_lay 77 = .ok (.return_, 1) := by decide +kernel
theorem dX4_measure_0 : decode cX4_measure 0 = .ok (.aload_n 0, 1) := by decide +kernel
theorem dX4_measure_1 : decode cX4_measure 1 = .ok (.getfield 22, 3) := by decide +kernel
theorem dX4_measure_4 : decode cX4_measure 4 = .ok (.iload_n 3, 1) := by decide +kernel
theorem dX4_measure_5 : decode cX4_measure 5 = .ok (.iaload, 1) := by decide +kernel
theorem dX4_measure_6 : decode cX4_measure 6 = .ok (.istore 4, 2) := by decide +kernel
theorem dX4_measure_8 : decode cX4_measure 8 = .ok (.aload_n 0, 1) := by decide +kernel
theorem dX4_measure_9 : decode cX4_measure 9 = .ok (.aload_n 1, 1) := by decide +kernel
theorem dX4_measure_10 : decode cX4_measure 10 = .ok (.iload 4, 2) := by decide +kernel
theorem dX4_measure_12 : decode cX4_measure 12 = .ok (.invokevirtual 144, 3) := by decide +kernel
theorem dX4_measure_15 : decode cX4_measure 15 = .ok (.iconst 0, 1) := by decide +kernel
theorem dX4_measure_16 : decode cX4_measure 16 = .ok (.istore 5, 2) := by decide +kernel
theorem dX4_measure_18 : decode cX4_measure 18 = .ok (.iconst 0, 1) := by decide +kernel
theorem dX4_measure_19 : decode cX4_measure 19 = .ok (.istore 6, 2) := by decide +kernel
theorem dX4_measure_21 : decode cX4_measure 21 = .ok (.iconst 0, 1) := by decide +kernel
theorem dX4_measure_22 : decode cX4_measure 22 = .ok (.istore 7, 2) := by decide +kernel
theorem dX4_measure_24 : decode cX4_measure 24 = .ok (.iload 7, 2) := by decide +kernel
theorem dX4_measure_26 : decode cX4_measure 26 = .ok (.aload_n 2, 1) := by decide +kernel
theorem dX4_measure_27 : decode cX4_measure 27 = .ok (.getfield 148, 3) := by decide +kernel
theorem dX4_measure_30 : decode cX4_measure 30 = .ok (.if_icmp .ge 96, 3) := by decide +kernel
theorem dX4_measure_33 : decode cX4_measure 33 = .ok (.aload_n 2, 1) := by decide +kernel
theorem dX4_measure_34 : decode cX4_measure 34 = .ok (.iload 7, 2) := by decide +kernel
theorem dX4_measure_36 : decode cX4_measure 36 = .ok (.aload_n 0, 1) := by decide +kernel
theorem dX4_measure_37 : decode cX4_measure 37 = .ok (.getfield 31, 3) := by decide +kernel
theorem dX4_measure_40 : decode cX4_measure 40 = .ok (.invokevirtual 153, 3) := by decide +kernel
theorem dX4_measure_43 : decode cX4_measure 43 = .ok (.ifCond .ne 6, 3) := by decide +kernel
theorem dX4_measure_46 : decode cX4_measure 46 = .ok (.goto 74, 3) := by decide +kernel
theorem dX4_measure_49 : decode cX4_measure 49 = .ok (.aload_n 2, 1) := by decide +kernel
theorem dX4_measure_50 : decode cX4_measure 50 = .ok (.iload 7, 2) := by decide +kernel
theorem dX4_measure_52 : decode cX4_measure 52 = .ok (.invokevirtual 157, 3) := by decide +kernel
theorem dX4_measure_55 : decode cX4_measure 55 = .ok (.istore 8, 2) := by decide +kernel
theorem dX4_measure_57 : decode cX4_measure 57 = .ok (.iload 8, 2) := by decide +kernel
theorem dX4_measure_59 : decode cX4_measure 59 = .ok (.iconst 2, 1) := by decide +kernel
theorem dX4_measure_60 : decode cX4_measure 60 = .ok (.if_icmp .ne 6, 3) := by decide +kernel
theorem dX4_measure_63 : decode cX4_measure 63 = .ok (.goto 63, 3) := by decide +kernel
theorem dX4_measure_66 : decode cX4_measure 66 = .ok (.iload 5, 2) := by decide +kernel
theorem dX4_measure_68 : decode cX4_measure 68 = .ok (.iload 8, 2) := by decide +kernel
theorem dX4_measure_70 : decode cX4_measure 70 = .ok (.iconst 1, 1) := by decide +kernel
theorem dX4_measure_71 : decode cX4_measure 71 = .ok (.if_icmp .ne 13, 3) := by decide +kernel
theorem dX4_measure_74 : decode cX4_measure 74 = .ok (.aload_n 2, 1) := by decide +kernel
theorem dX4_measure_75 : decode cX4_measure 75 = .ok (.iload 7, 2) := by decide +kernel
theorem dX4_measure_77 : decode cX4_measure 77 = .ok (.invokevirtual 160, 3) := by decide +kernel
theorem dX4_measure_80 : decode cX4_measure 80 = .ok (.ineg, 1) := by decide +kernel
theorem dX4_measure_81 : decode cX4_measure 81 = .ok (.goto 9, 3) := by decide +kernel
theorem dX4_measure_84 : decode cX4_measure 84 = .ok (.aload_n 2, 1) := by decide +kernel
theorem dX4_measure_85 : decode cX4_measure 85 = .ok (.iload 7, 2) := by decide +kernel
theorem dX4_measure_87 : decode cX4_measure 87 = .ok (.invokevirtual 163, 3) := by decide +kernel
theorem dX4_measure_90 : decode cX4_measure 90 = .ok (.iadd, 1) := by decide +kernel
theorem dX4_measure_91 : decode cX4_measure 91 = .ok (.istore 5, 2) := by decide +kernel
theorem dX4_measure_93 : decode cX4_measure 93 = .ok (.iload 6, 2) := by decide +kernel
theorem dX4_measure_95 : decode cX4_measure 95 = .ok (.iload 8, 2) := by decide +kernel
theorem dX4_measure_97 : decode cX4_measure 97 = .ok (.iconst 1, 1) := by decide +kernel
theorem dX4_measure_98 : decode cX4_measure 98 = .ok (.if_icmp .ne 13, 3) := by decide +kernel
theorem dX4_measure_101 : decode cX4_measure 101 = .ok (.aload_n 2, 1) := by decide +kernel
theorem dX4_measure_102 : decode cX4_measure 102 = .ok (.iload 7, 2) := by decide +kernel
theorem dX4_measure_104 : decode cX4_measure 104 = .ok (.invokevirtual 163, 3) := by decide +kernel
theorem dX4_measure_107 : decode cX4_measure 107 = .ok (.ineg, 1) := by decide +kernel
theorem dX4_measure_108 : decode cX4_measure 108 = .ok (.goto 9, 3) := by decide +kernel
theorem dX4_measure_111 : decode cX4_measure 111 = .ok (.aload_n 2, 1) := by decide +kernel
theorem dX4_measure_112 : decode cX4_measure 112 = .ok (.iload 7, 2) := by decide +kernel
theorem dX4_measure_114 : decode cX4_measure 114 = .ok (.invokevirtual 160, 3) := by decide +kernel
theorem dX4_measure_117 : decode cX4_measure 117 = .ok (.iadd, 1) := by decide +kernel
theorem dX4_measure_118 : decode cX4_measure 118 = .ok (.istore 6, 2) := by decide +kernel
theorem dX4_measure_120 : decode cX4_measure 120 = .ok (.iinc 7 1, 3) := by decide +kernel
theorem dX4_measure_123 : decode cX4_measure 123 = .ok (.goto (-99), 3) := by decide +kernel
theorem dX4_measure_126 : decode cX4_measure 126 = .ok (.aload_n 1, 1) := by decide +kernel
theorem dX4_measure_127 : decode cX4_measure 127 = .ok (.iload 4, 2) := by decide +kernel
theorem dX4_measure_129 : decode cX4_measure 129 = .ok (.iconst 0, 1) := by decide +kernel
theorem dX4_measure_130 : decode cX4_measure 130 = .ok (.invokevirtual 123, 3) := by decide +kernel
theorem dX4_measure_133 : decode cX4_measure 133 = .ok (.aload_n 1, 1) := by decide +kernel
theorem dX4_measure_134 : decode cX4_measure 134 = .ok (.iload 4, 2) := by decide +kernel
theorem dX4_measure_136 : decode cX4_measure 136 = .ok (.iconst 3, 1) := by decide +kernel
theorem dX4_measure_137 : decode cX4_measure 137 = .ok (.invokevirtual 123, 3) := by decide +kernel
theorem dX4_measure_140 : decode cX4_measure 140 = .ok (.isub, 1) := by decide +kernel
theorem dX4_measure_141 : decode cX4_measure 141 = .ok (.istore 7, 2) := by decide +kernel
theorem dX4_measure_143 : decode cX4_measure 143 = .ok (.aload_n 0, 1) := by decide +kernel
theorem dX4_measure_144 : decode cX4_measure 144 = .ok (.getfield 15, 3) := by decide +kernel
theorem dX4_measure_147 : decode cX4_measure 147 = .ok (.iload_n 3, 1) := by decide +kernel
theorem dX4_measure_148 : decode cX4_measure 148 = .ok (.iload 7, 2) := by decide +kernel
theorem dX4_measure_150 : decode cX4_measure 150 = .ok (.iload 5, 2) := by decide +kernel
theorem dX4_measure_152 : decode cX4_measure 152 = .ok (.invokestatic 166, 3) := by decide +kernel
theorem dX4_measure_155 : decode cX4_measure 155 = .ok (.iastore, 1) := by decide +kernel
theorem dX4_measure_156 : decode cX4_measure 156 = .ok (.aload_n 0, 1) := by decide +kernel
theorem dX4_measure_157 : decode cX4_measure 157 = .ok (.getfield 19, 3) := by decide +kernel
theorem dX4_measure_160 : decode cX4_measure 160 = .ok (.iload_n 3, 1) := by decide +kernel
theorem dX4_measure_161 : decode cX4_measure 161 = .ok (.iload 7, 2) := by decide +kernel
theorem dX4_measure_163 : decode cX4_measure 163 = .ok (.iload 6, 2) := by decide +kernel
theorem dX4_measure_165 : decode cX4_measure 165 = .ok (.invokestatic 166, 3) := by decide +kernel
theorem dX4_measure_168 : decode cX4_measure 168 = .ok (.iastore, 1) := by decide +kernel
theorem dX4_measure_169 : decode cX4_measure 169 = .ok (.return_, 1) := by decide +kernel
theorem dX4_listTraits_0 : decode cX4_listTraits 0 = .ok (.aload_n 0, 1) := by decide +kernel
theorem dX4_listTraits_1 : decode cX4_listTraits 1 = .ok (.getfield 31, 3) := by decide +kernel
theorem dX4_listTraits_4 : decode cX4_listTraits 4 = .ok (.iconst 0, 1) := by decide +kernel
theorem dX4_listTraits_5 : decode cX4_listTraits 5 = .ok (.aload_n 1, 1) := by decide +kernel
theorem dX4_listTraits_6 : decode cX4_listTraits 6 = .ok (.iload_n 2, 1) := by decide +kernel
theorem dX4_listTraits_7 : decode cX4_listTraits 7 = .ok (.iconst 1, 1) := by decide +kernel
theorem dX4_listTraits_8 : decode cX4_listTraits 8 = .ok (.invokevirtual 123, 3) := by decide +kernel
theorem dX4_listTraits_11 : decode cX4_listTraits 11 = .ok (.iastore, 1) := by decide +kernel
theorem dX4_listTraits_12 : decode cX4_listTraits 12 = .ok (.aload_n 0, 1) := by decide +kernel
theorem dX4_listTraits_13 : decode cX4_listTraits 13 = .ok (.getfield 31, 3) := by decide +kernel
theorem dX4_listTraits_16 : decode cX4_listTraits 16 = .ok (.iconst 1, 1) := by decide +kernel
theorem dX4_listTraits_17 : decode cX4_listTraits 17 = .ok (.aload_n 1, 1) := by decide +kernel
theorem dX4_listTraits_18 : decode cX4_listTraits 18 = .ok (.iload_n 2, 1) := by decide +kernel
theorem dX4_listTraits_19 : decode cX4_listTraits 19 = .ok (.iconst 2, 1) := by decide +kernel
theorem dX4_listTraits_20 : decode cX4_listTraits 20 = .ok (.invokevirtual 123, 3) := by decide +kernel
theorem dX4_listTraits_23 : decode cX4_listTraits 23 = .ok (.iastore, 1) := by decide +kernel
theorem dX4_listTraits_24 : decode cX4_listTraits 24 = .ok (.aload_n 0, 1) := by decide +kernel
theorem dX4_listTraits_25 : decode cX4_listTraits 25 = .ok (.getfield 31, 3) := by decide +kernel
theorem dX4_listTraits_28 : decode cX4_listTraits 28 = .ok (.iconst 2, 1) := by decide +kernel
theorem dX4_listTraits_29 : decode cX4_listTraits 29 = .ok (.aload_n 1, 1) := by decide +kernel
theorem dX4_listTraits_30 : decode cX4_listTraits 30 = .ok (.iload_n 2, 1) := by decide +kernel
theorem dX4_listTraits_31 : decode cX4_listTraits 31 = .ok (.iconst 3, 1) := by decide +kernel
theorem dX4_listTraits_32 : decode cX4_listTraits 32 = .ok (.invokevirtual 123, 3) := by decide +kernel
theorem dX4_listTraits_35 : decode cX4_listTraits 35 = .ok (.iastore, 1) := by decide +kernel
theorem dX4_listTraits_36 : decode cX4_listTraits 36 = .ok (.aload_n 0, 1) := by decide +kernel
theorem dX4_listTraits_37 : decode cX4_listTraits 37 = .ok (.getfield 31, 3) := by decide +kernel
theorem dX4_listTraits_40 : decode cX4_listTraits 40 = .ok (.iconst 3, 1) := by decide +kernel
theorem dX4_listTraits_41 : decode cX4_listTraits 41 = .ok (.aload_n 1, 1) := by decide +kernel
theorem dX4_listTraits_42 : decode cX4_listTraits 42 = .ok (.iload_n 2, 1) := by decide +kernel
theorem dX4_listTraits_43 : decode cX4_listTraits 43 = .ok (.iconst 4, 1) := by decide +kernel
theorem dX4_listTraits_44 : decode cX4_listTraits 44 = .ok (.invokevirtual 123, 3) := by decide +kernel
theorem dX4_listTraits_47 : decode cX4_listTraits 47 = .ok (.iastore, 1) := by decide +kernel
theorem dX4_listTraits_48 : decode cX4_listTraits 48 = .ok (.aload_n 0, 1) := by decide +kernel
theorem dX4_listTraits_49 : decode cX4_listTraits 49 = .ok (.getfield 31, 3) := by decide +kernel
theorem dX4_listTraits_52 : decode cX4_listTraits 52 = .ok (.iconst 4, 1) := by decide +kernel
theorem dX4_listTraits_53 : decode cX4_listTraits 53 = .ok (.aload_n 1, 1) := by decide +kernel
theorem dX4_listTraits_54 : decode cX4_listTraits 54 = .ok (.iload_n 2, 1) := by decide +kernel
theorem dX4_listTraits_55 : decode cX4_listTraits 55 = .ok (.bipush 7, 2) := by decide +kernel
theorem dX4_listTraits_57 : decode cX4_listTraits 57 = .ok (.invokevirtual 123, 3) := by decide +kernel
theorem dX4_listTraits_60 : decode cX4_listTraits 60 = .ok (.iastore, 1) := by decide +kernel
theorem dX4_listTraits_61 : decode cX4_listTraits 61 = .ok (.aload_n 0, 1) := by decide +kernel
theorem dX4_listTraits_62 : decode cX4_listTraits 62 = .ok (.getfield 31, 3) := by decide +kernel
theorem dX4_listTraits_65 : decode cX4_listTraits 65 = .ok (.iconst 5, 1) := by decide +kernel
theorem dX4_listTraits_66 : decode cX4_listTraits 66 = .ok (.aload_n 1, 1) := by decide +kernel
theorem dX4_listTraits_67 : decode cX4_listTraits 67 = .ok (.iload_n 2, 1) := by decide +kernel
theorem dX4_listTraits_68 : decode cX4_listTraits 68 = .ok (.bipush 8, 2) := by decide +kernel
theorem dX4_listTraits_70 : decode cX4_listTraits 70 = .ok (.invokevirtual 123, 3) := by decide +kernel
theorem dX4_listTraits_73 : decode cX4_listTraits 73 = .ok (.iastore, 1) := by decide +kernel
theorem dX4_listTraits_74 : decode cX4_listTraits 74 = .ok (.aload_n 0, 1) := by decide +kernel
theorem dX4_listTraits_75 : decode cX4_listTraits 75 = .ok (.getfield 31, 3) := by decide +kernel
theorem dX4_listTraits_78 : decode cX4_listTraits 78 = .ok (.bipush 6, 2) := by decide +kernel
theorem dX4_listTraits_80 : decode cX4_listTraits 80 = .ok (.sipush 2000, 3) := by decide +kernel
theorem dX4_listTraits_83 : decode cX4_listTraits 83 = .ok (.aload_n 1, 1) := by decide +kernel
theorem dX4_listTraits_84 : decode cX4_listTraits 84 = .ok (.iload_n 2, 1) := by decide +kernel
theorem dX4_listTraits_85 : decode cX4_listTraits 85 = .ok (.bipush 6, 2) := by decide +kernel
theorem dX4_listTraits_87 : decode cX4_listTraits 87 = .ok (.invokevirtual 123, 3) := by decide +kernel
theorem dX4_listTraits_90 : decode cX4_listTraits 90 = .ok (.isub, 1) := by decide +kernel
theorem dX4_listTraits_91 : decode cX4_listTraits 91 = .ok (.iastore, 1) := by decide +kernel
theorem dX4_listTraits_92 : decode cX4_listTraits 92 = .ok (.return_, 1) := by decide +kernel
theorem dX4_firstWithTimes_0 : decode cX4_firstWithTimes 0 = .ok (.iconst 0, 1) := by decide +kernel
theorem dX4_firstWithTimes_1 : decode cX4_firstWithTimes 1 = .ok (.istore_n 3, 1) := by decide +kernel
theorem dX4_firstWithTimes_2 : decode cX4_firstWithTimes 2 = .ok (.iload_n 3, 1) := by decide +kernel
theorem dX4_firstWithTimes_3 : decode cX4_firstWithTimes 3 = .ok (.aload_n 0, 1) := by decide +kernel
theorem dX4_firstWithTimes_4 : decode cX4_firstWithTimes 4 = .ok (.getfield 9, 3) := by decide +kernel
theorem dX4_firstWithTimes_7 : decode cX4_firstWithTimes 7 = .ok (.if_icmp .ge 21, 3) := by decide +kernel
theorem dX4_firstWithTimes_10 : decode cX4_firstWithTimes 10 = .ok (.aload_n 0, 1) := by decide +kernel
theorem dX4_firstWithTimes_11 : decode cX4_firstWithTimes 11 = .ok (.iload_n 3, 1) := by decide +kernel
theorem dX4_firstWithTimes_12 : decode cX4_firstWithTimes 12 = .ok (.iload_n 2, 1) := by decide +kernel
theorem dX4_firstWithTimes_13 : decode cX4_firstWithTimes 13 = .ok (.invokevirtual 99, 3) := by decide +kernel
theorem dX4_firstWithTimes_16 : decode cX4_firstWithTimes 16 = .ok (.iload_n 1, 1) := by decide +kernel
theorem dX4_firstWithTimes_17 : decode cX4_firstWithTimes 17 = .ok (.if_icmp .ne 5, 3) := by decide +kernel
theorem dX4_firstWithTimes_20 : decode cX4_firstWithTimes 20 = .ok (.iload_n 3, 1) := by decide +kernel
theorem dX4_firstWithTimes_21 : decode cX4_firstWithTimes 21 = .ok (.ireturn, 1) := by decide +kernel
theorem dX4_firstWithTimes_22 : decode cX4_firstWithTimes 22 = .ok (.iinc 3 1, 3) := by decide +kernel
theorem dX4_firstWithTimes_25 : decode cX4_firstWithTimes 25 = .ok (.goto (-23), 3) := by decide +kernel
theorem dX4_firstWithTimes_28 : decode cX4_firstWithTimes 28 = .ok (.aload_n 0, 1) := by decide +kernel
theorem dX4_firstWithTimes_29 : decode cX4_firstWithTimes 29 = .ok (.getfield 9, 3) := by decide +kernel
theorem dX4_firstWithTimes_32 : decode cX4_firstWithTimes 32 = .ok (.ireturn, 1) := by decide +kernel
theorem dX4_firstIn_0 : decode cX4_firstIn 0 = .ok (.iconst 0, 1) := by decide +kernel
theorem dX4_firstIn_1 : decode cX4_firstIn 1 = .ok (.istore_n 2, 1) := by decide +kernel
theorem dX4_firstIn_2 : decode cX4_firstIn 2 = .ok (.iload_n 2, 1) := by decide +kernel
theorem dX4_firstIn_3 : decode cX4_firstIn 3 = .ok (.bipush 32, 2) := by decide +kernel
theorem dX4_firstIn_5 : decode cX4_firstIn 5 = .ok (.if_icmp .ge 21, 3) := by decide +kernel
theorem dX4_firstIn_8 : decode cX4_firstIn 8 = .ok (.lload_n 0, 1) := by decide +kernel
theorem dX4_firstIn_9 : decode cX4_firstIn 9 = .ok (.iload_n 2, 1) := by decide +kernel
theorem dX4_firstIn_10 : decode cX4_firstIn 10 = .ok (.lshr, 1) := by decide +kernel
theorem dX4_firstIn_11 : decode cX4_firstIn 11 = .ok (.lconst 1, 1) := by decide +kernel
theorem dX4_firstIn_12 : decode cX4_firstIn 12 = .ok (.land, 1) := by decide +kernel
theorem dX4_firstIn_13 : decode cX4_firstIn 13 = .ok (.lconst 1, 1) := by decide +kernel
theorem dX4_firstIn_14 : decode cX4_firstIn 14 = .ok (.lcmp, 1) := by decide +kernel
theorem dX4_firstIn_15 : decode cX4_firstIn 15 = .ok (.ifCond .ne 5, 3) := by decide +kernel
theorem dX4_firstIn_18 : decode cX4_firstIn 18 = .ok (.iload_n 2, 1) := by decide +kernel
theorem dX4_firstIn_19 : decode cX4_firstIn 19 = .ok (.ireturn, 1) := by decide +kernel
theorem dX4_firstIn_20 : decode cX4_firstIn 20 = .ok (.iinc 2 1, 3) := by decide +kernel
theorem dX4_firstIn_23 : decode cX4_firstIn 23 = .ok (.goto (-21), 3) := by decide +kernel
theorem dX4_firstIn_26 : decode cX4_firstIn 26 = .ok (.iconst (-1), 1) := by decide +kernel
theorem dX4_firstIn_27 : decode cX4_firstIn 27 = .ok (.ireturn, 1) := by decide +kernel
theorem dX4_areTwins_0 : decode cX4_areTwins 0 = .ok (.aload_n 0, 1) := by decide +kernel
theorem dX4_areTwins_1 : decode cX4_areTwins 1 = .ok (.iload_n 2, 1) := by decide +kernel
theorem dX4_areTwins_2 : decode cX4_areTwins 2 = .ok (.invokevirtual 57, 3) := by decide +kernel
theorem dX4_areTwins_5 : decode cX4_areTwins 5 = .ok (.istore 5, 2) := by decide +kernel
theorem dX4_areTwins_7 : decode cX4_areTwins 7 = .ok (.aload_n 0, 1) := by decide +kernel
theorem dX4_areTwins_8 : decode cX4_areTwins 8 = .ok (.iload_n 3, 1) := by decide +kernel
theorem dX4_areTwins_9 : decode cX4_areTwins 9 = .ok (.invokevirtual 57, 3) := by decide +kernel
theorem dX4_areTwins_12 : decode cX4_areTwins 12 = .ok (.istore 6, 2) := by decide +kernel
theorem dX4_areTwins_14 : decode cX4_areTwins 14 = .ok (.aload_n 1, 1) := by decide +kernel
theorem dX4_areTwins_15 : decode cX4_areTwins 15 = .ok (.iload 5, 2) := by decide +kernel
theorem dX4_areTwins_17 : decode cX4_areTwins 17 = .ok (.iconst 4, 1) := by decide +kernel
theorem dX4_areTwins_18 : decode cX4_areTwins 18 = .ok (.invokevirtual 123, 3) := by decide +kernel
theorem dX4_areTwins_21 : decode cX4_areTwins 21 = .ok (.aload_n 1, 1) := by decide +kernel
theorem dX4_areTwins_22 : decode cX4_areTwins 22 = .ok (.iload 6, 2) := by decide +kernel
theorem dX4_areTwins_24 : decode cX4_areTwins 24 = .ok (.iconst 4, 1) := by decide +kernel
theorem dX4_areTwins_25 : decode cX4_areTwins 25 = .ok (.invokevirtual 123, 3) := by decide +kernel
theorem dX4_areTwins_28 : decode cX4_areTwins 28 = .ok (.if_icmp .ne 66, 3) := by decide +kernel
theorem dX4_areTwins_31 : decode cX4_areTwins 31 = .ok (.aload_n 1, 1) := by decide +kernel
theorem dX4_areTwins_32 : decode cX4_areTwins 32 = .ok (.iload 5, 2) := by decide +kernel
theorem dX4_areTwins_34 : decode cX4_areTwins 34 = .ok (.iconst 1, 1) := by decide +kernel
theorem dX4_areTwins_35 : decode cX4_areTwins 35 = .ok (.invokevirtual 123, 3) := by decide +kernel
theorem dX4_areTwins_38 : decode cX4_areTwins 38 = .ok (.aload_n 1, 1) := by decide +kernel
theorem dX4_areTwins_39 : decode cX4_areTwins 39 = .ok (.iload 6, 2) := by decide +kernel
theorem dX4_areTwins_41 : decode cX4_areTwins 41 = .ok (.iconst 1, 1) := by decide +kernel
theorem dX4_areTwins_42 : decode cX4_areTwins 42 = .ok (.invokevirtual 123, 3) := by decide +kernel
theorem dX4_areTwins_45 : decode cX4_areTwins 45 = .ok (.if_icmp .ne 49, 3) := by decide +kernel
theorem dX4_areTwins_48 : decode cX4_areTwins 48 = .ok (.aload_n 1, 1) := by decide +kernel
theorem dX4_areTwins_49 : decode cX4_areTwins 49 = .ok (.iload 5, 2) := by decide +kernel
theorem dX4_areTwins_51 : decode cX4_areTwins 51 = .ok (.bipush 7, 2) := by decide +kernel
theorem dX4_areTwins_53 : decode cX4_areTwins 53 = .ok (.invokevirtual 123, 3) := by decide +kernel
theorem dX4_areTwins_56 : decode cX4_areTwins 56 = .ok (.aload_n 1, 1) := by decide +kernel
theorem dX4_areTwins_57 : decode cX4_areTwins 57 = .ok (.iload 6, 2) := by decide +kernel
theorem dX4_areTwins_59 : decode cX4_areTwins 59 = .ok (.bipush 7, 2) := by decide +kernel
theorem dX4_areTwins_61 : decode cX4_areTwins 61 = .ok (.invokevirtual 123, 3) := by decide +kernel
theorem dX4_areTwins_64 : decode cX4_areTwins 64 = .ok (.if_icmp .ne 30, 3) := by decide +kernel
theorem dX4_areTwins_67 : decode cX4_areTwins 67 = .ok (.aload_n 1, 1) := by decide +kernel
theorem dX4_areTwins_68 : decode cX4_areTwins 68 = .ok (.iload 5, 2) := by decide +kernel
theorem dX4_areTwins_70 : decode cX4_areTwins 70 = .ok (.iconst 0, 1) := by decide +kernel
theorem dX4_areTwins_71 : decode cX4_areTwins 71 = .ok (.invokevirtual 123, 3) := by decide +kernel
theorem dX4_areTwins_74 : decode cX4_areTwins 74 = .ok (.aload_n 1, 1) := by decide +kernel
theorem dX4_areTwins_75 : decode cX4_areTwins 75 = .ok (.iload 6, 2) := by decide +kernel
theorem dX4_areTwins_77 : decode cX4_areTwins 77 = .ok (.iconst 0, 1) := by decide +kernel
theorem dX4_areTwins_78 : decode cX4_areTwins 78 = .ok (.invokevirtual 123, 3) := by decide +kernel
theorem dX4_areTwins_81 : decode cX4_areTwins 81 = .ok (.isub, 1) := by decide +kernel
theorem dX4_areTwins_82 : decode cX4_areTwins 82 = .ok (.invokestatic 169, 3) := by decide +kernel
theorem dX4_areTwins_85 : decode cX4_areTwins 85 = .ok (.iload 4, 2) := by decide +kernel
theorem dX4_areTwins_87 : decode cX4_areTwins 87 = .ok (.if_icmp .gt 7, 3) := by decide +kernel
theorem dX4_areTwins_90 : decode cX4_areTwins 90 = .ok (.iconst 1, 1) := by decide +kernel
theorem dX4_areTwins_91 : decode cX4_areTwins 91 = .ok (.goto 4, 3) := by decide +kernel
theorem dX4_areTwins_94 : decode cX4_areTwins 94 = .ok (.iconst 0, 1) := by decide +kernel
theorem dX4_areTwins_95 : decode cX4_areTwins 95 = .ok (.ireturn, 1) := by decide +kernel
theorem dX5_init_0 : decode cX5_init 0 = .ok (.aload_n 0, 1) := by decide +kernel
theorem dX5_init_1 : decode cX5_init 1 = .ok (.invokespecial 3, 3) := by decide +kernel
theorem dX5_init_4 : decode cX5_init 4 = .ok (.aload_n 0, 1) := by decide +kernel
theorem dX5_init_5 : decode cX5_init 5 = .ok (.new 9, 3) := by decide +kernel
theorem dX5_init_8 : decode cX5_init 8 = .ok (.dup, 1) := by decide +kernel
theorem dX5_init_9 : decode cX5_init 9 = .ok (.invokespecial 11, 3) := by decide +kernel
theorem dX5_init_12 : decode cX5_init 12 = .ok (.putfield 12, 3) := by decide +kernel
theorem dX5_init_15 : decode cX5_init 15 = .ok (.aload_n 0, 1) := by decide +kernel
theorem dX5_init_16 : decode cX5_init 16 = .ok (.iconst 0, 1) := by decide +kernel
theorem dX5_init_17 : decode cX5_init 17 = .ok (.putfield 18, 3) := by decide +kernel
theorem dX5_init_20 : decode cX5_init 20 = .ok (.aload_n 0, 1) := by decide +kernel
theorem dX5_init_21 : decode cX5_init 21 = .ok (.iconst (-1), 1) := by decide +kernel
theorem dX5_init_22 : decode cX5_init 22 = .ok (.putfield 22, 3) := by decide +kernel
theorem dX5_init_25 : decode cX5_init 25 = .ok (.aload_n 0, 1) := by decide +kernel
theorem dX5_init_26 : decode cX5_init 26 = .ok (.iconst 0, 1) := by decide +kernel
theorem dX5_init_27 : decode cX5_init 27 = .ok (.putfield 25, 3) := by decide +kernel
theorem dX5_init_30 : decode cX5_init 30 = .ok (.aload_n 0, 1) := by decide +kernel
theorem dX5_init_31 : decode cX5_init 31 = .ok (.iconst 0, 1) := by decide +kernel
theorem dX5_init_32 : decode cX5_init 32 = .ok (.putfield 29, 3) := by decide +kernel
theorem dX5_init_35 : decode cX5_init 35 = .ok (.aload_n 0, 1) := by decide +kernel
theorem dX5_init_36 : decode cX5_init 36 = .ok (.iconst 0, 1) := by decide +kernel
theorem dX5_init_37 : decode cX5_init 37 = .ok (.putfield 32, 3) := by decide +kernel
theorem dX5_init_40 : decode cX5_init 40 = .ok (.aload_n 0, 1) := by decide +kernel
theorem dX5_init_41 : decode cX5_init 41 = .ok (.iconst 0, 1) := by decide +kernel
theorem dX5_init_42 : decode cX5_init 42 = .ok (.putfield 35, 3) := by decide +kernel
theorem dX5_init_45 : decode cX5_init 45 = .ok (.aload_n 0, 1) := by decide +kernel
theorem dX5_init_46 : decode cX5_init 46 = .ok (.aload_n 1, 1) := by decide +kernel
theorem dX5_init_47 : decode cX5_init 47 = .ok (.putfield 38, 3) := by decide +kernel
theorem dX5_init_50 : decode cX5_init 50 = .ok (.return_, 1) := by decide +kernel
theorem dX5_read_0 : decode cX5_read 0 = .ok (.aload_n 0, 1) := by decide +kernel
theorem dX5_read_1 : decode cX5_read 1 = .ok (.iload_n 1, 1) := by decide +kernel
theorem dX5_read_2 : decode cX5_read 2 = .ok (.putfield 25, 3) := by decide +kernel
theorem dX5_read_5 : decode cX5_read 5 = .ok (.aload_n 0, 1) := by decide +kernel
theorem dX5_read_6 : decode cX5_read 6 = .ok (.iconst 0, 1) := by decide +kernel
theorem dX5_read_7 : decode cX5_read 7 = .ok (.putfield 18, 3) := by decide +kernel
theorem dX5_read_10 : decode cX5_read 10 = .ok (.aload_n 0, 1) := by decide +kernel
theorem dX5_read_11 : decode cX5_read 11 = .ok (.iconst (-1), 1) := by decide +kernel
theorem dX5_read_12 : decode cX5_read 12 = .ok (.putfield 22, 3) := by decide +kernel
theorem dX5_read_15 : decode cX5_read 15 = .ok (.aload_n 0, 1) := by decide +kernel
theorem dX5_read_16 : decode cX5_read 16 = .ok (.getfield 12, 3) := by decide +kernel
theorem dX5_read_19 : decode cX5_read 19 = .ok (.iconst 0, 1) := by decide +kernel
theorem dX5_read_20 : decode cX5_read 20 = .ok (.putfield 42, 3) := by decide +kernel
theorem dX5_read_23 : decode cX5_read 23 = .ok (.aload_n 0, 1) := by decide +kernel
theorem dX5_read_24 : decode cX5_read 24 = .ok (.iconst 0, 1) := by decide +kernel
theorem dX5_read_25 : decode cX5_read 25 = .ok (.putfield 35, 3) := by decide +kernel
theorem dX5_read_28 : decode cX5_read 28 = .ok (.aload_n 0, 1) := by decide +kernel
theorem dX5_read_29 : decode cX5_read 29 = .ok (.invokevirtual 45, 3) := by decide +kernel
theorem dX5_read_32 : decode cX5_read 32 = .ok (.iconst 0, 1) := by decide +kernel
theorem dX5_read_33 : decode cX5_read 33 = .ok (.istore_n 2, 1) := by decide +kernel
theorem dX5_read_34 : decode cX5_read 34 = .ok (.aload_n 0, 1) := by decide +kernel
theorem dX5_read_35 : decode cX5_read 35 = .ok (.getfield 29, 3) := by decide +kernel
theorem dX5_read_38 : decode cX5_read 38 = .ok (.ifCond .eq 41, 3) := by decide +kernel
theorem dX5_read_41 : decode cX5_read 41 = .ok (.iload_n 2, 1) := by decide +kernel
theorem dX5_read_42 : decode cX5_read 42 = .ok (.sipush 500, 3) := by decide +kernel
theorem dX5_read_45 : decode cX5_read 45 = .ok (.if_icmp .ge 34, 3) := by decide +kernel
theorem dX5_read_48 : decode cX5_read 48 = .ok (.iload_n 2, 1) := by decide +kernel
theorem dX5_read_49 : decode cX5_read 49 = .ok (.bipush 16, 2) := by decide +kernel
theorem dX5_read_51 : decode cX5_read 51 = .ok (.if_icmp .ne 12, 3) := by decide +kernel
theorem dX5_read_54 : decode cX5_read 54 = .ok (.aload_n 0, 1) := by decide +kernel
theorem dX5_read_55 : decode cX5_read 55 = .ok (.iconst 3, 1) := by decide +kernel
theorem dX5_read_56 : decode cX5_read 56 = .ok (.aload_n 0, 1) := by decide +kernel
theorem dX5_read_57 : decode cX5_read 57 = .ok (.getfield 32, 3) := by decide +kernel
theorem dX5_read_60 : decode cX5_read 60 = .ok (.invokevirtual 48, 3) := by decide +kernel
theorem dX5_read_63 : decode cX5_read 63 = .ok (.aload_n 0, 1) := by decide +kernel
theorem dX5_read_64 : decode cX5_read 64 = .ok (.iload_n 2, 1) := by decide +kernel
theorem dX5_read_65 : decode cX5_read 65 = .ok (.invokevirtual 52, 3) := by decide +kernel
theorem dX5_read_68 : decode cX5_read 68 = .ok (.ifCond .ne 5, 3) := by decide +kernel
theorem dX5_read_71 : decode cX5_read 71 = .ok (.iconst 0, 1) := by decide +kernel
theorem dX5_read_72 : decode cX5_read 72 = .ok (.ireturn, 1) := by decide +kernel
theorem dX5_read_73 : decode cX5_read 73 = .ok (.iinc 2 1, 3) := by decide +kernel
theorem dX5_read_76 : decode cX5_read 76 = .ok (.goto (-42), 3) := by decide +kernel
theorem dX5_read_79 : decode cX5_read 79 = .ok (.aload_n 0, 1) := by decide +kernel
theorem dX5_read_80 : decode cX5_read 80 = .ok (.getfield 12, 3) := by decide +kernel
theorem dX5_read_83 : decode cX5_read 83 = .ok (.iload_n 2, 1) := by decide +kernel
theorem dX5_read_84 : decode cX5_read 84 = .ok (.bipush 16, 2) := by decide +kernel
theorem dX5_read_86 : decode cX5_read 86 = .ok (.invokestatic 56, 3) := by decide +kernel
theorem dX5_read_89 : decode cX5_read 89 = .ok (.putfield 42, 3) := by decide +kernel
theorem dX5_read_92 : decode cX5_read 92 = .ok (.aload_n 0, 1) := by decide +kernel
theorem dX5_read_93 : decode cX5_read 93 = .ok (.getfield 18, 3) := by decide +kernel
theorem dX5_read_96 : decode cX5_read 96 = .ok (.ifCond .ne 7, 3) := by decide +kernel
theorem dX5_read_99 : decode cX5_read 99 = .ok (.iconst 1, 1) := by decide +kernel
theorem dX5_read_100 : decode cX5_read 100 = .ok (.goto 4, 3) := by decide +kernel
theorem dX5_read_103 : decode cX5_read 103 = .ok (.iconst 0, 1) := by decide +kernel
theorem dX5_read_104 : decode cX5_read 104 = .ok (.ireturn, 1) := by decide +kernel
theorem dX5_readLine_0 : decode cX5_readLine 0 = .ok (.aload_n 0, 1) := by decide +kernel
theorem dX5_readLine_1 : decode cX5_readLine 1 = .ok (.getfield 12, 3) := by decide +kernel
theorem dX5_readLine_4 : decode cX5_readLine 4 = .ok (.iload_n 1, 1) := by decide +kernel
theorem dX5_readLine_5 : decode cX5_readLine 5 = .ok (.invokevirtual 62, 3) := by decide +kernel
theorem dX5_readLine_8 : decode cX5_readLine 8 = .ok (.aload_n 0, 1) := by decide +kernel
theorem dX5_readLine_9 : decode cX5_readLine 9 = .ok (.ldc 66, 2) := by decide +kernel
theorem dX5_readLine_11 : decode cX5_readLine 11 = .ok (.invokevirtual 68, 3) := by decide +kernel
theorem dX5_readLine_14 : decode cX5_readLine 14 = .ok (.ifCond .ne 13, 3) := by decide +kernel
theorem dX5_readLine_17 : decode cX5_readLine 17 = .ok (.aload_n 0, 1) := by decide +kernel
theorem dX5_readLine_18 : decode cX5_readLine 18 = .ok (.iload_n 1, 1) := by decide +kernel
theorem dX5_readLine_19 : decode cX5_readLine 19 = .ok (.invokevirtual 72, 3) := by decide +kernel
theorem dX5_readLine_22 : decode cX5_readLine 22 = .ok (.ifCond .ne 5, 3) := by decide +kernel
theorem dX5_readLine_25 : decode cX5_readLine 25 = .ok (.iconst 0, 1) := by decide +kernel
theorem dX5_readLine_26 : decode cX5_readLine 26 = .ok (.ireturn, 1) := by decide +kernel
theorem dX5_readLine_27 : decode cX5_readLine 27 = .ok (.aload_n 0, 1) := by decide +kernel
theorem dX5_readLine_28 : decode cX5_readLine 28 = .ok (.iload_n 1, 1) := by decide +kernel
theorem dX5_readLine_29 : decode cX5_readLine 29 = .ok (.invokevirtual 75, 3) := by decide +kernel
theorem dX5_readLine_32 : decode cX5_readLine 32 = .ok (.ifCond .eq 16, 3) := by decide +kernel
theorem dX5_readLine_35 : decode cX5_readLine 35 = .ok (.aload_n 0, 1) := by decide +kernel
theorem dX5_readLine_36 : decode cX5_readLine 36 = .ok (.bipush 59, 2) := by decide +kernel
theorem dX5_readLine_38 : decode cX5_readLine 38 = .ok (.invokevirtual 78, 3) := by decide +kernel
theorem dX5_readLine_41 : decode cX5_readLine 41 = .ok (.ifCond .eq 7, 3) := by decide +kernel
theorem dX5_readLine_44 : decode cX5_readLine 44 = .ok (.iconst 1, 1) := by decide +kernel
theorem dX5_readLine_45 : decode cX5_readLine 45 = .ok (.goto 4, 3) := by decide +kernel
theorem dX5_readLine_48 : decode cX5_readLine 48 = .ok (.iconst 0, 1) := by decide +kernel
theorem dX5_readLine_49 : decode cX5_readLine 49 = .ok (.ireturn, 1) := by decide +kernel
theorem dX5_readTests_0 : decode cX5_readTests 0 = .ok (.iconst 0, 1) := by decide +kernel
theorem dX5_readTests_1 : decode cX5_readTests 1 = .ok (.istore_n 2, 1) := by decide +kernel
theorem dX5_readTests_2 : decode cX5_readTests 2 = .ok (.aload_n 0, 1) := by decide +kernel
theorem dX5_readTests_3 : decode cX5_readTests 3 = .ok (.invokevirtual 45, 3) := by decide +kernel
theorem dX5_readTests_6 : decode cX5_readTests 6 = .ok (.iload_n 2, 1) := by decide +kernel
theorem dX5_readTests_7 : decode cX5_readTests 7 = .ok (.iconst 4, 1) := by decide +kernel
theorem dX5_readTests_8 : decode cX5_readTests 8 = .ok (.if_icmp .ne 12, 3) := by decide +kernel
theorem dX5_readTests_11 : decode cX5_readTests 11 = .ok (.aload_n 0, 1) := by decide +kernel
theorem dX5_readTests_12 : decode cX5_readTests 12 = .ok (.iconst 3, 1) := by decide +kernel
theorem dX5_readTests_13 : decode cX5_readTests 13 = .ok (.aload_n 0, 1) := by decide +kernel
theorem dX5_readTests_14 : decode cX5_readTests 14 = .ok (.getfield 32, 3) := by decide +kernel
theorem dX5_readTests_17 : decode cX5_readTests 17 = .ok (.invokevirtual 48, 3) := by decide +kernel
theorem dX5_readTests_20 : decode cX5_readTests 20 = .ok (.aload_n 0, 1) := by decide +kernel
theorem dX5_readTests_21 : decode cX5_readTests 21 = .ok (.iload_n 1, 1) := by decide +kernel
theorem dX5_readTests_22 : decode cX5_readTests 22 = .ok (.invokevirtual 81, 3) := by decide +kernel
theorem dX5_readTests_25 : decode cX5_readTests 25 = .ok (.ifCond .ne 5, 3) := by decide +kernel
theorem dX5_readTests_28 : decode cX5_readTests 28 = .ok (.iconst 0, 1) := by decide +kernel
theorem dX5_readTests_29 : decode cX5_readTests 29 = .ok (.ireturn, 1) := by decide +kernel
theorem dX5_readTests_30 : decode cX5_readTests 30 = .ok (.iinc 2 1, 3) := by decide +kernel
theorem dX5_readTests_33 : decode cX5_readTests 33 = .ok (.aload_n 0, 1) := by decide +kernel
theorem dX5_readTests_34 : decode cX5_readTests 34 = .ok (.ldc 84, 2) := by decide +kernel
theorem dX5_readTests_36 : decode cX5_readTests 36 = .ok (.invokevirtual 68, 3) := by decide +kernel
theorem dX5_readTests_39 : decode cX5_readTests 39 = .ok (.ifCond .ne 10, 3) := by decide +kernel
theorem dX5_readTests_42 : decode cX5_readTests 42 = .ok (.iload_n 2, 1) := by decide +kernel
theorem dX5_readTests_43 : decode cX5_readTests 43 = .ok (.sipush 500, 3) := by decide +kernel
theorem dX5_readTests_46 : decode cX5_readTests 46 = .ok (.if_icmp .lt (-44), 3) := by decide +kernel
theorem dX5_readTests_49 : decode cX5_readTests 49 = .ok (.aload_n 0, 1) := by decide +kernel
theorem dX5_readTests_50 : decode cX5_readTests 50 = .ok (.bipush 58, 2) := by decide +kernel
theorem dX5_readTests_52 : decode cX5_readTests 52 = .ok (.invokevirtual 78, 3) := by decide +kernel
theorem dX5_readTests_55 : decode cX5_readTests 55 = .ok (.ireturn, 1) := by decide +kernel
theorem dX5_readTest_0 : decode cX5_readTest 0 = .ok (.aload_n 0, 1) := by decide +kernel
theorem dX5_readTest_1 : decode cX5_readTest 1 = .ok (.ldc 86, 2) := by decide +kernel
theorem dX5_readTest_3 : decode cX5_readTest 3 = .ok (.invokevirtual 68, 3) := by decide +kernel
theorem dX5_readTest_6 : decode cX5_readTest 6 = .ok (.ifCond .ne 7, 3) := by decide +kernel
theorem dX5_readTest_9 : decode cX5_readTest 9 = .ok (.iconst 1, 1) := by decide +kernel
theorem dX5_readTest_10 : decode cX5_readTest 10 = .ok (.goto 4, 3) := by decide +kernel
