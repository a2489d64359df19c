theorem dX11_copy_252 : decode cX11_copy 252 = .ok (.getfield 74, 3) := by decide +kernel
theorem dX11_copy_255 : decode cX11_copy 255 = .ok (.bipush 32, 2) := by decide +kernel
theorem dX11_copy_257 : decode cX11_copy 257 = .ok (.iload_n 1, 1) := by decide +kernel
theorem dX11_copy_258 : decode cX11_copy 258 = .ok (.iload_n 2, 1) := by decide +kernel
theorem dX11_copy_259 : decode cX11_copy 259 = .ok (.invokestatic 134, 3) := by decide +kernel
theorem dX11_copy_262 : decode cX11_copy 262 = .ok (.return_, 1) := by decide +kernel
theorem dX11_enter_0 : decode cX11_enter 0 = .ok (.iconst 4, 1) := by decide +kernel
theorem dX11_enter_1 : decode cX11_enter 1 = .ok (.aload_n 0, 1) := by decide +kernel
theorem dX11_enter_2 : decode cX11_enter 2 = .ok (.getfield 32, 3) := by decide +kernel
theorem dX11_enter_5 : decode cX11_enter 5 = .ok (.iconst 0, 1) := by decide +kernel
theorem dX11_enter_6 : decode cX11_enter 6 = .ok (.iaload, 1) := by decide +kernel
theorem dX11_enter_7 : decode cX11_enter 7 = .ok (.imul, 1) := by decide +kernel
theorem dX11_enter_8 : decode cX11_enter 8 = .ok (.istore 4, 2) := by decide +kernel
theorem dX11_enter_10 : decode cX11_enter 10 = .ok (.aload_n 0, 1) := by decide +kernel
theorem dX11_enter_11 : decode cX11_enter 11 = .ok (.getfield 35, 3) := by decide +kernel
theorem dX11_enter_14 : decode cX11_enter 14 = .ok (.iload 4, 2) := by decide +kernel
theorem dX11_enter_16 : decode cX11_enter 16 = .ok (.aload_n 0, 1) := by decide +kernel
theorem dX11_enter_17 : decode cX11_enter 17 = .ok (.getfield 26, 3) := by decide +kernel
theorem dX11_enter_20 : decode cX11_enter 20 = .ok (.iconst 0, 1) := by decide +kernel
theorem dX11_enter_21 : decode cX11_enter 21 = .ok (.iaload, 1) := by decide +kernel
theorem dX11_enter_22 : decode cX11_enter 22 = .ok (.iastore, 1) := by decide +kernel
theorem dX11_enter_23 : decode cX11_enter 23 = .ok (.aload_n 0, 1) := by decide +kernel
theorem dX11_enter_24 : decode cX11_enter 24 = .ok (.getfield 35, 3) := by decide +kernel
theorem dX11_enter_27 : decode cX11_enter 27 = .ok (.iload 4, 2) := by decide +kernel
theorem dX11_enter_29 : decode cX11_enter 29 = .ok (.iconst 1, 1) := by decide +kernel
theorem dX11_enter_30 : decode cX11_enter 30 = .ok (.iadd, 1) := by decide +kernel
theorem dX11_enter_31 : decode cX11_enter 31 = .ok (.iload_n 1, 1) := by decide +kernel
theorem dX11_enter_32 : decode cX11_enter 32 = .ok (.iastore, 1) := by decide +kernel
theorem dX11_enter_33 : decode cX11_enter 33 = .ok (.aload_n 0, 1) := by decide +kernel
theorem dX11_enter_34 : decode cX11_enter 34 = .ok (.getfield 35, 3) := by decide +kernel
theorem dX11_enter_37 : decode cX11_enter 37 = .ok (.iload 4, 2) := by decide +kernel
theorem dX11_enter_39 : decode cX11_enter 39 = .ok (.iconst 2, 1) := by decide +kernel
theorem dX11_enter_40 : decode cX11_enter 40 = .ok (.iadd, 1) := by decide +kernel
theorem dX11_enter_41 : decode cX11_enter 41 = .ok (.iload_n 2, 1) := by decide +kernel
theorem dX11_enter_42 : decode cX11_enter 42 = .ok (.iastore, 1) := by decide +kernel
theorem dX11_enter_43 : decode cX11_enter 43 = .ok (.aload_n 0, 1) := by decide +kernel
theorem dX11_enter_44 : decode cX11_enter 44 = .ok (.getfield 35, 3) := by decide +kernel
theorem dX11_enter_47 : decode cX11_enter 47 = .ok (.iload 4, 2) := by decide +kernel
theorem dX11_enter_49 : decode cX11_enter 49 = .ok (.iconst 3, 1) := by decide +kernel
theorem dX11_enter_50 : decode cX11_enter 50 = .ok (.iadd, 1) := by decide +kernel
theorem dX11_enter_51 : decode cX11_enter 51 = .ok (.iload_n 3, 1) := by decide +kernel
theorem dX11_enter_52 : decode cX11_enter 52 = .ok (.iastore, 1) := by decide +kernel
theorem dX11_enter_53 : decode cX11_enter 53 = .ok (.aload_n 0, 1) := by decide +kernel
theorem dX11_enter_54 : decode cX11_enter 54 = .ok (.getfield 32, 3) := by decide +kernel
theorem dX11_enter_57 : decode cX11_enter 57 = .ok (.iconst 0, 1) := by decide +kernel
theorem dX11_enter_58 : decode cX11_enter 58 = .ok (.dup2, 1) := by decide +kernel
theorem dX11_enter_59 : decode cX11_enter 59 = .ok (.iaload, 1) := by decide +kernel
theorem dX11_enter_60 : decode cX11_enter 60 = .ok (.iconst 1, 1) := by decide +kernel
theorem dX11_enter_61 : decode cX11_enter 61 = .ok (.iadd, 1) := by decide +kernel
theorem dX11_enter_62 : decode cX11_enter 62 = .ok (.iastore, 1) := by decide +kernel
theorem dX11_enter_63 : decode cX11_enter 63 = .ok (.return_, 1) := by decide +kernel
theorem dX11_factOn_0 : decode cX11_factOn 0 = .ok (.iload_n 2, 1) := by decide +kernel
theorem dX11_factOn_1 : decode cX11_factOn 1 = .ok (.iconst 1, 1) := by decide +kernel
theorem dX11_factOn_2 : decode cX11_factOn 2 = .ok (.if_icmp .ne 16, 3) := by decide +kernel
theorem dX11_factOn_5 : decode cX11_factOn 5 = .ok (.aload_n 0, 1) := by decide +kernel
theorem dX11_factOn_6 : decode cX11_factOn 6 = .ok (.getfield 38, 3) := by decide +kernel
theorem dX11_factOn_9 : decode cX11_factOn 9 = .ok (.iconst 3, 1) := by decide +kernel
theorem dX11_factOn_10 : decode cX11_factOn 10 = .ok (.iload_n 1, 1) := by decide +kernel
theorem dX11_factOn_11 : decode cX11_factOn 11 = .ok (.imul, 1) := by decide +kernel
theorem dX11_factOn_12 : decode cX11_factOn 12 = .ok (.iconst 1, 1) := by decide +kernel
theorem dX11_factOn_13 : decode cX11_factOn 13 = .ok (.iadd, 1) := by decide +kernel
theorem dX11_factOn_14 : decode cX11_factOn 14 = .ok (.iaload, 1) := by decide +kernel
theorem dX11_factOn_15 : decode cX11_factOn 15 = .ok (.goto 55, 3) := by decide +kernel
theorem dX11_factOn_18 : decode cX11_factOn 18 = .ok (.iload_n 2, 1) := by decide +kernel
theorem dX11_factOn_19 : decode cX11_factOn 19 = .ok (.iconst 4, 1) := by decide +kernel
theorem dX11_factOn_20 : decode cX11_factOn 20 = .ok (.if_icmp .ne 16, 3) := by decide +kernel
theorem dX11_factOn_23 : decode cX11_factOn 23 = .ok (.aload_n 0, 1) := by decide +kernel
theorem dX11_factOn_24 : decode cX11_factOn 24 = .ok (.getfield 38, 3) := by decide +kernel
theorem dX11_factOn_27 : decode cX11_factOn 27 = .ok (.iconst 3, 1) := by decide +kernel
theorem dX11_factOn_28 : decode cX11_factOn 28 = .ok (.iload_n 1, 1) := by decide +kernel
theorem dX11_factOn_29 : decode cX11_factOn 29 = .ok (.imul, 1) := by decide +kernel
theorem dX11_factOn_30 : decode cX11_factOn 30 = .ok (.iconst 2, 1) := by decide +kernel
theorem dX11_factOn_31 : decode cX11_factOn 31 = .ok (.iadd, 1) := by decide +kernel
theorem dX11_factOn_32 : decode cX11_factOn 32 = .ok (.iaload, 1) := by decide +kernel
theorem dX11_factOn_33 : decode cX11_factOn 33 = .ok (.goto 37, 3) := by decide +kernel
theorem dX11_factOn_36 : decode cX11_factOn 36 = .ok (.iload_n 2, 1) := by decide +kernel
theorem dX11_factOn_37 : decode cX11_factOn 37 = .ok (.iconst 5, 1) := by decide +kernel
theorem dX11_factOn_38 : decode cX11_factOn 38 = .ok (.if_icmp .ne 9, 3) := by decide +kernel
theorem dX11_factOn_41 : decode cX11_factOn 41 = .ok (.sipush (-3000), 3) := by decide +kernel
theorem dX11_factOn_44 : decode cX11_factOn 44 = .ok (.goto 26, 3) := by decide +kernel
theorem dX11_factOn_47 : decode cX11_factOn 47 = .ok (.iload_n 2, 1) := by decide +kernel
theorem dX11_factOn_48 : decode cX11_factOn 48 = .ok (.bipush 6, 2) := by decide +kernel
theorem dX11_factOn_50 : decode cX11_factOn 50 = .ok (.if_icmp .ne 9, 3) := by decide +kernel
theorem dX11_factOn_53 : decode cX11_factOn 53 = .ok (.sipush 1900, 3) := by decide +kernel
theorem dX11_factOn_56 : decode cX11_factOn 56 = .ok (.goto 14, 3) := by decide +kernel
theorem dX11_factOn_59 : decode cX11_factOn 59 = .ok (.iload_n 2, 1) := by decide +kernel
theorem dX11_factOn_60 : decode cX11_factOn 60 = .ok (.bipush 9, 2) := by decide +kernel
theorem dX11_factOn_62 : decode cX11_factOn 62 = .ok (.if_icmp .ne 7, 3) := by decide +kernel
theorem dX11_factOn_65 : decode cX11_factOn 65 = .ok (.iconst 1, 1) := by decide +kernel
theorem dX11_factOn_66 : decode cX11_factOn 66 = .ok (.goto 4, 3) := by decide +kernel
theorem dX11_factOn_69 : decode cX11_factOn 69 = .ok (.iconst 0, 1) := by decide +kernel
theorem dX11_factOn_70 : decode cX11_factOn 70 = .ok (.istore 4, 2) := by decide +kernel
theorem dX11_factOn_72 : decode cX11_factOn 72 = .ok (.iconst 0, 1) := by decide +kernel
theorem dX11_factOn_73 : decode cX11_factOn 73 = .ok (.istore 5, 2) := by decide +kernel
theorem dX11_factOn_75 : decode cX11_factOn 75 = .ok (.iload 5, 2) := by decide +kernel
theorem dX11_factOn_77 : decode cX11_factOn 77 = .ok (.aload_n 0, 1) := by decide +kernel
theorem dX11_factOn_78 : decode cX11_factOn 78 = .ok (.getfield 32, 3) := by decide +kernel
theorem dX11_factOn_81 : decode cX11_factOn 81 = .ok (.iconst 0, 1) := by decide +kernel
theorem dX11_factOn_82 : decode cX11_factOn 82 = .ok (.iaload, 1) := by decide +kernel
theorem dX11_factOn_83 : decode cX11_factOn 83 = .ok (.if_icmp .ge 92, 3) := by decide +kernel
theorem dX11_factOn_86 : decode cX11_factOn 86 = .ok (.iconst 4, 1) := by decide +kernel
theorem dX11_factOn_87 : decode cX11_factOn 87 = .ok (.iload 5, 2) := by decide +kernel
theorem dX11_factOn_89 : decode cX11_factOn 89 = .ok (.imul, 1) := by decide +kernel
theorem dX11_factOn_90 : decode cX11_factOn 90 = .ok (.istore 6, 2) := by decide +kernel
theorem dX11_factOn_92 : decode cX11_factOn 92 = .ok (.aload_n 0, 1) := by decide +kernel
theorem dX11_factOn_93 : decode cX11_factOn 93 = .ok (.getfield 35, 3) := by decide +kernel
theorem dX11_factOn_96 : decode cX11_factOn 96 = .ok (.iload 6, 2) := by decide +kernel
theorem dX11_factOn_98 : decode cX11_factOn 98 = .ok (.iconst 1, 1) := by decide +kernel
theorem dX11_factOn_99 : decode cX11_factOn 99 = .ok (.iadd, 1) := by decide +kernel
theorem dX11_factOn_100 : decode cX11_factOn 100 = .ok (.iaload, 1) := by decide +kernel
theorem dX11_factOn_101 : decode cX11_factOn 101 = .ok (.iload_n 1, 1) := by decide +kernel
theorem dX11_factOn_102 : decode cX11_factOn 102 = .ok (.if_icmp .ne 18, 3) := by decide +kernel
theorem dX11_factOn_105 : decode cX11_factOn 105 = .ok (.aload_n 0, 1) := by decide +kernel
theorem dX11_factOn_106 : decode cX11_factOn 106 = .ok (.getfield 35, 3) := by decide +kernel
theorem dX11_factOn_109 : decode cX11_factOn 109 = .ok (.iload 6, 2) := by decide +kernel
theorem dX11_factOn_111 : decode cX11_factOn 111 = .ok (.iaload, 1) := by decide +kernel
theorem dX11_factOn_112 : decode cX11_factOn 112 = .ok (.iload_n 3, 1) := by decide +kernel
theorem dX11_factOn_113 : decode cX11_factOn 113 = .ok (.if_icmp .gt 7, 3) := by decide +kernel
theorem dX11_factOn_116 : decode cX11_factOn 116 = .ok (.iconst 1, 1) := by decide +kernel
theorem dX11_factOn_117 : decode cX11_factOn 117 = .ok (.goto 4, 3) := by decide +kernel
theorem dX11_factOn_120 : decode cX11_factOn 120 = .ok (.iconst 0, 1) := by decide +kernel
theorem dX11_factOn_121 : decode cX11_factOn 121 = .ok (.istore 7, 2) := by decide +kernel
theorem dX11_factOn_123 : decode cX11_factOn 123 = .ok (.iload 7, 2) := by decide +kernel
theorem dX11_factOn_125 : decode cX11_factOn 125 = .ok (.ifCond .eq 44, 3) := by decide +kernel
theorem dX11_factOn_128 : decode cX11_factOn 128 = .ok (.aload_n 0, 1) := by decide +kernel
theorem dX11_factOn_129 : decode cX11_factOn 129 = .ok (.getfield 35, 3) := by decide +kernel
theorem dX11_factOn_132 : decode cX11_factOn 132 = .ok (.iload 6, 2) := by decide +kernel
theorem dX11_factOn_134 : decode cX11_factOn 134 = .ok (.iconst 2, 1) := by decide +kernel
theorem dX11_factOn_135 : decode cX11_factOn 135 = .ok (.iadd, 1) := by decide +kernel
theorem dX11_factOn_136 : decode cX11_factOn 136 = .ok (.iaload, 1) := by decide +kernel
theorem dX11_factOn_137 : decode cX11_factOn 137 = .ok (.iload_n 2, 1) := by decide +kernel
theorem dX11_factOn_138 : decode cX11_factOn 138 = .ok (.if_icmp .eq 20, 3) := by decide +kernel
theorem dX11_factOn_141 : decode cX11_factOn 141 = .ok (.aload_n 0, 1) := by decide +kernel
theorem dX11_factOn_142 : decode cX11_factOn 142 = .ok (.getfield 35, 3) := by decide +kernel
theorem dX11_factOn_145 : decode cX11_factOn 145 = .ok (.iload 6, 2) := by decide +kernel
theorem dX11_factOn_147 : decode cX11_factOn 147 = .ok (.iconst 2, 1) := by decide +kernel
theorem dX11_factOn_148 : decode cX11_factOn 148 = .ok (.iadd, 1) := by decide +kernel
theorem dX11_factOn_149 : decode cX11_factOn 149 = .ok (.iaload, 1) := by decide +kernel
theorem dX11_factOn_150 : decode cX11_factOn 150 = .ok (.iconst (-1), 1) := by decide +kernel
theorem dX11_factOn_151 : decode cX11_factOn 151 = .ok (.if_icmp .ne 18, 3) := by decide +kernel
theorem dX11_factOn_154 : decode cX11_factOn 154 = .ok (.iload_n 2, 1) := by decide +kernel
theorem dX11_factOn_155 : decode cX11_factOn 155 = .ok (.ifCond .ne 14, 3) := by decide +kernel
theorem dX11_factOn_158 : decode cX11_factOn 158 = .ok (.aload_n 0, 1) := by decide +kernel
theorem dX11_factOn_159 : decode cX11_factOn 159 = .ok (.getfield 35, 3) := by decide +kernel
theorem dX11_factOn_162 : decode cX11_factOn 162 = .ok (.iload 6, 2) := by decide +kernel
theorem dX11_factOn_164 : decode cX11_factOn 164 = .ok (.iconst 3, 1) := by decide +kernel
theorem dX11_factOn_165 : decode cX11_factOn 165 = .ok (.iadd, 1) := by decide +kernel
theorem dX11_factOn_166 : decode cX11_factOn 166 = .ok (.iaload, 1) := by decide +kernel
theorem dX11_factOn_167 : decode cX11_factOn 167 = .ok (.istore 4, 2) := by decide +kernel
theorem dX11_factOn_169 : decode cX11_factOn 169 = .ok (.iinc 5 1, 3) := by decide +kernel
theorem dX11_factOn_172 : decode cX11_factOn 172 = .ok (.goto (-97), 3) := by decide +kernel
theorem dX11_factOn_175 : decode cX11_factOn 175 = .ok (.iload 4, 2) := by decide +kernel
theorem dX11_factOn_177 : decode cX11_factOn 177 = .ok (.ireturn, 1) := by decide +kernel
theorem dX11_dayOfView_0 : decode cX11_dayOfView 0 = .ok (.aload_n 0, 1) := by decide +kernel
theorem dX11_dayOfView_1 : decode cX11_dayOfView 1 = .ok (.getfield 29, 3) := by decide +kernel
theorem dX11_dayOfView_4 : decode cX11_dayOfView 4 = .ok (.iconst 0, 1) := by decide +kernel
theorem dX11_dayOfView_5 : decode cX11_dayOfView 5 = .ok (.iaload, 1) := by decide +kernel
theorem dX11_dayOfView_6 : decode cX11_dayOfView 6 = .ok (.iconst (-1), 1) := by decide +kernel
theorem dX11_dayOfView_7 : decode cX11_dayOfView 7 = .ok (.if_icmp .ne 12, 3) := by decide +kernel
theorem dX11_dayOfView_10 : decode cX11_dayOfView 10 = .ok (.aload_n 0, 1) := by decide +kernel
theorem dX11_dayOfView_11 : decode cX11_dayOfView 11 = .ok (.getfield 26, 3) := by decide +kernel
theorem dX11_dayOfView_14 : decode cX11_dayOfView 14 = .ok (.iconst 0, 1) := by decide +kernel
theorem dX11_dayOfView_15 : decode cX11_dayOfView 15 = .ok (.iaload, 1) := by decide +kernel
theorem dX11_dayOfView_16 : decode cX11_dayOfView 16 = .ok (.goto 9, 3) := by decide +kernel
theorem dX11_dayOfView_19 : decode cX11_dayOfView 19 = .ok (.aload_n 0, 1) := by decide +kernel
theorem dX11_dayOfView_20 : decode cX11_dayOfView 20 = .ok (.getfield 29, 3) := by decide +kernel
theorem dX11_dayOfView_23 : decode cX11_dayOfView 23 = .ok (.iconst 0, 1) := by decide +kernel
theorem dX11_dayOfView_24 : decode cX11_dayOfView 24 = .ok (.iaload, 1) := by decide +kernel
theorem dX11_dayOfView_25 : decode cX11_dayOfView 25 = .ok (.ireturn, 1) := by decide +kernel
theorem dX11_isStone_0 : decode cX11_isStone 0 = .ok (.iload_n 1, 1) := by decide +kernel
theorem dX11_isStone_1 : decode cX11_isStone 1 = .ok (.iconst 0, 1) := by decide +kernel
theorem dX11_isStone_2 : decode cX11_isStone 2 = .ok (.aload_n 0, 1) := by decide +kernel
theorem dX11_isStone_3 : decode cX11_isStone 3 = .ok (.getfield 23, 3) := by decide +kernel
theorem dX11_isStone_6 : decode cX11_isStone 6 = .ok (.iconst 0, 1) := by decide +kernel
theorem dX11_isStone_7 : decode cX11_isStone 7 = .ok (.iaload, 1) := by decide +kernel
theorem dX11_isStone_8 : decode cX11_isStone 8 = .ok (.iconst 1, 1) := by decide +kernel
theorem dX11_isStone_9 : decode cX11_isStone 9 = .ok (.isub, 1) := by decide +kernel
theorem dX11_isStone_10 : decode cX11_isStone 10 = .ok (.invokestatic 138, 3) := by decide +kernel
theorem dX11_isStone_13 : decode cX11_isStone 13 = .ok (.ifCond .eq 22, 3) := by decide +kernel
theorem dX11_isStone_16 : decode cX11_isStone 16 = .ok (.aload_n 0, 1) := by decide +kernel
theorem dX11_isStone_17 : decode cX11_isStone 17 = .ok (.getfield 38, 3) := by decide +kernel
theorem dX11_isStone_20 : decode cX11_isStone 20 = .ok (.iconst 3, 1) := by decide +kernel
theorem dX11_isStone_21 : decode cX11_isStone 21 = .ok (.iload_n 1, 1) := by decide +kernel
theorem dX11_isStone_22 : decode cX11_isStone 22 = .ok (.imul, 1) := by decide +kernel
theorem dX11_isStone_23 : decode cX11_isStone 23 = .ok (.iaload, 1) := by decide +kernel
theorem dX11_isStone_24 : decode cX11_isStone 24 = .ok (.aload_n 0, 1) := by decide +kernel
theorem dX11_isStone_25 : decode cX11_isStone 25 = .ok (.invokevirtual 142, 3) := by decide +kernel
theorem dX11_isStone_28 : decode cX11_isStone 28 = .ok (.if_icmp .gt 7, 3) := by decide +kernel
theorem dX11_isStone_31 : decode cX11_isStone 31 = .ok (.iconst 1, 1) := by decide +kernel
theorem dX11_isStone_32 : decode cX11_isStone 32 = .ok (.goto 4, 3) := by decide +kernel
theorem dX11_isStone_35 : decode cX11_isStone 35 = .ok (.iconst 0, 1) := by decide +kernel
theorem dX11_isStone_36 : decode cX11_isStone 36 = .ok (.ireturn, 1) := by decide +kernel
theorem dX11_stone_0 : decode cX11_stone 0 = .ok (.aload_n 0, 1) := by decide +kernel
theorem dX11_stone_1 : decode cX11_stone 1 = .ok (.iconst 0, 1) := by decide +kernel
theorem dX11_stone_2 : decode cX11_stone 2 = .ok (.putfield 130, 3) := by decide +kernel
theorem dX11_stone_5 : decode cX11_stone 5 = .ok (.aload_n 0, 1) := by decide +kernel
theorem dX11_stone_6 : decode cX11_stone 6 = .ok (.getfield 23, 3) := by decide +kernel
theorem dX11_stone_9 : decode cX11_stone 9 = .ok (.iconst 0, 1) := by decide +kernel
theorem dX11_stone_10 : decode cX11_stone 10 = .ok (.iaload, 1) := by decide +kernel
theorem dX11_stone_11 : decode cX11_stone 11 = .ok (.bipush 32, 2) := by decide +kernel
theorem dX11_stone_13 : decode cX11_stone 13 = .ok (.if_icmp .eq 44, 3) := by decide +kernel
theorem dX11_stone_16 : decode cX11_stone 16 = .ok (.aload_n 0, 1) := by decide +kernel
theorem dX11_stone_17 : decode cX11_stone 17 = .ok (.getfield 32, 3) := by decide +kernel
theorem dX11_stone_20 : decode cX11_stone 20 = .ok (.iconst 0, 1) := by decide +kernel
theorem dX11_stone_21 : decode cX11_stone 21 = .ok (.iaload, 1) := by decide +kernel
theorem dX11_stone_22 : decode cX11_stone 22 = .ok (.sipush 400, 3) := by decide +kernel
theorem dX11_stone_25 : decode cX11_stone 25 = .ok (.if_icmp .eq 32, 3) := by decide +kernel
theorem dX11_stone_28 : decode cX11_stone 28 = .ok (.iload_n 1, 1) := by decide +kernel
theorem dX11_stone_29 : decode cX11_stone 29 = .ok (.iconst 1, 1) := by decide +kernel
theorem dX11_stone_30 : decode cX11_stone 30 = .ok (.sipush 30000, 3) := by decide +kernel
theorem dX11_stone_33 : decode cX11_stone 33 = .ok (.invokestatic 138, 3) := by decide +kernel
theorem dX11_stone_36 : decode cX11_stone 36 = .ok (.ifCond .eq 21, 3) := by decide +kernel
theorem dX11_stone_39 : decode cX11_stone 39 = .ok (.iload_n 2, 1) := by decide +kernel
theorem dX11_stone_40 : decode cX11_stone 40 = .ok (.iconst 0, 1) := by decide +kernel
theorem dX11_stone_41 : decode cX11_stone 41 = .ok (.iconst 4, 1) := by decide +kernel
theorem dX11_stone_42 : decode cX11_stone 42 = .ok (.invokestatic 138, 3) := by decide +kernel
theorem dX11_stone_45 : decode cX11_stone 45 = .ok (.ifCond .eq 12, 3) := by decide +kernel
theorem dX11_stone_48 : decode cX11_stone 48 = .ok (.iload_n 3, 1) := by decide +kernel
theorem dX11_stone_49 : decode cX11_stone 49 = .ok (.iconst 0, 1) := by decide +kernel
theorem dX11_stone_50 : decode cX11_stone 50 = .ok (.iconst 5, 1) := by decide +kernel
theorem dX11_stone_51 : decode cX11_stone 51 = .ok (.invokestatic 138, 3) := by decide +kernel
theorem dX11_stone_54 : decode cX11_stone 54 = .ok (.ifCond .ne 5, 3) := by decide +kernel
theorem dX11_stone_57 : decode cX11_stone 57 = .ok (.iconst (-1), 1) := by decide +kernel
theorem dX11_stone_58 : decode cX11_stone 58 = .ok (.ireturn, 1) := by decide +kernel
theorem dX11_stone_59 : decode cX11_stone 59 = .ok (.aload_n 0, 1) := by decide +kernel
theorem dX11_stone_60 : decode cX11_stone 60 = .ok (.getfield 23, 3) := by decide +kernel
theorem dX11_stone_63 : decode cX11_stone 63 = .ok (.iconst 0, 1) := by decide +kernel
theorem dX11_stone_64 : decode cX11_stone 64 = .ok (.iaload, 1) := by decide +kernel
theorem dX11_stone_65 : decode cX11_stone 65 = .ok (.istore 4, 2) := by decide +kernel
theorem dX11_stone_67 : decode cX11_stone 67 = .ok (.aload_n 0, 1) := by decide +kernel
theorem dX11_stone_68 : decode cX11_stone 68 = .ok (.getfield 38, 3) := by decide +kernel
theorem dX11_stone_71 : decode cX11_stone 71 = .ok (.iconst 3, 1) := by decide +kernel
theorem dX11_stone_72 : decode cX11_stone 72 = .ok (.iload 4, 2) := by decide +kernel
theorem dX11_stone_74 : decode cX11_stone 74 = .ok (.imul, 1) := by decide +kernel
theorem dX11_stone_75 : decode cX11_stone 75 = .ok (.aload_n 0, 1) := by decide +kernel
theorem dX11_stone_76 : decode cX11_stone 76 = .ok (.getfield 26, 3) := by decide +kernel
theorem dX11_stone_79 : decode cX11_stone 79 = .ok (.iconst 0, 1) := by decide +kernel
theorem dX11_stone_80 : decode cX11_stone 80 = .ok (.iaload, 1) := by decide +kernel
theorem dX11_stone_81 : decode cX11_stone 81 = .ok (.iastore, 1) := by decide +kernel
theorem dX11_stone_82 : decode cX11_stone 82 = .ok (.aload_n 0, 1) := by decide +kernel
theorem dX11_stone_83 : decode cX11_stone 83 = .ok (.getfield 38, 3) := by decide +kernel
theorem dX11_stone_86 : decode cX11_stone 86 = .ok (.iconst 3, 1) := by decide +kernel
theorem dX11_stone_87 : decode cX11_stone 87 = .ok (.iload 4, 2) := by decide +kernel
theorem dX11_stone_89 : decode cX11_stone 89 = .ok (.imul, 1) := by decide +kernel
theorem dX11_stone_90 : decode cX11_stone 90 = .ok (.iconst 1, 1) := by decide +kernel
theorem dX11_stone_91 : decode cX11_stone 91 = .ok (.iadd, 1) := by decide +kernel
theorem dX11_stone_92 : decode cX11_stone 92 = .ok (.iload_n 2, 1) := by decide +kernel
theorem dX11_stone_93 : decode cX11_stone 93 = .ok (.iastore, 1) := by decide +kernel
theorem dX11_stone_94 : decode cX11_stone 94 = .ok (.aload_n 0, 1) := by decide +kernel
theorem dX11_stone_95 : decode cX11_stone 95 = .ok (.getfield 38, 3) := by decide +kernel
theorem dX11_stone_98 : decode cX11_stone 98 = .ok (.iconst 3, 1) := by decide +kernel
theorem dX11_stone_99 : decode cX11_stone 99 = .ok (.iload 4, 2) := by decide +kernel
theorem dX11_stone_101 : decode cX11_stone 101 = .ok (.imul, 1) := by decide +kernel
theorem dX11_stone_102 : decode cX11_stone 102 = .ok (.iconst 2, 1) := by decide +kernel
theorem dX11_stone_103 : decode cX11_stone 103 = .ok (.iadd, 1) := by decide +kernel
theorem dX11_stone_104 : decode cX11_stone 104 = .ok (.iload_n 3, 1) := by decide +kernel
theorem dX11_stone_105 : decode cX11_stone 105 = .ok (.iastore, 1) := by decide +kernel
theorem dX11_stone_106 : decode cX11_stone 106 = .ok (.aload_n 0, 1) := by decide +kernel
theorem dX11_stone_107 : decode cX11_stone 107 = .ok (.getfield 23, 3) := by decide +kernel
theorem dX11_stone_110 : decode cX11_stone 110 = .ok (.iconst 0, 1) := by decide +kernel
theorem dX11_stone_111 : decode cX11_stone 111 = .ok (.dup2, 1) := by decide +kernel
theorem dX11_stone_112 : decode cX11_stone 112 = .ok (.iaload, 1) := by decide +kernel
theorem dX11_stone_113 : decode cX11_stone 113 = .ok (.iconst 1, 1) := by decide +kernel
theorem dX11_stone_114 : decode cX11_stone 114 = .ok (.iadd, 1) := by decide +kernel
theorem dX11_stone_115 : decode cX11_stone 115 = .ok (.iastore, 1) := by decide +kernel
theorem dX11_stone_116 : decode cX11_stone 116 = .ok (.aload_n 0, 1) := by decide +kernel
theorem dX11_stone_117 : decode cX11_stone 117 = .ok (.iload 4, 2) := by decide +kernel
theorem dX11_stone_119 : decode cX11_stone 119 = .ok (.iconst (-1), 1) := by decide +kernel
theorem dX11_stone_120 : decode cX11_stone 120 = .ok (.iload_n 1, 1) := by decide +kernel
theorem dX11_stone_121 : decode cX11_stone 121 = .ok (.invokevirtual 146, 3) := by decide +kernel
theorem dX11_stone_124 : decode cX11_stone 124 = .ok (.iload 4, 2) := by decide +kernel
theorem dX11_stone_126 : decode cX11_stone 126 = .ok (.ireturn, 1) := by decide +kernel
theorem dX11_canBe_0 : decode cX11_canBe 0 = .ok (.iload_n 2, 1) := by decide +kernel
theorem dX11_canBe_1 : decode cX11_canBe 1 = .ok (.tableswitch 218 0 10 #[59, 92, 99, 106, 139, 146, 167, 187, 195, 203, 210], 59) := by decide +kernel
theorem dX11_canBe_60 : decode cX11_canBe 60 = .ok (.iload_n 3, 1) := by decide +kernel
theorem dX11_canBe_61 : decode cX11_canBe 61 = .ok (.iconst 1, 1) := by decide +kernel
theorem dX11_canBe_62 : decode cX11_canBe 62 = .ok (.sipush 30000, 3) := by decide +kernel
theorem dX11_canBe_65 : decode cX11_canBe 65 = .ok (.invokestatic 138, 3) := by decide +kernel
theorem dX11_canBe_68 : decode cX11_canBe 68 = .ok (.ifCond .eq 23, 3) := by decide +kernel
theorem dX11_canBe_71 : decode cX11_canBe 71 = .ok (.iload_n 3, 1) := by decide +kernel
theorem dX11_canBe_72 : decode cX11_canBe 72 = .ok (.aload_n 0, 1) := by decide +kernel
theorem dX11_canBe_73 : decode cX11_canBe 73 = .ok (.iload_n 1, 1) := by decide +kernel
theorem dX11_canBe_74 : decode cX11_canBe 74 = .ok (.iconst 3, 1) := by decide +kernel
theorem dX11_canBe_75 : decode cX11_canBe 75 = .ok (.aload_n 0, 1) := by decide +kernel
theorem dX11_canBe_76 : decode cX11_canBe 76 = .ok (.getfield 26, 3) := by decide +kernel
theorem dX11_canBe_79 : decode cX11_canBe 79 = .ok (.iconst 0, 1) := by decide +kernel
theorem dX11_canBe_80 : decode cX11_canBe 80 = .ok (.iaload, 1) := by decide +kernel
theorem dX11_canBe_81 : decode cX11_canBe 81 = .ok (.invokevirtual 150, 3) := by decide +kernel
theorem dX11_canBe_84 : decode cX11_canBe 84 = .ok (.if_icmp .le 7, 3) := by decide +kernel
theorem dX11_canBe_87 : decode cX11_canBe 87 = .ok (.iconst 1, 1) := by decide +kernel
theorem dX11_canBe_88 : decode cX11_canBe 88 = .ok (.goto 4, 3) := by decide +kernel
theorem dX11_canBe_91 : decode cX11_canBe 91 = .ok (.iconst 0, 1) := by decide +kernel
theorem dX11_canBe_92 : decode cX11_canBe 92 = .ok (.ireturn, 1) := by decide +kernel
theorem dX11_canBe_93 : decode cX11_canBe 93 = .ok (.iload_n 3, 1) := by decide +kernel
theorem dX11_canBe_94 : decode cX11_canBe 94 = .ok (.iconst 0, 1) := by decide +kernel
theorem dX11_canBe_95 : decode cX11_canBe 95 = .ok (.iconst 4, 1) := by decide +kernel
theorem dX11_canBe_96 : decode cX11_canBe 96 = .ok (.invokestatic 138, 3) := by decide +kernel
theorem dX11_canBe_99 : decode cX11_canBe 99 = .ok (.ireturn, 1) := by decide +kernel
theorem dX11_canBe_100 : decode cX11_canBe 100 = .ok (.iload_n 3, 1) := by decide +kernel
theorem dX11_canBe_101 : decode cX11_canBe 101 = .ok (.iconst 0, 1) := by decide +kernel
theorem dX11_canBe_102 : decode cX11_canBe 102 = .ok (.iconst 3, 1) := by decide +kernel
theorem dX11_canBe_103 : decode cX11_canBe 103 = .ok (.invokestatic 138, 3) := by decide +kernel
theorem dX11_canBe_106 : decode cX11_canBe 106 = .ok (.ireturn, 1) := by decide +kernel
theorem dX11_canBe_107 : decode cX11_canBe 107 = .ok (.iload_n 3, 1) := by decide +kernel
theorem dX11_canBe_108 : decode cX11_canBe 108 = .ok (.iconst 0, 1) := by decide +kernel
theorem dX11_canBe_109 : decode cX11_canBe 109 = .ok (.sipush 2000, 3) := by decide +kernel
theorem dX11_canBe_112 : decode cX11_canBe 112 = .ok (.invokestatic 138, 3) := by decide +kernel
theorem dX11_canBe_115 : decode cX11_canBe 115 = .ok (.ifCond .eq 23, 3) := by decide +kernel
theorem dX11_canBe_118 : decode cX11_canBe 118 = .ok (.iload_n 3, 1) := by decide +kernel
theorem dX11_canBe_119 : decode cX11_canBe 119 = .ok (.aload_n 0, 1) := by decide +kernel
theorem dX11_canBe_120 : decode cX11_canBe 120 = .ok (.iload_n 1, 1) := by decide +kernel
theorem dX11_canBe_121 : decode cX11_canBe 121 = .ok (.iconst 0, 1) := by decide +kernel
theorem dX11_canBe_122 : decode cX11_canBe 122 = .ok (.aload_n 0, 1) := by decide +kernel
theorem dX11_canBe_123 : decode cX11_canBe 123 = .ok (.getfield 26, 3) := by decide +kernel
theorem dX11_canBe_126 : decode cX11_canBe 126 = .ok (.iconst 0, 1) := by decide +kernel
theorem dX11_canBe_127 : decode cX11_canBe 127 = .ok (.iaload, 1) := by decide +kernel
theorem dX11_canBe_128 : decode cX11_canBe 128 = .ok (.invokevirtual 150, 3) := by decide +kernel
theorem dX11_canBe_131 : decode cX11_canBe 131 = .ok (.if_icmp .ge 7, 3) := by decide +kernel
theorem dX11_canBe_134 : decode cX11_canBe 134 = .ok (.iconst 1, 1) := by decide +kernel
theorem dX11_canBe_135 : decode cX11_canBe 135 = .ok (.goto 4, 3) := by decide +kernel
theorem dX11_canBe_138 : decode cX11_canBe 138 = .ok (.iconst 0, 1) := by decide +kernel
theorem dX11_canBe_139 : decode cX11_canBe 139 = .ok (.ireturn, 1) := by decide +kernel
theorem dX11_canBe_140 : decode cX11_canBe 140 = .ok (.iload_n 3, 1) := by decide +kernel
theorem dX11_canBe_141 : decode cX11_canBe 141 = .ok (.iconst 0, 1) := by decide +kernel
theorem dX11_canBe_142 : decode cX11_canBe 142 = .ok (.iconst 5, 1) := by decide +kernel
theorem dX11_canBe_143 : decode cX11_canBe 143 = .ok (.invokestatic 138, 3) := by decide +kernel
theorem dX11_canBe_146 : decode cX11_canBe 146 = .ok (.ireturn, 1) := by decide +kernel
theorem dX11_canBe_147 : decode cX11_canBe 147 = .ok (.iload_n 3, 1) := by decide +kernel
theorem dX11_canBe_148 : decode cX11_canBe 148 = .ok (.sipush (-3000), 3) := by decide +kernel
theorem dX11_canBe_151 : decode cX11_canBe 151 = .ok (.aload_n 0, 1) := by decide +kernel
theorem dX11_canBe_152 : decode cX11_canBe 152 = .ok (.iload_n 1, 1) := by decide +kernel
theorem dX11_canBe_153 : decode cX11_canBe 153 = .ok (.bipush 6, 2) := by decide +kernel
theorem dX11_canBe_155 : decode cX11_canBe 155 = .ok (.aload_n 0, 1) := by decide +kernel
theorem dX11_canBe_156 : decode cX11_canBe 156 = .ok (.getfield 26, 3) := by decide +kernel
theorem dX11_canBe_159 : decode cX11_canBe 159 = .ok (.iconst 0, 1) := by decide +kernel
theorem dX11_canBe_160 : decode cX11_canBe 160 = .ok (.iaload, 1) := by decide +kernel
theorem dX11_canBe_161 : decode cX11_canBe 161 = .ok (.invokevirtual 150, 3) := by decide +kernel
theorem dX11_canBe_164 : decode cX11_canBe 164 = .ok (.invokestatic 138, 3) := by decide +kernel
theorem dX11_canBe_167 : decode cX11_canBe 167 = .ok (.ireturn, 1) := by decide +kernel
theorem dX11_canBe_168 : decode cX11_canBe 168 = .ok (.iload_n 3, 1) := by decide +kernel
theorem dX11_canBe_169 : decode cX11_canBe 169 = .ok (.aload_n 0, 1) := by decide +kernel
theorem dX11_canBe_170 : decode cX11_canBe 170 = .ok (.iload_n 1, 1) := by decide +kernel
theorem dX11_canBe_171 : decode cX11_canBe 171 = .ok (.iconst 5, 1) := by decide +kernel
theorem dX11_canBe_172 : decode cX11_canBe 172 = .ok (.aload_n 0, 1) := by decide +kernel
theorem dX11_canBe_173 : decode cX11_canBe 173 = .ok (.getfield 26, 3) := by decide +kernel
theorem dX11_canBe_176 : decode cX11_canBe 176 = .ok (.iconst 0, 1) := by decide +kernel
theorem dX11_canBe_177 : decode cX11_canBe 177 = .ok (.iaload, 1) := by decide +kernel
theorem dX11_canBe_178 : decode cX11_canBe 178 = .ok (.invokevirtual 150, 3) := by decide +kernel
theorem dX11_canBe_181 : decode cX11_canBe 181 = .ok (.sipush 1900, 3) := by decide +kernel
theorem dX11_canBe_184 : decode cX11_canBe 184 = .ok (.invokestatic 138, 3) := by decide +kernel
theorem dX11_canBe_187 : decode cX11_canBe 187 = .ok (.ireturn, 1) := by decide +kernel
theorem dX11_canBe_188 : decode cX11_canBe 188 = .ok (.iload_n 3, 1) := by decide +kernel
theorem dX11_canBe_189 : decode cX11_canBe 189 = .ok (.iconst 0, 1) := by decide +kernel
theorem dX11_canBe_190 : decode cX11_canBe 190 = .ok (.bipush 60, 2) := by decide +kernel
theorem dX11_canBe_192 : decode cX11_canBe 192 = .ok (.invokestatic 138, 3) := by decide +kernel
theorem dX11_canBe_195 : decode cX11_canBe 195 = .ok (.ireturn, 1) := by decide +kernel
theorem dX11_canBe_196 : decode cX11_canBe 196 = .ok (.iload_n 3, 1) := by decide +kernel
theorem dX11_canBe_197 : decode cX11_canBe 197 = .ok (.iconst 0, 1) := by decide +kernel
theorem dX11_canBe_198 : decode cX11_canBe 198 = .ok (.bipush 9, 2) := by decide +kernel
theorem dX11_canBe_200 : decode cX11_canBe 200 = .ok (.invokestatic 138, 3) := by decide +kernel
theorem dX11_canBe_203 : decode cX11_canBe 203 = .ok (.ireturn, 1) := by decide +kernel
theorem dX11_canBe_204 : decode cX11_canBe 204 = .ok (.iload_n 3, 1) := by decide +kernel
theorem dX11_canBe_205 : decode cX11_canBe 205 = .ok (.iconst 0, 1) := by decide +kernel
theorem dX11_canBe_206 : decode cX11_canBe 206 = .ok (.iconst 1, 1) := by decide +kernel
theorem dX11_canBe_207 : decode cX11_canBe 207 = .ok (.invokestatic 138, 3) := by decide +kernel
theorem dX11_canBe_210 : decode cX11_canBe 210 = .ok (.ireturn, 1) := by decide +kernel
theorem dX11_canBe_211 : decode cX11_canBe 211 = .ok (.iload_n 3, 1) := by decide +kernel
theorem dX11_canBe_212 : decode cX11_canBe 212 = .ok (.iconst 0, 1) := by decide +kernel
theorem dX11_canBe_213 : decode cX11_canBe 213 = .ok (.bipush 8, 2) := by decide +kernel
theorem dX11_canBe_215 : decode cX11_canBe 215 = .ok (.invokestatic 138, 3) := by decide +kernel
theorem dX11_canBe_218 : decode cX11_canBe 218 = .ok (.ireturn, 1) := by decide +kernel
theorem dX11_canBe_219 : decode cX11_canBe 219 = .ok (.iconst 0, 1) := by decide +kernel
theorem dX11_canBe_220 : decode cX11_canBe 220 = .ok (.ireturn, 1) := by decide +kernel
theorem dX11_tell_0 : decode cX11_tell 0 = .ok (.aload_n 0, 1) := by decide +kernel
theorem dX11_tell_1 : decode cX11_tell 1 = .ok (.iconst 0, 1) := by decide +kernel
theorem dX11_tell_2 : decode cX11_tell 2 = .ok (.putfield 130, 3) := by decide +kernel
theorem dX11_tell_5 : decode cX11_tell 5 = .ok (.iload_n 1, 1) := by decide +kernel
theorem dX11_tell_6 : decode cX11_tell 6 = .ok (.iconst 0, 1) := by decide +kernel
theorem dX11_tell_7 : decode cX11_tell 7 = .ok (.aload_n 0, 1) := by decide +kernel
theorem dX11_tell_8 : decode cX11_tell 8 = .ok (.getfield 23, 3) := by decide +kernel
theorem dX11_tell_11 : decode cX11_tell 11 = .ok (.iconst 0, 1) := by decide +kernel
theorem dX11_tell_12 : decode cX11_tell 12 = .ok (.iaload, 1) := by decide +kernel
theorem dX11_tell_13 : decode cX11_tell 13 = .ok (.iconst 1, 1) := by decide +kernel
theorem dX11_tell_14 : decode cX11_tell 14 = .ok (.isub, 1) := by decide +kernel
theorem dX11_tell_15 : decode cX11_tell 15 = .ok (.invokestatic 138, 3) := by decide +kernel
theorem dX11_tell_18 : decode cX11_tell 18 = .ok (.ifCond .eq 25, 3) := by decide +kernel
theorem dX11_tell_21 : decode cX11_tell 21 = .ok (.aload_n 0, 1) := by decide +kernel
theorem dX11_tell_22 : decode cX11_tell 22 = .ok (.getfield 32, 3) := by decide +kernel
theorem dX11_tell_25 : decode cX11_tell 25 = .ok (.iconst 0, 1) := by decide +kernel
theorem dX11_tell_26 : decode cX11_tell 26 = .ok (.iaload, 1) := by decide +kernel
theorem dX11_tell_27 : decode cX11_tell 27 = .ok (.sipush 400, 3) := by decide +kernel
theorem dX11_tell_30 : decode cX11_tell 30 = .ok (.if_icmp .eq 13, 3) := by decide +kernel
theorem dX11_tell_33 : decode cX11_tell 33 = .ok (.aload_n 0, 1) := by decide +kernel
theorem dX11_tell_34 : decode cX11_tell 34 = .ok (.iload_n 1, 1) := by decide +kernel
theorem dX11_tell_35 : decode cX11_tell 35 = .ok (.iload_n 2, 1) := by decide +kernel
theorem dX11_tell_36 : decode cX11_tell 36 = .ok (.iload_n 3, 1) := by decide +kernel
theorem dX11_tell_37 : decode cX11_tell 37 = .ok (.invokevirtual 154, 3) := by decide +kernel
theorem dX11_tell_40 : decode cX11_tell 40 = .ok (.ifCond .ne 5, 3) := by decide +kernel
theorem dX11_tell_43 : decode cX11_tell 43 = .ok (.iconst 0, 1) := by decide +kernel
theorem dX11_tell_44 : decode cX11_tell 44 = .ok (.ireturn, 1) := by decide +kernel
theorem dX11_tell_45 : decode cX11_tell 45 = .ok (.aload_n 0, 1) := by decide +kernel
theorem dX11_tell_46 : decode cX11_tell 46 = .ok (.iload_n 1, 1) := by decide +kernel
theorem dX11_tell_47 : decode cX11_tell 47 = .ok (.iload_n 2, 1) := by decide +kernel
theorem dX11_tell_48 : decode cX11_tell 48 = .ok (.iload_n 3, 1) := by decide +kernel
theorem dX11_tell_49 : decode cX11_tell 49 = .ok (.invokevirtual 146, 3) := by decide +kernel
theorem dX11_tell_52 : decode cX11_tell 52 = .ok (.iconst 1, 1) := by decide +kernel
theorem dX11_tell_53 : decode cX11_tell 53 = .ok (.ireturn, 1) := by decide +kernel
theorem dX11_day_0 : decode cX11_day 0 = .ok (.aload_n 0, 1) := by decide +kernel
theorem dX11_day_1 : decode cX11_day 1 = .ok (.iconst 0, 1) := by decide +kernel
theorem dX11_day_2 : decode cX11_day 2 = .ok (.putfield 130, 3) := by decide +kernel
theorem dX11_day_5 : decode cX11_day 5 = .ok (.iload_n 1, 1) := by decide +kernel
theorem dX11_day_6 : decode cX11_day 6 = .ok (.aload_n 0, 1) := by decide +kernel
theorem dX11_day_7 : decode cX11_day 7 = .ok (.getfield 26, 3) := by decide +kernel
theorem dX11_day_10 : decode cX11_day 10 = .ok (.iconst 0, 1) := by decide +kernel
theorem dX11_day_11 : decode cX11_day 11 = .ok (.iaload, 1) := by decide +kernel
theorem dX11_day_12 : decode cX11_day 12 = .ok (.sipush 9999, 3) := by decide +kernel
theorem dX11_day_15 : decode cX11_day 15 = .ok (.invokestatic 138, 3) := by decide +kernel
theorem dX11_day_18 : decode cX11_day 18 = .ok (.ifCond .ne 5, 3) := by decide +kernel
theorem dX11_day_21 : decode cX11_day 21 = .ok (.iconst 0, 1) := by decide +kernel
theorem dX11_day_22 : decode cX11_day 22 = .ok (.ireturn, 1) := by decide +kernel
theorem dX11_day_23 : decode cX11_day 23 = .ok (.aload_n 0, 1) := by decide +kernel
theorem dX11_day_24 : decode cX11_day 24 = .ok (.getfield 26, 3) := by decide +kernel
theorem dX11_day_27 : decode cX11_day 27 = .ok (.iconst 0, 1) := by decide +kernel
theorem dX11_day_28 : decode cX11_day 28 = .ok (.iload_n 1, 1) := by decide +kernel
theorem dX11_day_29 : decode cX11_day 29 = .ok (.iastore, 1) := by decide +kernel
theorem dX11_day_30 : decode cX11_day 30 = .ok (.iconst 1, 1) := by decide +kernel
theorem dX11_day_31 : decode cX11_day 31 = .ok (.ireturn, 1) := by decide +kernel
theorem dX11_view_0 : decode cX11_view 0 = .ok (.aload_n 0, 1) := by decide +kernel
theorem dX11_view_1 : decode cX11_view 1 = .ok (.iconst 0, 1) := by decide +kernel
theorem dX11_view_2 : decode cX11_view 2 = .ok (.putfield 130, 3) := by decide +kernel
theorem dX11_view_5 : decode cX11_view 5 = .ok (.iload_n 1, 1) := by decide +kernel
theorem dX11_view_6 : decode cX11_view 6 = .ok (.iconst (-1), 1) := by decide +kernel
theorem dX11_view_7 : decode cX11_view 7 = .ok (.aload_n 0, 1) := by decide +kernel
theorem dX11_view_8 : decode cX11_view 8 = .ok (.getfield 26, 3) := by decide +kernel
theorem dX11_view_11 : decode cX11_view 11 = .ok (.iconst 0, 1) := by decide +kernel
theorem dX11_view_12 : decode cX11_view 12 = .ok (.iaload, 1) := by decide +kernel
theorem dX11_view_13 : decode cX11_view 13 = .ok (.invokestatic 138, 3) := by decide +kernel
theorem dX11_view_16 : decode cX11_view 16 = .ok (.ifCond .ne 5, 3) := by decide +kernel
theorem dX11_view_19 : decode cX11_view 19 = .ok (.iconst 0, 1) := by decide +kernel
theorem dX11_view_20 : decode cX11_view 20 = .ok (.ireturn, 1) := by decide +kernel
theorem dX11_view_21 : decode cX11_view 21 = .ok (.aload_n 0, 1) := by decide +kernel
theorem dX11_view_22 : decode cX11_view 22 = .ok (.getfield 29, 3) := by decide +kernel
theorem dX11_view_25 : decode cX11_view 25 = .ok (.iconst 0, 1) := by decide +kernel
theorem dX11_view_26 : decode cX11_view 26 = .ok (.iload_n 1, 1) := by decide +kernel
theorem dX11_view_27 : decode cX11_view 27 = .ok (.iastore, 1) := by decide +kernel
theorem dX11_view_28 : decode cX11_view 28 = .ok (.iconst 1, 1) := by decide +kernel
theorem dX11_view_29 : decode cX11_view 29 = .ok (.ireturn, 1) := by decide +kernel
theorem dX11_fact_0 : decode cX11_fact 0 = .ok (.aload_n 0, 1) := by decide +kernel
theorem dX11_fact_1 : decode cX11_fact 1 = .ok (.iconst 0, 1) := by decide +kernel
theorem dX11_fact_2 : decode cX11_fact 2 = .ok (.putfield 130, 3) := by decide +kernel
theorem dX11_fact_5 : decode cX11_fact 5 = .ok (.aload_n 0, 1) := by decide +kernel
theorem dX11_fact_6 : decode cX11_fact 6 = .ok (.iload_n 1, 1) := by decide +kernel
theorem dX11_fact_7 : decode cX11_fact 7 = .ok (.invokevirtual 157, 3) := by decide +kernel
theorem dX11_fact_10 : decode cX11_fact 10 = .ok (.ifCond .eq 26, 3) := by decide +kernel
theorem dX11_fact_13 : decode cX11_fact 13 = .ok (.iload_n 2, 1) := by decide +kernel
theorem dX11_fact_14 : decode cX11_fact 14 = .ok (.iconst 0, 1) := by decide +kernel
theorem dX11_fact_15 : decode cX11_fact 15 = .ok (.bipush 10, 2) := by decide +kernel
theorem dX11_fact_17 : decode cX11_fact 17 = .ok (.invokestatic 138, 3) := by decide +kernel
theorem dX11_fact_20 : decode cX11_fact 20 = .ok (.ifCond .eq 16, 3) := by decide +kernel
theorem dX11_fact_23 : decode cX11_fact 23 = .ok (.aload_n 0, 1) := by decide +kernel
theorem dX11_fact_24 : decode cX11_fact 24 = .ok (.iload_n 1, 1) := by decide +kernel
theorem dX11_fact_25 : decode cX11_fact 25 = .ok (.iload_n 2, 1) := by decide +kernel
theorem dX11_fact_26 : decode cX11_fact 26 = .ok (.aload_n 0, 1) := by decide +kernel
theorem dX11_fact_27 : decode cX11_fact 27 = .ok (.invokevirtual 142, 3) := by decide +kernel
theorem dX11_fact_30 : decode cX11_fact 30 = .ok (.invokevirtual 150, 3) := by decide +kernel
theorem dX11_fact_33 : decode cX11_fact 33 = .ok (.goto 5, 3) := by decide +kernel
theorem dX11_fact_36 : decode cX11_fact 36 = .ok (.ldc 161, 2) := by decide +kernel
theorem dX11_fact_38 : decode cX11_fact 38 = .ok (.ireturn, 1) := by decide +kernel
theorem dX11_entry_0 : decode cX11_entry 0 = .ok (.aload_n 0, 1) := by decide +kernel
theorem dX11_entry_1 : decode cX11_entry 1 = .ok (.iconst 0, 1) := by decide +kernel
theorem dX11_entry_2 : decode cX11_entry 2 = .ok (.putfield 130, 3) := by decide +kernel
theorem dX11_entry_5 : decode cX11_entry 5 = .ok (.iload_n 1, 1) := by decide +kernel
theorem dX11_entry_6 : decode cX11_entry 6 = .ok (.iconst 0, 1) := by decide +kernel
theorem dX11_entry_7 : decode cX11_entry 7 = .ok (.aload_n 0, 1) := by decide +kernel
theorem dX11_entry_8 : decode cX11_entry 8 = .ok (.getfield 32, 3) := by decide +kernel
theorem dX11_entry_11 : decode cX11_entry 11 = .ok (.iconst 0, 1) := by decide +kernel
theorem dX11_entry_12 : decode cX11_entry 12 = .ok (.iaload, 1) := by decide +kernel
theorem dX11_entry_13 : decode cX11_entry 13 = .ok (.iconst 1, 1) := by decide +kernel
theorem dX11_entry_14 : decode cX11_entry 14 = .ok (.isub, 1) := by decide +kernel
theorem dX11_entry_15 : decode cX11_entry 15 = .ok (.invokestatic 138, 3) := by decide +kernel
theorem dX11_entry_18 : decode cX11_entry 18 = .ok (.ifCond .eq 25, 3) := by decide +kernel
theorem dX11_entry_21 : decode cX11_entry 21 = .ok (.iload_n 2, 1) := by decide +kernel
theorem dX11_entry_22 : decode cX11_entry 22 = .ok (.iconst 0, 1) := by decide +kernel
theorem dX11_entry_23 : decode cX11_entry 23 = .ok (.iconst 3, 1) := by decide +kernel
theorem dX11_entry_24 : decode cX11_entry 24 = .ok (.invokestatic 138, 3) := by decide +kernel
theorem dX11_entry_27 : decode cX11_entry 27 = .ok (.ifCond .eq 16, 3) := by decide +kernel
theorem dX11_entry_30 : decode cX11_entry 30 = .ok (.aload_n 0, 1) := by decide +kernel
theorem dX11_entry_31 : decode cX11_entry 31 = .ok (.getfield 35, 3) := by decide +kernel
theorem dX11_entry_34 : decode cX11_entry 34 = .ok (.iconst 4, 1) := by decide +kernel
theorem dX11_entry_35 : decode cX11_entry 35 = .ok (.iload_n 1, 1) := by decide +kernel
theorem dX11_entry_36 : decode cX11_entry 36 = .ok (.imul, 1) := by decide +kernel
theorem dX11_entry_37 : decode cX11_entry 37 = .ok (.iload_n 2, 1) := by decide +kernel
theorem dX11_entry_38 : decode cX11_entry 38 = .ok (.iadd, 1) := by decide +kernel
theorem dX11_entry_39 : decode cX11_entry 39 = .ok (.iaload, 1) := by decide +kernel
theorem dX11_entry_40 : decode cX11_entry 40 = .ok (.goto 5, 3) := by decide +kernel
theorem dX11_entry_43 : decode cX11_entry 43 = .ok (.ldc 161, 2) := by decide +kernel
theorem dX11_entry_45 : decode cX11_entry 45 = .ok (.ireturn, 1) := by decide +kernel
theorem dX11_feed_0 : decode cX11_feed 0 = .ok (.aload_n 0, 1) := by decide +kernel
theorem dX11_feed_1 : decode cX11_feed 1 = .ok (.iconst 0, 1) := by decide +kernel
theorem dX11_feed_2 : decode cX11_feed 2 = .ok (.putfield 130, 3) := by decide +kernel
theorem dX11_feed_5 : decode cX11_feed 5 = .ok (.aload_n 0, 1) := by decide +kernel
theorem dX11_feed_6 : decode cX11_feed 6 = .ok (.getfield 13, 3) := by decide +kernel
theorem dX11_feed_9 : decode cX11_feed 9 = .ok (.iconst 0, 1) := by decide +kernel
theorem dX11_feed_10 : decode cX11_feed 10 = .ok (.iaload, 1) := by decide +kernel
theorem dX11_feed_11 : decode cX11_feed 11 = .ok (.bipush 20, 2) := by decide +kernel
theorem dX11_feed_13 : decode cX11_feed 13 = .ok (.iadd, 1) := by decide +kernel
theorem dX11_feed_14 : decode cX11_feed 14 = .ok (.sipush 500, 3) := by decide +kernel
theorem dX11_feed_17 : decode cX11_feed 17 = .ok (.if_icmp .le 5, 3) := by decide +kernel
theorem dX11_feed_20 : decode cX11_feed 20 = .ok (.iconst (-1), 1) := by decide +kernel
theorem dX11_feed_21 : decode cX11_feed 21 = .ok (.ireturn, 1) := by decide +kernel
theorem dX11_feed_22 : decode cX11_feed 22 = .ok (.aload_n 0, 1) := by decide +kernel
theorem dX11_feed_23 : decode cX11_feed 23 = .ok (.iload_n 1, 1) := by decide +kernel
theorem dX11_feed_24 : decode cX11_feed 24 = .ok (.invokevirtual 162, 3) := by decide +kernel
theorem dX11_feed_27 : decode cX11_feed 27 = .ok (.aload_n 0, 1) := by decide +kernel
theorem dX11_feed_28 : decode cX11_feed 28 = .ok (.iload_n 2, 1) := by decide +kernel
theorem dX11_feed_29 : decode cX11_feed 29 = .ok (.invokevirtual 162, 3) := by decide +kernel
theorem dX11_feed_32 : decode cX11_feed 32 = .ok (.aload_n 0, 1) := by decide +kernel
theorem dX11_feed_33 : decode cX11_feed 33 = .ok (.iload_n 3, 1) := by decide +kernel
theorem dX11_feed_34 : decode cX11_feed 34 = .ok (.invokevirtual 162, 3) := by decide +kernel
theorem dX11_feed_37 : decode cX11_feed 37 = .ok (.aload_n 0, 1) := by decide +kernel
theorem dX11_feed_38 : decode cX11_feed 38 = .ok (.iload 4, 2) := by decide +kernel
theorem dX11_feed_40 : decode cX11_feed 40 = .ok (.invokevirtual 162, 3) := by decide +kernel
theorem dX11_feed_43 : decode cX11_feed 43 = .ok (.aload_n 0, 1) := by decide +kernel
theorem dX11_feed_44 : decode cX11_feed 44 = .ok (.iload 5, 2) := by decide +kernel
theorem dX11_feed_46 : decode cX11_feed 46 = .ok (.invokevirtual 162, 3) := by decide +kernel
theorem dX11_feed_49 : decode cX11_feed 49 = .ok (.aload_n 0, 1) := by decide +kernel
theorem dX11_feed_50 : decode cX11_feed 50 = .ok (.getfield 13, 3) := by decide +kernel
theorem dX11_feed_53 : decode cX11_feed 53 = .ok (.iconst 0, 1) := by decide +kernel
theorem dX11_feed_54 : decode cX11_feed 54 = .ok (.iaload, 1) := by decide +kernel
theorem dX11_feed_55 : decode cX11_feed 55 = .ok (.ireturn, 1) := by decide +kernel
theorem dX11_four_0 : decode cX11_four 0 = .ok (.bipush 24, 2) := by decide +kernel
theorem dX11_four_2 : decode cX11_four 2 = .ok (.istore_n 2, 1) := by decide +kernel
theorem dX11_four_3 : decode cX11_four 3 = .ok (.iload_n 2, 1) := by decide +kernel
theorem dX11_four_4 : decode cX11_four 4 = .ok (.ifCond .lt 34, 3) := by decide +kernel
theorem dX11_four_7 : decode cX11_four 7 = .ok (.aload_n 0, 1) := by decide +kernel
theorem dX11_four_8 : decode cX11_four 8 = .ok (.getfield 7, 3) := by decide +kernel
theorem dX11_four_11 : decode cX11_four 11 = .ok (.aload_n 0, 1) := by decide +kernel
theorem dX11_four_12 : decode cX11_four 12 = .ok (.getfield 13, 3) := by decide +kernel
theorem dX11_four_15 : decode cX11_four 15 = .ok (.iconst 0, 1) := by decide +kernel
theorem dX11_four_16 : decode cX11_four 16 = .ok (.iaload, 1) := by decide +kernel
theorem dX11_four_17 : decode cX11_four 17 = .ok (.iload_n 1, 1) := by decide +kernel
theorem dX11_four_18 : decode cX11_four 18 = .ok (.iload_n 2, 1) := by decide +kernel
theorem dX11_four_19 : decode cX11_four 19 = .ok (.ishr, 1) := by decide +kernel
theorem dX11_four_20 : decode cX11_four 20 = .ok (.i2b, 1) := by decide +kernel
theorem dX11_four_21 : decode cX11_four 21 = .ok (.bastore, 1) := by decide +kernel
theorem dX11_four_22 : decode cX11_four 22 = .ok (.aload_n 0, 1) := by decide +kernel
theorem dX11_four_23 : decode cX11_four 23 = .ok (.getfield 13, 3) := by decide +kernel
theorem dX11_four_26 : decode cX11_four 26 = .ok (.iconst 0, 1) := by decide +kernel
theorem dX11_four_27 : decode cX11_four 27 = .ok (.dup2, 1) := by decide +kernel
theorem dX11_four_28 : decode cX11_four 28 = .ok (.iaload, 1) := by decide +kernel
theorem dX11_four_29 : decode cX11_four 29 = .ok (.iconst 1, 1) := by decide +kernel
theorem dX11_four_30 : decode cX11_four 30 = .ok (.iadd, 1) := by decide +kernel
theorem dX11_four_31 : decode cX11_four 31 = .ok (.iastore, 1) := by decide +kernel
theorem dX11_four_32 : decode cX11_four 32 = .ok (.iinc 2 (-8), 3) := by decide +kernel
theorem dX11_four_35 : decode cX11_four 35 = .ok (.goto (-32), 3) := by decide +kernel
theorem dX11_four_38 : decode cX11_four 38 = .ok (.return_, 1) := by decide +kernel
theorem dX11_end_0 : decode cX11_end 0 = .ok (.aload_n 0, 1) := by decide +kernel
theorem dX11_end_1 : decode cX11_end 1 = .ok (.iconst 0, 1) := by decide +kernel
theorem dX11_end_2 : decode cX11_end 2 = .ok (.putfield 130, 3) := by decide +kernel
theorem dX11_end_5 : decode cX11_end 5 = .ok (.iload_n 1, 1) := by decide +kernel
theorem dX11_end_6 : decode cX11_end 6 = .ok (.iconst 0, 1) := by decide +kernel
theorem dX11_end_7 : decode cX11_end 7 = .ok (.aload_n 0, 1) := by decide +kernel
theorem dX11_end_8 : decode cX11_end 8 = .ok (.getfield 13, 3) := by decide +kernel
theorem dX11_end_11 : decode cX11_end 11 = .ok (.iconst 0, 1) := by decide +kernel
theorem dX11_end_12 : decode cX11_end 12 = .ok (.iaload, 1) := by decide +kernel
theorem dX11_end_13 : decode cX11_end 13 = .ok (.invokestatic 138, 3) := by decide +kernel
theorem dX11_end_16 : decode cX11_end 16 = .ok (.ifCond .ne 5, 3) := by decide +kernel
theorem dX11_end_19 : decode cX11_end 19 = .ok (.iconst (-1), 1) := by decide +kernel
theorem dX11_end_20 : decode cX11_end 20 = .ok (.ireturn, 1) := by decide +kernel
theorem dX11_end_21 : decode cX11_end 21 = .ok (.aload_n 0, 1) := by decide +kernel
theorem dX11_end_22 : decode cX11_end 22 = .ok (.getfield 13, 3) := by decide +kernel
theorem dX11_end_25 : decode cX11_end 25 = .ok (.iconst 0, 1) := by decide +kernel
theorem dX11_end_26 : decode cX11_end 26 = .ok (.iload_n 1, 1) := by decide +kernel
theorem dX11_end_27 : decode cX11_end 27 = .ok (.iastore, 1) := by decide +kernel
theorem dX11_end_28 : decode cX11_end 28 = .ok (.iload_n 1, 1) := by decide +kernel
theorem dX11_end_29 : decode cX11_end 29 = .ok (.ireturn, 1) := by decide +kernel
theorem dX11_see_0 : decode cX11_see 0 = .ok (.aload_n 0, 1) := by decide +kernel
theorem dX11_see_1 : decode cX11_see 1 = .ok (.getfield 166, 3) := by decide +kernel
theorem dX11_see_4 : decode cX11_see 4 = .ok (.aload_n 0, 1) := by decide +kernel
theorem dX11_see_5 : decode cX11_see 5 = .ok (.getfield 169, 3) := by decide +kernel
theorem dX11_see_8 : decode cX11_see 8 = .ok (.if_icmp .ge 19, 3) := by decide +kernel
theorem dX11_see_11 : decode cX11_see 11 = .ok (.aload_n 0, 1) := by decide +kernel
theorem dX11_see_12 : decode cX11_see 12 = .ok (.getfield 7, 3) := by decide +kernel
theorem dX11_see_15 : decode cX11_see 15 = .ok (.aload_n 0, 1) := by decide +kernel
theorem dX11_see_16 : decode cX11_see 16 = .ok (.getfield 166, 3) := by decide +kernel
theorem dX11_see_19 : decode cX11_see 19 = .ok (.baload, 1) := by decide +kernel
theorem dX11_see_20 : decode cX11_see 20 = .ok (.sipush 255, 3) := by decide +kernel
theorem dX11_see_23 : decode cX11_see 23 = .ok (.iand, 1) := by decide +kernel
theorem dX11_see_24 : decode cX11_see 24 = .ok (.goto 4, 3) := by decide +kernel
theorem dX11_see_27 : decode cX11_see 27 = .ok (.iconst (-1), 1) := by decide +kernel
theorem dX11_see_28 : decode cX11_see 28 = .ok (.ireturn, 1) := by decide +kernel
theorem dX11_next_0 : decode cX11_next 0 = .ok (.aload_n 0, 1) := by decide +kernel
theorem dX11_next_1 : decode cX11_next 1 = .ok (.invokevirtual 172, 3) := by decide +kernel
theorem dX11_next_4 : decode cX11_next 4 = .ok (.bipush 10, 2) := by decide +kernel
theorem dX11_next_6 : decode cX11_next 6 = .ok (.if_icmp .eq 12, 3) := by decide +kernel
theorem dX11_next_9 : decode cX11_next 9 = .ok (.aload_n 0, 1) := by decide +kernel
theorem dX11_next_10 : decode cX11_next 10 = .ok (.invokevirtual 172, 3) := by decide +kernel
theorem dX11_next_13 : decode cX11_next 13 = .ok (.bipush 32, 2) := by decide +kernel
theorem dX11_next_15 : decode cX11_next 15 = .ok (.if_icmp .ne 16, 3) := by decide +kernel
theorem dX11_next_18 : decode cX11_next 18 = .ok (.aload_n 0, 1) := by decide +kernel
theorem dX11_next_19 : decode cX11_next 19 = .ok (.dup, 1) := by decide +kernel
theorem dX11_next_20 : decode cX11_next 20 = .ok (.getfield 166, 3) := by decide +kernel
theorem dX11_next_23 : decode cX11_next 23 = .ok (.iconst 1, 1) := by decide +kernel
theorem dX11_next_24 : decode cX11_next 24 = .ok (.iadd, 1) := by decide +kernel
theorem dX11_next_25 : decode cX11_next 25 = .ok (.putfield 166, 3) := by decide +kernel
theorem dX11_next_28 : decode cX11_next 28 = .ok (.goto (-28), 3) := by decide +kernel
theorem dX11_next_31 : decode cX11_next 31 = .ok (.aload_n 0, 1) := by decide +kernel
theorem dX11_next_32 : decode cX11_next 32 = .ok (.aload_n 0, 1) := by decide +kernel
theorem dX11_next_33 : decode cX11_next 33 = .ok (.getfield 166, 3) := by decide +kernel
theorem dX11_next_36 : decode cX11_next 36 = .ok (.putfield 175, 3) := by decide +kernel
theorem dX11_next_39 : decode cX11_next 39 = .ok (.aload_n 0, 1) := by decide +kernel
theorem dX11_next_40 : decode cX11_next 40 = .ok (.invokevirtual 172, 3) := by decide +kernel
theorem dX11_next_43 : decode cX11_next 43 = .ok (.istore_n 1, 1) := by decide +kernel
theorem dX11_next_44 : decode cX11_next 44 = .ok (.aload_n 0, 1) := by decide +kernel
theorem dX11_next_45 : decode cX11_next 45 = .ok (.iload_n 1, 1) := by decide +kernel
theorem dX11_next_46 : decode cX11_next 46 = .ok (.putfield 178, 3) := by decide +kernel
theorem dX11_next_49 : decode cX11_next 49 = .ok (.aload_n 0, 1) := by decide +kernel
theorem dX11_next_50 : decode cX11_next 50 = .ok (.lconst 0, 1) := by decide +kernel
theorem dX11_next_51 : decode cX11_next 51 = .ok (.putfield 181, 3) := by decide +kernel
theorem dX11_next_54 : decode cX11_next 54 = .ok (.iconst 0, 1) := by decide +kernel
theorem dX11_next_55 : decode cX11_next 55 = .ok (.istore_n 2, 1) := by decide +kernel
theorem dX11_next_56 : decode cX11_next 56 = .ok (.iload_n 1, 1) := by decide +kernel
theorem dX11_next_57 : decode cX11_next 57 = .ok (.ifCond .ge 11, 3) := by decide +kernel
theorem dX11_next_60 : decode cX11_next 60 = .ok (.aload_n 0, 1) := by decide +kernel
theorem dX11_next_61 : decode cX11_next 61 = .ok (.iconst 0, 1) := by decide +kernel
theorem dX11_next_62 : decode cX11_next 62 = .ok (.putfield 185, 3) := by decide +kernel
theorem dX11_next_65 : decode cX11_next 65 = .ok (.goto 230, 3) := by decide +kernel
theorem dX11_next_68 : decode cX11_next 68 = .ok (.iload_n 1, 1) := by decide +kernel
theorem dX11_next_69 : decode cX11_next 69 = .ok (.bipush 97, 2) := by decide +kernel
theorem dX11_next_71 : decode cX11_next 71 = .ok (.bipush 122, 2) := by decide +kernel
theorem dX11_next_73 : decode cX11_next 73 = .ok (.invokestatic 138, 3) := by decide +kernel
theorem dX11_next_76 : decode cX11_next 76 = .ok (.ifCond .eq 76, 3) := by decide +kernel
theorem dX11_next_79 : decode cX11_next 79 = .ok (.aload_n 0, 1) := by decide +kernel
theorem dX11_next_80 : decode cX11_next 80 = .ok (.invokevirtual 172, 3) := by decide +kernel
theorem dX11_next_83 : decode cX11_next 83 = .ok (.bipush 97, 2) := by decide +kernel
theorem dX11_next_85 : decode cX11_next 85 = .ok (.bipush 122, 2) := by decide +kernel
theorem dX11_next_87 : decode cX11_next 87 = .ok (.invokestatic 138, 3) := by decide +kernel
theorem dX11_next_90 : decode cX11_next 90 = .ok (.ifCond .eq 36, 3) := by decide +kernel
theorem dX11_next_93 : decode cX11_next 93 = .ok (.aload_n 0, 1) := by decide +kernel
theorem dX11_next_94 : decode cX11_next 94 = .ok (.aload_n 0, 1) := by decide +kernel
theorem dX11_next_95 : decode cX11_next 95 = .ok (.getfield 181, 3) := by decide +kernel
theorem dX11_next_98 : decode cX11_next 98 = .ok (.bipush 8, 2) := by decide +kernel
theorem dX11_next_100 : decode cX11_next 100 = .ok (.lshl, 1) := by decide +kernel
theorem dX11_next_101 : decode cX11_next 101 = .ok (.aload_n 0, 1) := by decide +kernel
theorem dX11_next_102 : decode cX11_next 102 = .ok (.invokevirtual 172, 3) := by decide +kernel
theorem dX11_next_105 : decode cX11_next 105 = .ok (.i2l, 1) := by decide +kernel
theorem dX11_next_106 : decode cX11_next 106 = .ok (.lor, 1) := by decide +kernel
theorem dX11_next_107 : decode cX11_next 107 = .ok (.putfield 181, 3) := by decide +kernel
theorem dX11_next_110 : decode cX11_next 110 = .ok (.aload_n 0, 1) := by decide +kernel
theorem dX11_next_111 : decode cX11_next 111 = .ok (.dup, 1) := by decide +kernel
theorem dX11_next_112 : decode cX11_next 112 = .ok (.getfield 166, 3) := by decide +kernel
theorem dX11_next_115 : decode cX11_next 115 = .ok (.iconst 1, 1) := by decide +kernel
theorem dX11_next_116 : decode cX11_next 116 = .ok (.iadd, 1) := by decide +kernel
theorem dX11_next_117 : decode cX11_next 117 = .ok (.putfield 166, 3) := by decide +kernel
theorem dX11_next_120 : decode cX11_next 120 = .ok (.iinc 2 1, 3) := by decide +kernel
theorem dX11_next_123 : decode cX11_next 123 = .ok (.goto (-44), 3) := by decide +kernel
theorem dX11_next_126 : decode cX11_next 126 = .ok (.aload_n 0, 1) := by decide +kernel
theorem dX11_next_127 : decode cX11_next 127 = .ok (.iload_n 2, 1) := by decide +kernel
theorem dX11_next_128 : decode cX11_next 128 = .ok (.bipush 8, 2) := by decide +kernel
theorem dX11_next_130 : decode cX11_next 130 = .ok (.if_icmp .le 7, 3) := by decide +kernel
theorem dX11_next_133 : decode cX11_next 133 = .ok (.lconst 0, 1) := by decide +kernel
theorem dX11_next_134 : decode cX11_next 134 = .ok (.goto 7, 3) := by decide +kernel
theorem dX11_next_137 : decode cX11_next 137 = .ok (.aload_n 0, 1) := by decide +kernel
theorem dX11_next_138 : decode cX11_next 138 = .ok (.getfield 181, 3) := by decide +kernel
theorem dX11_next_141 : decode cX11_next 141 = .ok (.putfield 181, 3) := by decide +kernel
theorem dX11_next_144 : decode cX11_next 144 = .ok (.aload_n 0, 1) := by decide +kernel
theorem dX11_next_145 : decode cX11_next 145 = .ok (.iconst 2, 1) := by decide +kernel
theorem dX11_next_146 : decode cX11_next 146 = .ok (.putfield 185, 3) := by decide +kernel
theorem dX11_next_149 : decode cX11_next 149 = .ok (.goto 146, 3) := by decide +kernel
theorem dX11_next_152 : decode cX11_next 152 = .ok (.iload_n 1, 1) := by decide +kernel
theorem dX11_next_153 : decode cX11_next 153 = .ok (.bipush 48, 2) := by decide +kernel
theorem dX11_next_155 : decode cX11_next 155 = .ok (.bipush 57, 2) := by decide +kernel
theorem dX11_next_157 : decode cX11_next 157 = .ok (.invokestatic 138, 3) := by decide +kernel
theorem dX11_next_160 : decode cX11_next 160 = .ok (.ifCond .eq 86, 3) := by decide +kernel
theorem dX11_next_163 : decode cX11_next 163 = .ok (.aload_n 0, 1) := by decide +kernel
theorem dX11_next_164 : decode cX11_next 164 = .ok (.iconst 0, 1) := by decide +kernel
theorem dX11_next_165 : decode cX11_next 165 = .ok (.putfield 178, 3) := by decide +kernel
theorem dX11_next_168 : decode cX11_next 168 = .ok (.aload_n 0, 1) := by decide +kernel
theorem dX11_next_169 : decode cX11_next 169 = .ok (.invokevirtual 172, 3) := by decide +kernel
theorem dX11_next_172 : decode cX11_next 172 = .ok (.bipush 48, 2) := by decide +kernel
theorem dX11_next_174 : decode cX11_next 174 = .ok (.bipush 57, 2) := by decide +kernel
theorem dX11_next_176 : decode cX11_next 176 = .ok (.invokestatic 138, 3) := by decide +kernel
theorem dX11_next_179 : decode cX11_next 179 = .ok (.ifCond .eq 50, 3) := by decide +kernel
theorem dX11_next_182 : decode cX11_next 182 = .ok (.aload_n 0, 1) := by decide +kernel
theorem dX11_next_183 : decode cX11_next 183 = .ok (.iload_n 2, 1) := by decide +kernel
theorem dX11_next_184 : decode cX11_next 184 = .ok (.iconst 4, 1) := by decide +kernel
theorem dX11_next_185 : decode cX11_next 185 = .ok (.if_icmp .ge 21, 3) := by decide +kernel
theorem dX11_next_188 : decode cX11_next 188 = .ok (.bipush 10, 2) := by decide +kernel
theorem dX11_next_190 : decode cX11_next 190 = .ok (.aload_n 0, 1) := by decide +kernel
theorem dX11_next_191 : decode cX11_next 191 = .ok (.getfield 178, 3) := by decide +kernel
theorem dX11_next_194 : decode cX11_next 194 = .ok (.imul, 1) := by decide +kernel
theorem dX11_next_195 : decode cX11_next 195 = .ok (.aload_n 0, 1) := by decide +kernel
theorem dX11_next_196 : decode cX11_next 196 = .ok (.invokevirtual 172, 3) := by decide +kernel
theorem dX11_next_199 : decode cX11_next 199 = .ok (.iadd, 1) := by decide +kernel
theorem dX11_next_200 : decode cX11_next 200 = .ok (.bipush 48, 2) := by decide +kernel
theorem dX11_next_202 : decode cX11_next 202 = .ok (.isub, 1) := by decide +kernel
theorem dX11_next_203 : decode cX11_next 203 = .ok (.goto 7, 3) := by decide +kernel
theorem dX11_next_206 : decode cX11_next 206 = .ok (.aload_n 0, 1) := by decide +kernel
theorem dX11_next_207 : decode cX11_next 207 = .ok (.getfield 178, 3) := by decide +kernel
theorem dX11_next_210 : decode cX11_next 210 = .ok (.putfield 178, 3) := by decide +kernel
theorem dX11_next_213 : decode cX11_next 213 = .ok (.aload_n 0, 1) := by decide +kernel
theorem dX11_next_214 : decode cX11_next 214 = .ok (.dup, 1) := by decide +kernel
theorem dX11_next_215 : decode cX11_next 215 = .ok (.getfield 166, 3) := by decide +kernel
theorem dX11_next_218 : decode cX11_next 218 = .ok (.iconst 1, 1) := by decide +kernel
theorem dX11_next_219 : decode cX11_next 219 = .ok (.iadd, 1) := by decide +kernel
theorem dX11_next_220 : decode cX11_next 220 = .ok (.putfield 166, 3) := by decide +kernel
theorem dX11_next_223 : decode cX11_next 223 = .ok (.iinc 2 1, 3) := by decide +kernel
theorem dX11_next_226 : decode cX11_next 226 = .ok (.goto (-58), 3) := by decide +kernel
theorem dX11_next_229 : decode cX11_next 229 = .ok (.aload_n 0, 1) := by decide +kernel
theorem dX11_next_230 : decode cX11_next 230 = .ok (.iload_n 2, 1) := by decide +kernel
theorem dX11_next_231 : decode cX11_next 231 = .ok (.iconst 4, 1) := by decide +kernel
theorem dX11_next_232 : decode cX11_next 232 = .ok (.if_icmp .le 7, 3) := by decide +kernel
theorem dX11_next_235 : decode cX11_next 235 = .ok (.iconst 1, 1) := by decide +kernel
theorem dX11_next_236 : decode cX11_next 236 = .ok (.goto 4, 3) := by decide +kernel
theorem dX11_next_239 : decode cX11_next 239 = .ok (.iconst 3, 1) := by decide +kernel
theorem dX11_next_240 : decode cX11_next 240 = .ok (.putfield 185, 3) := by decide +kernel
theorem dX11_next_243 : decode cX11_next 243 = .ok (.goto 52, 3) := by decide +kernel
theorem dX11_next_246 : decode cX11_next 246 = .ok (.aload_n 0, 1) := by decide +kernel
theorem dX11_next_247 : decode cX11_next 247 = .ok (.dup, 1) := by decide +kernel
theorem dX11_next_248 : decode cX11_next 248 = .ok (.getfield 166, 3) := by decide +kernel
theorem dX11_next_251 : decode cX11_next 251 = .ok (.iconst 1, 1) := by decide +kernel
theorem dX11_next_252 : decode cX11_next 252 = .ok (.iadd, 1) := by decide +kernel
theorem dX11_next_253 : decode cX11_next 253 = .ok (.putfield 166, 3) := by decide +kernel
theorem dX11_next_256 : decode cX11_next 256 = .ok (.aload_n 0, 1) := by decide +kernel
theorem dX11_next_257 : decode cX11_next 257 = .ok (.iload_n 1, 1) := by decide +kernel
theorem dX11_next_258 : decode cX11_next 258 = .ok (.bipush 58, 2) := by decide +kernel
theorem dX11_next_260 : decode cX11_next 260 = .ok (.if_icmp .eq 27, 3) := by decide +kernel
theorem dX11_next_263 : decode cX11_next 263 = .ok (.iload_n 1, 1) := by decide +kernel
theorem dX11_next_264 : decode cX11_next 264 = .ok (.bipush 59, 2) := by decide +kernel
theorem dX11_next_266 : decode cX11_next 266 = .ok (.if_icmp .eq 21, 3) := by decide +kernel
theorem dX11_next_269 : decode cX11_next 269 = .ok (.iload_n 1, 1) := by decide +kernel
theorem dX11_next_270 : decode cX11_next 270 = .ok (.bipush 60, 2) := by decide +kernel
theorem dX11_next_272 : decode cX11_next 272 = .ok (.if_icmp .eq 15, 3) := by decide +kernel
theorem dX11_next_275 : decode cX11_next 275 = .ok (.iload_n 1, 1) := by decide +kernel
theorem dX11_next_276 : decode cX11_next 276 = .ok (.bipush 62, 2) := by decide +kernel
theorem dX11_next_278 : decode cX11_next 278 = .ok (.if_icmp .eq 9, 3) := by decide +kernel
theorem dX11_next_281 : decode cX11_next 281 = .ok (.iload_n 1, 1) := by decide +kernel
theorem dX11_next_282 : decode cX11_next 282 = .ok (.bipush 61, 2) := by decide +kernel
theorem dX11_next_284 : decode cX11_next 284 = .ok (.if_icmp .ne 7, 3) := by decide +kernel
theorem dX11_next_287 : decode cX11_next 287 = .ok (.iconst 4, 1) := by decide +kernel
theorem dX11_next_288 : decode cX11_next 288 = .ok (.goto 4, 3) := by decide +kernel
theorem dX11_next_291 : decode cX11_next 291 = .ok (.iconst 1, 1) := by decide +kernel
theorem dX11_next_292 : decode cX11_next 292 = .ok (.putfield 185, 3) := by decide +kernel
theorem dX11_next_295 : decode cX11_next 295 = .ok (.return_, 1) := by decide +kernel
theorem dX11_isWord_0 : decode cX11_isWord 0 = .ok (.aload_n 0, 1) := by decide +kernel
theorem dX11_isWord_1 : decode cX11_isWord 1 = .ok (.getfield 185, 3) := by decide +kernel
theorem dX11_isWord_4 : decode cX11_isWord 4 = .ok (.iconst 2, 1) := by decide +kernel
theorem dX11_isWord_5 : decode cX11_isWord 5 = .ok (.if_icmp .ne 16, 3) := by decide +kernel
theorem dX11_isWord_8 : decode cX11_isWord 8 = .ok (.aload_n 0, 1) := by decide +kernel
theorem dX11_isWord_9 : decode cX11_isWord 9 = .ok (.getfield 181, 3) := by decide +kernel
theorem dX11_isWord_12 : decode cX11_isWord 12 = .ok (.lload_n 1, 1) := by decide +kernel
theorem dX11_isWord_13 : decode cX11_isWord 13 = .ok (.lcmp, 1) := by decide +kernel
theorem dX11_isWord_14 : decode cX11_isWord 14 = .ok (.ifCond .ne 7, 3) := by decide +kernel
theorem dX11_isWord_17 : decode cX11_isWord 17 = .ok (.iconst 1, 1) := by decide +kernel
theorem dX11_isWord_18 : decode cX11_isWord 18 = .ok (.goto 4, 3) := by decide +kernel
theorem dX11_isWord_21 : decode cX11_isWord 21 = .ok (.iconst 0, 1) := by decide +kernel
theorem dX11_isWord_22 : decode cX11_isWord 22 = .ok (.ireturn, 1) := by decide +kernel
theorem dX11_isSign_0 : decode cX11_isSign 0 = .ok (.aload_n 0, 1) := by decide +kernel
theorem dX11_isSign_1 : decode cX11_isSign 1 = .ok (.getfield 185, 3) := by decide +kernel
theorem dX11_isSign_4 : decode cX11_isSign 4 = .ok (.iconst 4, 1) := by decide +kernel
theorem dX11_isSign_5 : decode cX11_isSign 5 = .ok (.if_icmp .ne 15, 3) := by decide +kernel
theorem dX11_isSign_8 : decode cX11_isSign 8 = .ok (.aload_n 0, 1) := by decide +kernel
theorem dX11_isSign_9 : decode cX11_isSign 9 = .ok (.getfield 178, 3) := by decide +kernel
theorem dX11_isSign_12 : decode cX11_isSign 12 = .ok (.iload_n 1, 1) := by decide +kernel
theorem dX11_isSign_13 : decode cX11_isSign 13 = .ok (.if_icmp .ne 7, 3) := by decide +kernel
theorem dX11_isSign_16 : decode cX11_isSign 16 = .ok (.iconst 1, 1) := by decide +kernel
theorem dX11_isSign_17 : decode cX11_isSign 17 = .ok (.goto 4, 3) := by decide +kernel
theorem dX11_isSign_20 : decode cX11_isSign 20 = .ok (.iconst 0, 1) := by decide +kernel
theorem dX11_isSign_21 : decode cX11_isSign 21 = .ok (.ireturn, 1) := by decide +kernel
theorem dX11_wrong_0 : decode cX11_wrong 0 = .ok (.aload_n 0, 1) := by decide +kernel
theorem dX11_wrong_1 : decode cX11_wrong 1 = .ok (.aload_n 0, 1) := by decide +kernel
theorem dX11_wrong_2 : decode cX11_wrong 2 = .ok (.getfield 175, 3) := by decide +kernel
theorem dX11_wrong_5 : decode cX11_wrong 5 = .ok (.putfield 188, 3) := by decide +kernel
theorem dX11_wrong_8 : decode cX11_wrong 8 = .ok (.iconst 0, 1) := by decide +kernel
theorem dX11_wrong_9 : decode cX11_wrong 9 = .ok (.ireturn, 1) := by decide +kernel
theorem dX11_later_0 : decode cX11_later 0 = .ok (.aload_n 0, 1) := by decide +kernel
theorem dX11_later_1 : decode cX11_later 1 = .ok (.getfield 191, 3) := by decide +kernel
theorem dX11_later_4 : decode cX11_later 4 = .ok (.ifCond .ne 13, 3) := by decide +kernel
theorem dX11_later_7 : decode cX11_later 7 = .ok (.aload_n 0, 1) := by decide +kernel
theorem dX11_later_8 : decode cX11_later 8 = .ok (.iload_n 1, 1) := by decide +kernel
theorem dX11_later_9 : decode cX11_later 9 = .ok (.putfield 191, 3) := by decide +kernel
theorem dX11_later_12 : decode cX11_later 12 = .ok (.aload_n 0, 1) := by decide +kernel
theorem dX11_later_13 : decode cX11_later 13 = .ok (.iload_n 2, 1) := by decide +kernel
theorem dX11_later_14 : decode cX11_later 14 = .ok (.putfield 194, 3) := by decide +kernel
theorem dX11_later_17 : decode cX11_later 17 = .ok (.return_, 1) := by decide +kernel
theorem dX11_need_0 : decode cX11_need 0 = .ok (.aload_n 0, 1) := by decide +kernel
theorem dX11_need_1 : decode cX11_need 1 = .ok (.iload_n 1, 1) := by decide +kernel
theorem dX11_need_2 : decode cX11_need 2 = .ok (.invokevirtual 197, 3) := by decide +kernel
theorem dX11_need_5 : decode cX11_need 5 = .ok (.ifCond .ne 8, 3) := by decide +kernel
theorem dX11_need_8 : decode cX11_need 8 = .ok (.aload_n 0, 1) := by decide +kernel
theorem dX11_need_9 : decode cX11_need 9 = .ok (.invokevirtual 200, 3) := by decide +kernel
theorem dX11_need_12 : decode cX11_need 12 = .ok (.ireturn, 1) := by decide +kernel
theorem dX11_need_13 : decode cX11_need 13 = .ok (.aload_n 0, 1) := by decide +kernel
theorem dX11_need_14 : decode cX11_need 14 = .ok (.invokevirtual 204, 3) := by decide +kernel
theorem dX11_need_17 : decode cX11_need 17 = .ok (.iconst 1, 1) := by decide +kernel
theorem dX11_need_18 : decode cX11_need 18 = .ok (.ireturn, 1) := by decide +kernel
theorem dX11_testWord_0 : decode cX11_testWord 0 = .ok (.iload_n 1, 1) := by decide +kernel
theorem dX11_testWord_1 : decode cX11_testWord 1 = .ok (.ifCond .eq 119, 3) := by decide +kernel
theorem dX11_testWord_4 : decode cX11_testWord 4 = .ok (.aload_n 0, 1) := by decide +kernel
theorem dX11_testWord_5 : decode cX11_testWord 5 = .ok (.ldc2_w 207, 3) := by decide +kernel
theorem dX11_testWord_8 : decode cX11_testWord 8 = .ok (.invokevirtual 209, 3) := by decide +kernel
theorem dX11_testWord_11 : decode cX11_testWord 11 = .ok (.ifCond .eq 7, 3) := by decide +kernel
theorem dX11_testWord_14 : decode cX11_testWord 14 = .ok (.iconst 0, 1) := by decide +kernel
theorem dX11_testWord_15 : decode cX11_testWord 15 = .ok (.goto 104, 3) := by decide +kernel
theorem dX11_testWord_18 : decode cX11_testWord 18 = .ok (.aload_n 0, 1) := by decide +kernel
theorem dX11_testWord_19 : decode cX11_testWord 19 = .ok (.ldc2_w 213, 3) := by decide +kernel
theorem dX11_testWord_22 : decode cX11_testWord 22 = .ok (.invokevirtual 209, 3) := by decide +kernel
theorem dX11_testWord_25 : decode cX11_testWord 25 = .ok (.ifCond .eq 7, 3) := by decide +kernel
theorem dX11_testWord_28 : decode cX11_testWord 28 = .ok (.iconst 1, 1) := by decide +kernel
theorem dX11_testWord_29 : decode cX11_testWord 29 = .ok (.goto 90, 3) := by decide +kernel
theorem dX11_testWord_32 : decode cX11_testWord 32 = .ok (.aload_n 0, 1) := by decide +kernel
theorem dX11_testWord_33 : decode cX11_testWord 33 = .ok (.ldc2_w 215, 3) := by decide +kernel
theorem dX11_testWord_36 : decode cX11_testWord 36 = .ok (.invokevirtual 209, 3) := by decide +kernel
theorem dX11_testWord_39 : decode cX11_testWord 39 = .ok (.ifCond .eq 7, 3) := by decide +kernel
theorem dX11_testWord_42 : decode cX11_testWord 42 = .ok (.iconst 2, 1) := by decide +kernel
theorem dX11_testWord_43 : decode cX11_testWord 43 = .ok (.goto 76, 3) := by decide +kernel
theorem dX11_testWord_46 : decode cX11_testWord 46 = .ok (.aload_n 0, 1) := by decide +kernel
theorem dX11_testWord_47 : decode cX11_testWord 47 = .ok (.ldc2_w 217, 3) := by decide +kernel
theorem dX11_testWord_50 : decode cX11_testWord 50 = .ok (.invokevirtual 209, 3) := by decide +kernel
theorem dX11_testWord_53 : decode cX11_testWord 53 = .ok (.ifCond .eq 7, 3) := by decide +kernel
theorem dX11_testWord_56 : decode cX11_testWord 56 = .ok (.iconst 3, 1) := by decide +kernel
theorem dX11_testWord_57 : decode cX11_testWord 57 = .ok (.goto 62, 3) := by decide +kernel
theorem dX11_testWord_60 : decode cX11_testWord 60 = .ok (.aload_n 0, 1) := by decide +kernel
theorem dX11_testWord_61 : decode cX11_testWord 61 = .ok (.ldc2_w 219, 3) := by decide +kernel
theorem dX11_testWord_64 : decode cX11_testWord 64 = .ok (.invokevirtual 209, 3) := by decide +kernel
theorem dX11_testWord_67 : decode cX11_testWord 67 = .ok (.ifCond .eq 7, 3) := by decide +kernel
theorem dX11_testWord_70 : decode cX11_testWord 70 = .ok (.iconst 4, 1) := by decide +kernel
theorem dX11_testWord_71 : decode cX11_testWord 71 = .ok (.goto 48, 3) := by decide +kernel
theorem dX11_testWord_74 : decode cX11_testWord 74 = .ok (.aload_n 0, 1) := by decide +kernel
theorem dX11_testWord_75 : decode cX11_testWord 75 = .ok (.ldc2_w 221, 3) := by decide +kernel
theorem dX11_testWord_78 : decode cX11_testWord 78 = .ok (.invokevirtual 209, 3) := by decide +kernel
theorem dX11_testWord_81 : decode cX11_testWord 81 = .ok (.ifCond .eq 7, 3) := by decide +kernel
theorem dX11_testWord_84 : decode cX11_testWord 84 = .ok (.iconst 5, 1) := by decide +kernel
theorem dX11_testWord_85 : decode cX11_testWord 85 = .ok (.goto 34, 3) := by decide +kernel
theorem dX11_testWord_88 : decode cX11_testWord 88 = .ok (.aload_n 0, 1) := by decide +kernel
theorem dX11_testWord_89 : decode cX11_testWord 89 = .ok (.ldc2_w 223, 3) := by decide +kernel
theorem dX11_testWord_92 : decode cX11_testWord 92 = .ok (.invokevirtual 209, 3) := by decide +kernel
theorem dX11_testWord_95 : decode cX11_testWord 95 = .ok (.ifCond .eq 8, 3) := by decide +kernel
theorem dX11_testWord_98 : decode cX11_testWord 98 = .ok (.bipush 6, 2) := by decide +kernel
theorem dX11_testWord_100 : decode cX11_testWord 100 = .ok (.goto 19, 3) := by decide +kernel
theorem dX11_testWord_103 : decode cX11_testWord 103 = .ok (.aload_n 0, 1) := by decide +kernel
theorem dX11_testWord_104 : decode cX11_testWord 104 = .ok (.ldc2_w 225, 3) := by decide +kernel
theorem dX11_testWord_107 : decode cX11_testWord 107 = .ok (.invokevirtual 209, 3) := by decide +kernel
theorem dX11_testWord_110 : decode cX11_testWord 110 = .ok (.ifCond .eq 8, 3) := by decide +kernel
theorem dX11_testWord_113 : decode cX11_testWord 113 = .ok (.bipush 7, 2) := by decide +kernel
theorem dX11_testWord_115 : decode cX11_testWord 115 = .ok (.goto 4, 3) := by decide +kernel
theorem dX11_testWord_118 : decode cX11_testWord 118 = .ok (.iconst (-1), 1) := by decide +kernel
theorem dX11_testWord_119 : decode cX11_testWord 119 = .ok (.ireturn, 1) := by decide +kernel
theorem dX11_testWord_120 : decode cX11_testWord 120 = .ok (.aload_n 0, 1) := by decide +kernel
theorem dX11_testWord_121 : decode cX11_testWord 121 = .ok (.ldc2_w 227, 3) := by decide +kernel
theorem dX11_testWord_124 : decode cX11_testWord 124 = .ok (.invokevirtual 209, 3) := by decide +kernel
theorem dX11_testWord_127 : decode cX11_testWord 127 = .ok (.ifCond .eq 7, 3) := by decide +kernel
theorem dX11_testWord_130 : decode cX11_testWord 130 = .ok (.iconst 0, 1) := by decide +kernel
theorem dX11_testWord_131 : decode cX11_testWord 131 = .ok (.goto 89, 3) := by decide +kernel
theorem dX11_testWord_134 : decode cX11_testWord 134 = .ok (.aload_n 0, 1) := by decide +kernel
theorem dX11_testWord_135 : decode cX11_testWord 135 = .ok (.ldc2_w 229, 3) := by decide +kernel
theorem dX11_testWord_138 : decode cX11_testWord 138 = .ok (.invokevirtual 209, 3) := by decide +kernel
theorem dX11_testWord_141 : decode cX11_testWord 141 = .ok (.ifCond .eq 7, 3) := by decide +kernel
theorem dX11_testWord_144 : decode cX11_testWord 144 = .ok (.iconst 1, 1) := by decide +kernel
theorem dX11_testWord_145 : decode cX11_testWord 145 = .ok (.goto 75, 3) := by decide +kernel
theorem dX11_testWord_148 : decode cX11_testWord 148 = .ok (.aload_n 0, 1) := by decide +kernel
theorem dX11_testWord_149 : decode cX11_testWord 149 = .ok (.ldc2_w 231, 3) := by decide +kernel
theorem dX11_testWord_152 : decode cX11_testWord 152 = .ok (.invokevirtual 209, 3) := by decide +kernel
theorem dX11_testWord_155 : decode cX11_testWord 155 = .ok (.ifCond .eq 7, 3) := by decide +kernel
theorem dX11_testWord_158 : decode cX11_testWord 158 = .ok (.iconst 2, 1) := by decide +kernel
theorem dX11_testWord_159 : decode cX11_testWord 159 = .ok (.goto 61, 3) := by decide +kernel
theorem dX11_testWord_162 : decode cX11_testWord 162 = .ok (.aload_n 0, 1) := by decide +kernel
theorem dX11_testWord_163 : decode cX11_testWord 163 = .ok (.ldc2_w 233, 3) := by decide +kernel
theorem dX11_testWord_166 : decode cX11_testWord 166 = .ok (.invokevirtual 209, 3) := by decide +kernel
theorem dX11_testWord_169 : decode cX11_testWord 169 = .ok (.ifCond .eq 7, 3) := by decide +kernel
theorem dX11_testWord_172 : decode cX11_testWord 172 = .ok (.iconst 3, 1) := by decide +kernel
theorem dX11_testWord_173 : decode cX11_testWord 173 = .ok (.goto 47, 3) := by decide +kernel
theorem dX11_testWord_176 : decode cX11_testWord 176 = .ok (.aload_n 0, 1) := by decide +kernel
theorem dX11_testWord_177 : decode cX11_testWord 177 = .ok (.ldc2_w 235, 3) := by decide +kernel
theorem dX11_testWord_180 : decode cX11_testWord 180 = .ok (.invokevirtual 209, 3) := by decide +kernel
theorem dX11_testWord_183 : decode cX11_testWord 183 = .ok (.ifCond .eq 7, 3) := by decide +kernel
theorem dX11_testWord_186 : decode cX11_testWord 186 = .ok (.iconst 4, 1) := by decide +kernel
theorem dX11_testWord_187 : decode cX11_testWord 187 = .ok (.goto 33, 3) := by decide +kernel
theorem dX11_testWord_190 : decode cX11_testWord 190 = .ok (.aload_n 0, 1) := by decide +kernel
theorem dX11_testWord_191 : decode cX11_testWord 191 = .ok (.ldc2_w 237, 3) := by decide +kernel
theorem dX11_testWord_194 : decode cX11_testWord 194 = .ok (.invokevirtual 209, 3) := by decide +kernel
theorem dX11_testWord_197 : decode cX11_testWord 197 = .ok (.ifCond .eq 7, 3) := by decide +kernel
theorem dX11_testWord_200 : decode cX11_testWord 200 = .ok (.iconst 5, 1) := by decide +kernel
theorem dX11_testWord_201 : decode cX11_testWord 201 = .ok (.goto 19, 3) := by decide +kernel
theorem dX11_testWord_204 : decode cX11_testWord 204 = .ok (.aload_n 0, 1) := by decide +kernel
theorem dX11_testWord_205 : decode cX11_testWord 205 = .ok (.ldc2_w 239, 3) := by decide +kernel
theorem dX11_testWord_208 : decode cX11_testWord 208 = .ok (.invokevirtual 209, 3) := by decide +kernel
theorem dX11_testWord_211 : decode cX11_testWord 211 = .ok (.ifCond .eq 8, 3) := by decide +kernel
theorem dX11_testWord_214 : decode cX11_testWord 214 = .ok (.bipush 6, 2) := by decide +kernel
theorem dX11_testWord_216 : decode cX11_testWord 216 = .ok (.goto 4, 3) := by decide +kernel
theorem dX11_testWord_219 : decode cX11_testWord 219 = .ok (.iconst (-1), 1) := by decide +kernel
theorem dX11_testWord_220 : decode cX11_testWord 220 = .ok (.ireturn, 1) := by decide +kernel
theorem dX11_actWord_0 : decode cX11_actWord 0 = .ok (.iload_n 1, 1) := by decide +kernel
theorem dX11_actWord_1 : decode cX11_actWord 1 = .ok (.ifCond .eq 61, 3) := by decide +kernel
theorem dX11_actWord_4 : decode cX11_actWord 4 = .ok (.aload_n 0, 1) := by decide +kernel
theorem dX11_actWord_5 : decode cX11_actWord 5 = .ok (.ldc2_w 241, 3) := by decide +kernel
theorem dX11_actWord_8 : decode cX11_actWord 8 = .ok (.invokevirtual 209, 3) := by decide +kernel
theorem dX11_actWord_11 : decode cX11_actWord 11 = .ok (.ifCond .eq 7, 3) := by decide +kernel
theorem dX11_actWord_14 : decode cX11_actWord 14 = .ok (.iconst 0, 1) := by decide +kernel
theorem dX11_actWord_15 : decode cX11_actWord 15 = .ok (.goto 46, 3) := by decide +kernel
theorem dX11_actWord_18 : decode cX11_actWord 18 = .ok (.aload_n 0, 1) := by decide +kernel
theorem dX11_actWord_19 : decode cX11_actWord 19 = .ok (.ldc2_w 243, 3) := by decide +kernel
theorem dX11_actWord_22 : decode cX11_actWord 22 = .ok (.invokevirtual 209, 3) := by decide +kernel
theorem dX11_actWord_25 : decode cX11_actWord 25 = .ok (.ifCond .eq 7, 3) := by decide +kernel
theorem dX11_actWord_28 : decode cX11_actWord 28 = .ok (.iconst 1, 1) := by decide +kernel
theorem dX11_actWord_29 : decode cX11_actWord 29 = .ok (.goto 32, 3) := by decide +kernel
theorem dX11_actWord_32 : decode cX11_actWord 32 = .ok (.aload_n 0, 1) := by decide +kernel
theorem dX11_actWord_33 : decode cX11_actWord 33 = .ok (.ldc2_w 245, 3) := by decide +kernel
theorem dX11_actWord_36 : decode cX11_actWord 36 = .ok (.invokevirtual 209, 3) := by decide +kernel
theorem dX11_actWord_39 : decode cX11_actWord 39 = .ok (.ifCond .eq 7, 3) := by decide +kernel
theorem dX11_actWord_42 : decode cX11_actWord 42 = .ok (.iconst 2, 1) := by decide +kernel
theorem dX11_actWord_43 : decode cX11_actWord 43 = .ok (.goto 18, 3) := by decide +kernel
theorem dX11_actWord_46 : decode cX11_actWord 46 = .ok (.aload_n 0, 1) := by decide +kernel
theorem dX11_actWord_47 : decode cX11_actWord 47 = .ok (.ldc2_w 247, 3) := by decide +kernel
theorem dX11_actWord_50 : decode cX11_actWord 50 = .ok (.invokevirtual 209, 3) := by decide +kernel
theorem dX11_actWord_53 : decode cX11_actWord 53 = .ok (.ifCond .eq 7, 3) := by decide +kernel
theorem dX11_actWord_56 : decode cX11_actWord 56 = .ok (.iconst 3, 1) := by decide +kernel
theorem dX11_actWord_57 : decode cX11_actWord 57 = .ok (.goto 4, 3) := by decide +kernel
theorem dX11_actWord_60 : decode cX11_actWord 60 = .ok (.iconst (-1), 1) := by decide +kernel
theorem dX11_actWord_61 : decode cX11_actWord 61 = .ok (.ireturn, 1) := by decide +kernel
theorem dX11_actWord_62 : decode cX11_actWord 62 = .ok (.aload_n 0, 1) := by decide +kernel
theorem dX11_actWord_63 : decode cX11_actWord 63 = .ok (.ldc2_w 249, 3) := by decide +kernel
theorem dX11_actWord_66 : decode cX11_actWord 66 = .ok (.invokevirtual 209, 3) := by decide +kernel
theorem dX11_actWord_69 : decode cX11_actWord 69 = .ok (.ifCond .eq 7, 3) := by decide +kernel
theorem dX11_actWord_72 : decode cX11_actWord 72 = .ok (.iconst 0, 1) := by decide +kernel
theorem dX11_actWord_73 : decode cX11_actWord 73 = .ok (.goto 32, 3) := by decide +kernel
theorem dX11_actWord_76 : decode cX11_actWord 76 = .ok (.aload_n 0, 1) := by decide +kernel
theorem dX11_actWord_77 : decode cX11_actWord 77 = .ok (.ldc2_w 251, 3) := by decide +kernel
theorem dX11_actWord_80 : decode cX11_actWord 80 = .ok (.invokevirtual 209, 3) := by decide +kernel
theorem dX11_actWord_83 : decode cX11_actWord 83 = .ok (.ifCond .eq 7, 3) := by decide +kernel
theorem dX11_actWord_86 : decode cX11_actWord 86 = .ok (.iconst 1, 1) := by decide +kernel
theorem dX11_actWord_87 : decode cX11_actWord 87 = .ok (.goto 18, 3) := by decide +kernel
theorem dX11_actWord_90 : decode cX11_actWord 90 = .ok (.aload_n 0, 1) := by decide +kernel
theorem dX11_actWord_91 : decode cX11_actWord 91 = .ok (.ldc2_w 253, 3) := by decide +kernel
theorem dX11_actWord_94 : decode cX11_actWord 94 = .ok (.invokevirtual 209, 3) := by decide +kernel
theorem dX11_actWord_97 : decode cX11_actWord 97 = .ok (.ifCond .eq 7, 3) := by decide +kernel
theorem dX11_actWord_100 : decode cX11_actWord 100 = .ok (.iconst 2, 1) := by decide +kernel
theorem dX11_actWord_101 : decode cX11_actWord 101 = .ok (.goto 4, 3) := by decide +kernel
theorem dX11_actWord_104 : decode cX11_actWord 104 = .ok (.iconst (-1), 1) := by decide +kernel
theorem dX11_actWord_105 : decode cX11_actWord 105 = .ok (.ireturn, 1) := by decide +kernel
theorem dX11_test_0 : decode cX11_test 0 = .ok (.iload_n 3, 1) := by decide +kernel
theorem dX11_test_1 : decode cX11_test 1 = .ok (.iconst 4, 1) := by decide +kernel
theorem dX11_test_2 : decode cX11_test 2 = .ok (.if_icmp .ne 12, 3) := by decide +kernel
theorem dX11_test_5 : decode cX11_test 5 = .ok (.aload_n 0, 1) := by decide +kernel
theorem dX11_test_6 : decode cX11_test 6 = .ok (.iconst 3, 1) := by decide +kernel
theorem dX11_test_7 : decode cX11_test 7 = .ok (.aload_n 0, 1) := by decide +kernel
theorem dX11_test_8 : decode cX11_test 8 = .ok (.getfield 175, 3) := by decide +kernel
theorem dX11_test_11 : decode cX11_test 11 = .ok (.invokevirtual 255, 3) := by decide +kernel
theorem dX11_test_14 : decode cX11_test 14 = .ok (.aload_n 0, 1) := by decide +kernel
theorem dX11_test_15 : decode cX11_test 15 = .ok (.ldc2_w 259, 3) := by decide +kernel
theorem dX11_test_18 : decode cX11_test 18 = .ok (.invokevirtual 209, 3) := by decide +kernel
theorem dX11_test_21 : decode cX11_test 21 = .ok (.istore 4, 2) := by decide +kernel
theorem dX11_test_23 : decode cX11_test 23 = .ok (.iload 4, 2) := by decide +kernel
theorem dX11_test_25 : decode cX11_test 25 = .ok (.ifCond .eq 7, 3) := by decide +kernel
theorem dX11_test_28 : decode cX11_test 28 = .ok (.aload_n 0, 1) := by decide +kernel
theorem dX11_test_29 : decode cX11_test 29 = .ok (.invokevirtual 204, 3) := by decide +kernel
theorem dX11_test_32 : decode cX11_test 32 = .ok (.aload_n 0, 1) := by decide +kernel
theorem dX11_test_33 : decode cX11_test 33 = .ok (.iload_n 1, 1) := by decide +kernel
theorem dX11_test_34 : decode cX11_test 34 = .ok (.invokevirtual 261, 3) := by decide +kernel
theorem dX11_test_37 : decode cX11_test 37 = .ok (.istore 5, 2) := by decide +kernel
theorem dX11_test_39 : decode cX11_test 39 = .ok (.iload 5, 2) := by decide +kernel
theorem dX11_test_41 : decode cX11_test 41 = .ok (.iconst (-1), 1) := by decide +kernel
theorem dX11_test_42 : decode cX11_test 42 = .ok (.if_icmp .ne 8, 3) := by decide +kernel
theorem dX11_test_45 : decode cX11_test 45 = .ok (.aload_n 0, 1) := by decide +kernel
theorem dX11_test_46 : decode cX11_test 46 = .ok (.invokevirtual 200, 3) := by decide +kernel
theorem dX11_test_49 : decode cX11_test 49 = .ok (.ireturn, 1) := by decide +kernel
theorem dX11_test_50 : decode cX11_test 50 = .ok (.aload_n 0, 1) := by decide +kernel
theorem dX11_test_51 : decode cX11_test 51 = .ok (.invokevirtual 204, 3) := by decide +kernel
theorem dX11_test_54 : decode cX11_test 54 = .ok (.aload_n 0, 1) := by decide +kernel
theorem dX11_test_55 : decode cX11_test 55 = .ok (.getfield 178, 3) := by decide +kernel
theorem dX11_test_58 : decode cX11_test 58 = .ok (.istore 6, 2) := by decide +kernel
theorem dX11_test_60 : decode cX11_test 60 = .ok (.aload_n 0, 1) := by decide +kernel
theorem dX11_test_61 : decode cX11_test 61 = .ok (.getfield 185, 3) := by decide +kernel
theorem dX11_test_64 : decode cX11_test 64 = .ok (.iconst 4, 1) := by decide +kernel
theorem dX11_test_65 : decode cX11_test 65 = .ok (.if_icmp .ne 24, 3) := by decide +kernel
theorem dX11_test_68 : decode cX11_test 68 = .ok (.iload 6, 2) := by decide +kernel
theorem dX11_test_70 : decode cX11_test 70 = .ok (.bipush 60, 2) := by decide +kernel
theorem dX11_test_72 : decode cX11_test 72 = .ok (.if_icmp .eq 22, 3) := by decide +kernel
theorem dX11_test_75 : decode cX11_test 75 = .ok (.iload 6, 2) := by decide +kernel
theorem dX11_test_77 : decode cX11_test 77 = .ok (.bipush 62, 2) := by decide +kernel
theorem dX11_test_79 : decode cX11_test 79 = .ok (.if_icmp .eq 15, 3) := by decide +kernel
theorem dX11_test_82 : decode cX11_test 82 = .ok (.iload 6, 2) := by decide +kernel
theorem dX11_test_84 : decode cX11_test 84 = .ok (.bipush 61, 2) := by decide +kernel
theorem dX11_test_86 : decode cX11_test 86 = .ok (.if_icmp .eq 8, 3) := by decide +kernel
theorem dX11_test_89 : decode cX11_test 89 = .ok (.aload_n 0, 1) := by decide +kernel
theorem dX11_test_90 : decode cX11_test 90 = .ok (.invokevirtual 200, 3) := by decide +kernel
theorem dX11_test_93 : decode cX11_test 93 = .ok (.ireturn, 1) := by decide +kernel
theorem dX11_test_94 : decode cX11_test 94 = .ok (.aload_n 0, 1) := by decide +kernel
theorem dX11_test_95 : decode cX11_test 95 = .ok (.invokevirtual 204, 3) := by decide +kernel
theorem dX11_test_98 : decode cX11_test 98 = .ok (.aload_n 0, 1) := by decide +kernel
theorem dX11_test_99 : decode cX11_test 99 = .ok (.getfield 185, 3) := by decide +kernel
theorem dX11_test_102 : decode cX11_test 102 = .ok (.iconst 3, 1) := by decide +kernel
theorem dX11_test_103 : decode cX11_test 103 = .ok (.if_icmp .eq 8, 3) := by decide +kernel
theorem dX11_test_106 : decode cX11_test 106 = .ok (.aload_n 0, 1) := by decide +kernel
theorem dX11_test_107 : decode cX11_test 107 = .ok (.invokevirtual 200, 3) := by decide +kernel
theorem dX11_test_110 : decode cX11_test 110 = .ok (.ireturn, 1) := by decide +kernel
theorem dX11_test_111 : decode cX11_test 111 = .ok (.aload_n 0, 1) := by decide +kernel
theorem dX11_test_112 : decode cX11_test 112 = .ok (.getfield 178, 3) := by decide +kernel
theorem dX11_test_115 : decode cX11_test 115 = .ok (.istore 7, 2) := by decide +kernel
theorem dX11_test_117 : decode cX11_test 117 = .ok (.aload_n 0, 1) := by decide +kernel
