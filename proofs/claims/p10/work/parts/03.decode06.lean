theorem dX11_test_118 : decode cX11_test 118 = .ok (.invokevirtual 204, 3) := by decide +kernel
theorem dX11_test_121 : decode cX11_test 121 = .ok (.iload_n 3, 1) := by decide +kernel
theorem dX11_test_122 : decode cX11_test 122 = .ok (.iconst 4, 1) := by decide +kernel
theorem dX11_test_123 : decode cX11_test 123 = .ok (.if_icmp .ge 65, 3) := by decide +kernel
theorem dX11_test_126 : decode cX11_test 126 = .ok (.iload_n 2, 1) := by decide +kernel
theorem dX11_test_127 : decode cX11_test 127 = .ok (.bipush 16, 2) := by decide +kernel
theorem dX11_test_129 : decode cX11_test 129 = .ok (.if_icmp .ge 59, 3) := by decide +kernel
theorem dX11_test_132 : decode cX11_test 132 = .ok (.iconst 4, 1) := by decide +kernel
theorem dX11_test_133 : decode cX11_test 133 = .ok (.iload_n 2, 1) := by decide +kernel
theorem dX11_test_134 : decode cX11_test 134 = .ok (.imul, 1) := by decide +kernel
theorem dX11_test_135 : decode cX11_test 135 = .ok (.iload_n 3, 1) := by decide +kernel
theorem dX11_test_136 : decode cX11_test 136 = .ok (.iadd, 1) := by decide +kernel
theorem dX11_test_137 : decode cX11_test 137 = .ok (.istore 8, 2) := by decide +kernel
theorem dX11_test_139 : decode cX11_test 139 = .ok (.aload_n 0, 1) := by decide +kernel
theorem dX11_test_140 : decode cX11_test 140 = .ok (.getfield 80, 3) := by decide +kernel
theorem dX11_test_143 : decode cX11_test 143 = .ok (.iload 8, 2) := by decide +kernel
theorem dX11_test_145 : decode cX11_test 145 = .ok (.iload 4, 2) := by decide +kernel
theorem dX11_test_147 : decode cX11_test 147 = .ok (.ifCond .eq 11, 3) := by decide +kernel
theorem dX11_test_150 : decode cX11_test 150 = .ok (.iload 5, 2) := by decide +kernel
theorem dX11_test_152 : decode cX11_test 152 = .ok (.bipush 8, 2) := by decide +kernel
theorem dX11_test_154 : decode cX11_test 154 = .ok (.iadd, 1) := by decide +kernel
theorem dX11_test_155 : decode cX11_test 155 = .ok (.goto 5, 3) := by decide +kernel
theorem dX11_test_158 : decode cX11_test 158 = .ok (.iload 5, 2) := by decide +kernel
theorem dX11_test_160 : decode cX11_test 160 = .ok (.iastore, 1) := by decide +kernel
theorem dX11_test_161 : decode cX11_test 161 = .ok (.aload_n 0, 1) := by decide +kernel
theorem dX11_test_162 : decode cX11_test 162 = .ok (.getfield 83, 3) := by decide +kernel
theorem dX11_test_165 : decode cX11_test 165 = .ok (.iload 8, 2) := by decide +kernel
theorem dX11_test_167 : decode cX11_test 167 = .ok (.iload 6, 2) := by decide +kernel
theorem dX11_test_169 : decode cX11_test 169 = .ok (.iastore, 1) := by decide +kernel
theorem dX11_test_170 : decode cX11_test 170 = .ok (.aload_n 0, 1) := by decide +kernel
theorem dX11_test_171 : decode cX11_test 171 = .ok (.getfield 86, 3) := by decide +kernel
theorem dX11_test_174 : decode cX11_test 174 = .ok (.iload 8, 2) := by decide +kernel
theorem dX11_test_176 : decode cX11_test 176 = .ok (.iload 7, 2) := by decide +kernel
theorem dX11_test_178 : decode cX11_test 178 = .ok (.iastore, 1) := by decide +kernel
theorem dX11_test_179 : decode cX11_test 179 = .ok (.aload_n 0, 1) := by decide +kernel
theorem dX11_test_180 : decode cX11_test 180 = .ok (.getfield 77, 3) := by decide +kernel
theorem dX11_test_183 : decode cX11_test 183 = .ok (.iload_n 2, 1) := by decide +kernel
theorem dX11_test_184 : decode cX11_test 184 = .ok (.iload_n 3, 1) := by decide +kernel
theorem dX11_test_185 : decode cX11_test 185 = .ok (.iconst 1, 1) := by decide +kernel
theorem dX11_test_186 : decode cX11_test 186 = .ok (.iadd, 1) := by decide +kernel
theorem dX11_test_187 : decode cX11_test 187 = .ok (.iastore, 1) := by decide +kernel
theorem dX11_test_188 : decode cX11_test 188 = .ok (.iconst 1, 1) := by decide +kernel
theorem dX11_test_189 : decode cX11_test 189 = .ok (.ireturn, 1) := by decide +kernel
theorem dX11_numbers_0 : decode cX11_numbers 0 = .ok (.aload_n 0, 1) := by decide +kernel
theorem dX11_numbers_1 : decode cX11_numbers 1 = .ok (.getfield 185, 3) := by decide +kernel
theorem dX11_numbers_4 : decode cX11_numbers 4 = .ok (.iconst 3, 1) := by decide +kernel
theorem dX11_numbers_5 : decode cX11_numbers 5 = .ok (.if_icmp .eq 8, 3) := by decide +kernel
theorem dX11_numbers_8 : decode cX11_numbers 8 = .ok (.aload_n 0, 1) := by decide +kernel
theorem dX11_numbers_9 : decode cX11_numbers 9 = .ok (.invokevirtual 200, 3) := by decide +kernel
theorem dX11_numbers_12 : decode cX11_numbers 12 = .ok (.ireturn, 1) := by decide +kernel
theorem dX11_numbers_13 : decode cX11_numbers 13 = .ok (.aload_n 0, 1) := by decide +kernel
theorem dX11_numbers_14 : decode cX11_numbers 14 = .ok (.getfield 92, 3) := by decide +kernel
theorem dX11_numbers_17 : decode cX11_numbers 17 = .ok (.iload_n 1, 1) := by decide +kernel
theorem dX11_numbers_18 : decode cX11_numbers 18 = .ok (.aload_n 0, 1) := by decide +kernel
theorem dX11_numbers_19 : decode cX11_numbers 19 = .ok (.getfield 178, 3) := by decide +kernel
theorem dX11_numbers_22 : decode cX11_numbers 22 = .ok (.iastore, 1) := by decide +kernel
theorem dX11_numbers_23 : decode cX11_numbers 23 = .ok (.aload_n 0, 1) := by decide +kernel
theorem dX11_numbers_24 : decode cX11_numbers 24 = .ok (.getfield 95, 3) := by decide +kernel
theorem dX11_numbers_27 : decode cX11_numbers 27 = .ok (.iload_n 1, 1) := by decide +kernel
theorem dX11_numbers_28 : decode cX11_numbers 28 = .ok (.aload_n 0, 1) := by decide +kernel
theorem dX11_numbers_29 : decode cX11_numbers 29 = .ok (.getfield 178, 3) := by decide +kernel
theorem dX11_numbers_32 : decode cX11_numbers 32 = .ok (.iastore, 1) := by decide +kernel
theorem dX11_numbers_33 : decode cX11_numbers 33 = .ok (.aload_n 0, 1) := by decide +kernel
theorem dX11_numbers_34 : decode cX11_numbers 34 = .ok (.invokevirtual 204, 3) := by decide +kernel
theorem dX11_numbers_37 : decode cX11_numbers 37 = .ok (.aload_n 0, 1) := by decide +kernel
theorem dX11_numbers_38 : decode cX11_numbers 38 = .ok (.ldc2_w 265, 3) := by decide +kernel
theorem dX11_numbers_41 : decode cX11_numbers 41 = .ok (.invokevirtual 209, 3) := by decide +kernel
theorem dX11_numbers_44 : decode cX11_numbers 44 = .ok (.ifCond .eq 56, 3) := by decide +kernel
theorem dX11_numbers_47 : decode cX11_numbers 47 = .ok (.aload_n 0, 1) := by decide +kernel
theorem dX11_numbers_48 : decode cX11_numbers 48 = .ok (.invokevirtual 204, 3) := by decide +kernel
theorem dX11_numbers_51 : decode cX11_numbers 51 = .ok (.aload_n 0, 1) := by decide +kernel
theorem dX11_numbers_52 : decode cX11_numbers 52 = .ok (.getfield 185, 3) := by decide +kernel
theorem dX11_numbers_55 : decode cX11_numbers 55 = .ok (.iconst 3, 1) := by decide +kernel
theorem dX11_numbers_56 : decode cX11_numbers 56 = .ok (.if_icmp .eq 8, 3) := by decide +kernel
theorem dX11_numbers_59 : decode cX11_numbers 59 = .ok (.aload_n 0, 1) := by decide +kernel
theorem dX11_numbers_60 : decode cX11_numbers 60 = .ok (.invokevirtual 200, 3) := by decide +kernel
theorem dX11_numbers_63 : decode cX11_numbers 63 = .ok (.ireturn, 1) := by decide +kernel
theorem dX11_numbers_64 : decode cX11_numbers 64 = .ok (.aload_n 0, 1) := by decide +kernel
theorem dX11_numbers_65 : decode cX11_numbers 65 = .ok (.getfield 178, 3) := by decide +kernel
theorem dX11_numbers_68 : decode cX11_numbers 68 = .ok (.aload_n 0, 1) := by decide +kernel
theorem dX11_numbers_69 : decode cX11_numbers 69 = .ok (.getfield 92, 3) := by decide +kernel
theorem dX11_numbers_72 : decode cX11_numbers 72 = .ok (.iload_n 1, 1) := by decide +kernel
theorem dX11_numbers_73 : decode cX11_numbers 73 = .ok (.iaload, 1) := by decide +kernel
theorem dX11_numbers_74 : decode cX11_numbers 74 = .ok (.if_icmp .ge 12, 3) := by decide +kernel
theorem dX11_numbers_77 : decode cX11_numbers 77 = .ok (.aload_n 0, 1) := by decide +kernel
theorem dX11_numbers_78 : decode cX11_numbers 78 = .ok (.iconst 2, 1) := by decide +kernel
theorem dX11_numbers_79 : decode cX11_numbers 79 = .ok (.aload_n 0, 1) := by decide +kernel
theorem dX11_numbers_80 : decode cX11_numbers 80 = .ok (.getfield 175, 3) := by decide +kernel
theorem dX11_numbers_83 : decode cX11_numbers 83 = .ok (.invokevirtual 255, 3) := by decide +kernel
theorem dX11_numbers_86 : decode cX11_numbers 86 = .ok (.aload_n 0, 1) := by decide +kernel
theorem dX11_numbers_87 : decode cX11_numbers 87 = .ok (.getfield 95, 3) := by decide +kernel
theorem dX11_numbers_90 : decode cX11_numbers 90 = .ok (.iload_n 1, 1) := by decide +kernel
theorem dX11_numbers_91 : decode cX11_numbers 91 = .ok (.aload_n 0, 1) := by decide +kernel
theorem dX11_numbers_92 : decode cX11_numbers 92 = .ok (.getfield 178, 3) := by decide +kernel
theorem dX11_numbers_95 : decode cX11_numbers 95 = .ok (.iastore, 1) := by decide +kernel
theorem dX11_numbers_96 : decode cX11_numbers 96 = .ok (.aload_n 0, 1) := by decide +kernel
theorem dX11_numbers_97 : decode cX11_numbers 97 = .ok (.invokevirtual 204, 3) := by decide +kernel
theorem dX11_numbers_100 : decode cX11_numbers 100 = .ok (.iconst 1, 1) := by decide +kernel
theorem dX11_numbers_101 : decode cX11_numbers 101 = .ok (.ireturn, 1) := by decide +kernel
theorem dX11_oneLine_0 : decode cX11_oneLine 0 = .ok (.aload_n 0, 1) := by decide +kernel
theorem dX11_oneLine_1 : decode cX11_oneLine 1 = .ok (.getfield 267, 3) := by decide +kernel
theorem dX11_oneLine_4 : decode cX11_oneLine 4 = .ok (.bipush 16, 2) := by decide +kernel
theorem dX11_oneLine_6 : decode cX11_oneLine 6 = .ok (.if_icmp .ge 10, 3) := by decide +kernel
theorem dX11_oneLine_9 : decode cX11_oneLine 9 = .ok (.aload_n 0, 1) := by decide +kernel
theorem dX11_oneLine_10 : decode cX11_oneLine 10 = .ok (.getfield 267, 3) := by decide +kernel
theorem dX11_oneLine_13 : decode cX11_oneLine 13 = .ok (.goto 5, 3) := by decide +kernel
theorem dX11_oneLine_16 : decode cX11_oneLine 16 = .ok (.bipush 16, 2) := by decide +kernel
theorem dX11_oneLine_18 : decode cX11_oneLine 18 = .ok (.istore_n 2, 1) := by decide +kernel
theorem dX11_oneLine_19 : decode cX11_oneLine 19 = .ok (.aload_n 0, 1) := by decide +kernel
theorem dX11_oneLine_20 : decode cX11_oneLine 20 = .ok (.getfield 267, 3) := by decide +kernel
theorem dX11_oneLine_23 : decode cX11_oneLine 23 = .ok (.bipush 16, 2) := by decide +kernel
theorem dX11_oneLine_25 : decode cX11_oneLine 25 = .ok (.if_icmp .ne 12, 3) := by decide +kernel
theorem dX11_oneLine_28 : decode cX11_oneLine 28 = .ok (.aload_n 0, 1) := by decide +kernel
theorem dX11_oneLine_29 : decode cX11_oneLine 29 = .ok (.iconst 3, 1) := by decide +kernel
theorem dX11_oneLine_30 : decode cX11_oneLine 30 = .ok (.aload_n 0, 1) := by decide +kernel
theorem dX11_oneLine_31 : decode cX11_oneLine 31 = .ok (.getfield 175, 3) := by decide +kernel
theorem dX11_oneLine_34 : decode cX11_oneLine 34 = .ok (.invokevirtual 255, 3) := by decide +kernel
theorem dX11_oneLine_37 : decode cX11_oneLine 37 = .ok (.aload_n 0, 1) := by decide +kernel
theorem dX11_oneLine_38 : decode cX11_oneLine 38 = .ok (.getfield 77, 3) := by decide +kernel
theorem dX11_oneLine_41 : decode cX11_oneLine 41 = .ok (.iload_n 2, 1) := by decide +kernel
theorem dX11_oneLine_42 : decode cX11_oneLine 42 = .ok (.iconst 0, 1) := by decide +kernel
theorem dX11_oneLine_43 : decode cX11_oneLine 43 = .ok (.iastore, 1) := by decide +kernel
theorem dX11_oneLine_44 : decode cX11_oneLine 44 = .ok (.aload_n 0, 1) := by decide +kernel
theorem dX11_oneLine_45 : decode cX11_oneLine 45 = .ok (.ldc2_w 270, 3) := by decide +kernel
theorem dX11_oneLine_48 : decode cX11_oneLine 48 = .ok (.invokevirtual 209, 3) := by decide +kernel
theorem dX11_oneLine_51 : decode cX11_oneLine 51 = .ok (.ifCond .eq 54, 3) := by decide +kernel
theorem dX11_oneLine_54 : decode cX11_oneLine 54 = .ok (.iconst 1, 1) := by decide +kernel
theorem dX11_oneLine_55 : decode cX11_oneLine 55 = .ok (.istore_n 3, 1) := by decide +kernel
theorem dX11_oneLine_56 : decode cX11_oneLine 56 = .ok (.iconst 0, 1) := by decide +kernel
theorem dX11_oneLine_57 : decode cX11_oneLine 57 = .ok (.istore 4, 2) := by decide +kernel
theorem dX11_oneLine_59 : decode cX11_oneLine 59 = .ok (.iload_n 3, 1) := by decide +kernel
theorem dX11_oneLine_60 : decode cX11_oneLine 60 = .ok (.ifCond .eq 34, 3) := by decide +kernel
theorem dX11_oneLine_63 : decode cX11_oneLine 63 = .ok (.aload_n 0, 1) := by decide +kernel
theorem dX11_oneLine_64 : decode cX11_oneLine 64 = .ok (.invokevirtual 204, 3) := by decide +kernel
theorem dX11_oneLine_67 : decode cX11_oneLine 67 = .ok (.aload_n 0, 1) := by decide +kernel
theorem dX11_oneLine_68 : decode cX11_oneLine 68 = .ok (.iload_n 1, 1) := by decide +kernel
theorem dX11_oneLine_69 : decode cX11_oneLine 69 = .ok (.iload_n 2, 1) := by decide +kernel
theorem dX11_oneLine_70 : decode cX11_oneLine 70 = .ok (.iload 4, 2) := by decide +kernel
theorem dX11_oneLine_72 : decode cX11_oneLine 72 = .ok (.invokevirtual 272, 3) := by decide +kernel
theorem dX11_oneLine_75 : decode cX11_oneLine 75 = .ok (.ifCond .ne 5, 3) := by decide +kernel
theorem dX11_oneLine_78 : decode cX11_oneLine 78 = .ok (.iconst 0, 1) := by decide +kernel
theorem dX11_oneLine_79 : decode cX11_oneLine 79 = .ok (.ireturn, 1) := by decide +kernel
theorem dX11_oneLine_80 : decode cX11_oneLine 80 = .ok (.aload_n 0, 1) := by decide +kernel
theorem dX11_oneLine_81 : decode cX11_oneLine 81 = .ok (.ldc2_w 276, 3) := by decide +kernel
theorem dX11_oneLine_84 : decode cX11_oneLine 84 = .ok (.invokevirtual 209, 3) := by decide +kernel
theorem dX11_oneLine_87 : decode cX11_oneLine 87 = .ok (.istore_n 3, 1) := by decide +kernel
theorem dX11_oneLine_88 : decode cX11_oneLine 88 = .ok (.iinc 4 1, 3) := by decide +kernel
theorem dX11_oneLine_91 : decode cX11_oneLine 91 = .ok (.goto (-32), 3) := by decide +kernel
theorem dX11_oneLine_94 : decode cX11_oneLine 94 = .ok (.aload_n 0, 1) := by decide +kernel
theorem dX11_oneLine_95 : decode cX11_oneLine 95 = .ok (.bipush 58, 2) := by decide +kernel
theorem dX11_oneLine_97 : decode cX11_oneLine 97 = .ok (.invokevirtual 278, 3) := by decide +kernel
theorem dX11_oneLine_100 : decode cX11_oneLine 100 = .ok (.ifCond .ne 5, 3) := by decide +kernel
theorem dX11_oneLine_103 : decode cX11_oneLine 103 = .ok (.iconst 0, 1) := by decide +kernel
theorem dX11_oneLine_104 : decode cX11_oneLine 104 = .ok (.ireturn, 1) := by decide +kernel
theorem dX11_oneLine_105 : decode cX11_oneLine 105 = .ok (.aload_n 0, 1) := by decide +kernel
theorem dX11_oneLine_106 : decode cX11_oneLine 106 = .ok (.getfield 89, 3) := by decide +kernel
theorem dX11_oneLine_109 : decode cX11_oneLine 109 = .ok (.iload_n 2, 1) := by decide +kernel
theorem dX11_oneLine_110 : decode cX11_oneLine 110 = .ok (.aload_n 0, 1) := by decide +kernel
theorem dX11_oneLine_111 : decode cX11_oneLine 111 = .ok (.iload_n 1, 1) := by decide +kernel
theorem dX11_oneLine_112 : decode cX11_oneLine 112 = .ok (.invokevirtual 281, 3) := by decide +kernel
theorem dX11_oneLine_115 : decode cX11_oneLine 115 = .ok (.iastore, 1) := by decide +kernel
theorem dX11_oneLine_116 : decode cX11_oneLine 116 = .ok (.aload_n 0, 1) := by decide +kernel
theorem dX11_oneLine_117 : decode cX11_oneLine 117 = .ok (.getfield 89, 3) := by decide +kernel
theorem dX11_oneLine_120 : decode cX11_oneLine 120 = .ok (.iload_n 2, 1) := by decide +kernel
theorem dX11_oneLine_121 : decode cX11_oneLine 121 = .ok (.iaload, 1) := by decide +kernel
theorem dX11_oneLine_122 : decode cX11_oneLine 122 = .ok (.iconst (-1), 1) := by decide +kernel
theorem dX11_oneLine_123 : decode cX11_oneLine 123 = .ok (.if_icmp .ne 8, 3) := by decide +kernel
theorem dX11_oneLine_126 : decode cX11_oneLine 126 = .ok (.aload_n 0, 1) := by decide +kernel
theorem dX11_oneLine_127 : decode cX11_oneLine 127 = .ok (.invokevirtual 200, 3) := by decide +kernel
theorem dX11_oneLine_130 : decode cX11_oneLine 130 = .ok (.ireturn, 1) := by decide +kernel
theorem dX11_oneLine_131 : decode cX11_oneLine 131 = .ok (.aload_n 0, 1) := by decide +kernel
theorem dX11_oneLine_132 : decode cX11_oneLine 132 = .ok (.invokevirtual 204, 3) := by decide +kernel
theorem dX11_oneLine_135 : decode cX11_oneLine 135 = .ok (.iload_n 1, 1) := by decide +kernel
theorem dX11_oneLine_136 : decode cX11_oneLine 136 = .ok (.ifCond .ne 23, 3) := by decide +kernel
theorem dX11_oneLine_139 : decode cX11_oneLine 139 = .ok (.aload_n 0, 1) := by decide +kernel
theorem dX11_oneLine_140 : decode cX11_oneLine 140 = .ok (.getfield 89, 3) := by decide +kernel
theorem dX11_oneLine_143 : decode cX11_oneLine 143 = .ok (.iload_n 2, 1) := by decide +kernel
theorem dX11_oneLine_144 : decode cX11_oneLine 144 = .ok (.iaload, 1) := by decide +kernel
theorem dX11_oneLine_145 : decode cX11_oneLine 145 = .ok (.iconst 2, 1) := by decide +kernel
theorem dX11_oneLine_146 : decode cX11_oneLine 146 = .ok (.if_icmp .ge 13, 3) := by decide +kernel
theorem dX11_oneLine_149 : decode cX11_oneLine 149 = .ok (.aload_n 0, 1) := by decide +kernel
theorem dX11_oneLine_150 : decode cX11_oneLine 150 = .ok (.iload_n 2, 1) := by decide +kernel
theorem dX11_oneLine_151 : decode cX11_oneLine 151 = .ok (.invokevirtual 284, 3) := by decide +kernel
theorem dX11_oneLine_154 : decode cX11_oneLine 154 = .ok (.ifCond .ne 5, 3) := by decide +kernel
theorem dX11_oneLine_157 : decode cX11_oneLine 157 = .ok (.iconst 0, 1) := by decide +kernel
theorem dX11_oneLine_158 : decode cX11_oneLine 158 = .ok (.ireturn, 1) := by decide +kernel
theorem dX11_oneLine_159 : decode cX11_oneLine 159 = .ok (.aload_n 0, 1) := by decide +kernel
theorem dX11_oneLine_160 : decode cX11_oneLine 160 = .ok (.dup, 1) := by decide +kernel
theorem dX11_oneLine_161 : decode cX11_oneLine 161 = .ok (.getfield 267, 3) := by decide +kernel
theorem dX11_oneLine_164 : decode cX11_oneLine 164 = .ok (.iconst 1, 1) := by decide +kernel
theorem dX11_oneLine_165 : decode cX11_oneLine 165 = .ok (.iadd, 1) := by decide +kernel
theorem dX11_oneLine_166 : decode cX11_oneLine 166 = .ok (.putfield 267, 3) := by decide +kernel
theorem dX11_oneLine_169 : decode cX11_oneLine 169 = .ok (.aload_n 0, 1) := by decide +kernel
theorem dX11_oneLine_170 : decode cX11_oneLine 170 = .ok (.bipush 59, 2) := by decide +kernel
theorem dX11_oneLine_172 : decode cX11_oneLine 172 = .ok (.invokevirtual 278, 3) := by decide +kernel
theorem dX11_oneLine_175 : decode cX11_oneLine 175 = .ok (.ireturn, 1) := by decide +kernel
theorem dX11_text_0 : decode cX11_text 0 = .ok (.aload_n 0, 1) := by decide +kernel
theorem dX11_text_1 : decode cX11_text 1 = .ok (.iconst 0, 1) := by decide +kernel
theorem dX11_text_2 : decode cX11_text 2 = .ok (.putfield 130, 3) := by decide +kernel
theorem dX11_text_5 : decode cX11_text 5 = .ok (.aload_n 0, 1) := by decide +kernel
theorem dX11_text_6 : decode cX11_text 6 = .ok (.aload_n 0, 1) := by decide +kernel
theorem dX11_text_7 : decode cX11_text 7 = .ok (.getfield 13, 3) := by decide +kernel
theorem dX11_text_10 : decode cX11_text 10 = .ok (.iconst 0, 1) := by decide +kernel
theorem dX11_text_11 : decode cX11_text 11 = .ok (.iaload, 1) := by decide +kernel
theorem dX11_text_12 : decode cX11_text 12 = .ok (.putfield 169, 3) := by decide +kernel
theorem dX11_text_15 : decode cX11_text 15 = .ok (.aload_n 0, 1) := by decide +kernel
theorem dX11_text_16 : decode cX11_text 16 = .ok (.getfield 13, 3) := by decide +kernel
theorem dX11_text_19 : decode cX11_text 19 = .ok (.iconst 0, 1) := by decide +kernel
theorem dX11_text_20 : decode cX11_text 20 = .ok (.iconst 0, 1) := by decide +kernel
theorem dX11_text_21 : decode cX11_text 21 = .ok (.iastore, 1) := by decide +kernel
theorem dX11_text_22 : decode cX11_text 22 = .ok (.aload_n 0, 1) := by decide +kernel
theorem dX11_text_23 : decode cX11_text 23 = .ok (.getfield 17, 3) := by decide +kernel
theorem dX11_text_26 : decode cX11_text 26 = .ok (.iconst 0, 1) := by decide +kernel
theorem dX11_text_27 : decode cX11_text 27 = .ok (.iconst 0, 1) := by decide +kernel
theorem dX11_text_28 : decode cX11_text 28 = .ok (.iastore, 1) := by decide +kernel
theorem dX11_text_29 : decode cX11_text 29 = .ok (.aload_n 0, 1) := by decide +kernel
theorem dX11_text_30 : decode cX11_text 30 = .ok (.getfield 20, 3) := by decide +kernel
theorem dX11_text_33 : decode cX11_text 33 = .ok (.iconst 0, 1) := by decide +kernel
theorem dX11_text_34 : decode cX11_text 34 = .ok (.iconst (-1), 1) := by decide +kernel
theorem dX11_text_35 : decode cX11_text 35 = .ok (.iastore, 1) := by decide +kernel
theorem dX11_text_36 : decode cX11_text 36 = .ok (.aload_n 0, 1) := by decide +kernel
theorem dX11_text_37 : decode cX11_text 37 = .ok (.iconst 0, 1) := by decide +kernel
theorem dX11_text_38 : decode cX11_text 38 = .ok (.putfield 166, 3) := by decide +kernel
theorem dX11_text_41 : decode cX11_text 41 = .ok (.aload_n 0, 1) := by decide +kernel
theorem dX11_text_42 : decode cX11_text 42 = .ok (.iconst (-1), 1) := by decide +kernel
theorem dX11_text_43 : decode cX11_text 43 = .ok (.putfield 188, 3) := by decide +kernel
theorem dX11_text_46 : decode cX11_text 46 = .ok (.aload_n 0, 1) := by decide +kernel
theorem dX11_text_47 : decode cX11_text 47 = .ok (.iconst 0, 1) := by decide +kernel
theorem dX11_text_48 : decode cX11_text 48 = .ok (.putfield 191, 3) := by decide +kernel
theorem dX11_text_51 : decode cX11_text 51 = .ok (.aload_n 0, 1) := by decide +kernel
theorem dX11_text_52 : decode cX11_text 52 = .ok (.iconst 0, 1) := by decide +kernel
theorem dX11_text_53 : decode cX11_text 53 = .ok (.putfield 267, 3) := by decide +kernel
theorem dX11_text_56 : decode cX11_text 56 = .ok (.iconst 1, 1) := by decide +kernel
theorem dX11_text_57 : decode cX11_text 57 = .ok (.istore_n 2, 1) := by decide +kernel
theorem dX11_text_58 : decode cX11_text 58 = .ok (.aload_n 0, 1) := by decide +kernel
theorem dX11_text_59 : decode cX11_text 59 = .ok (.invokevirtual 204, 3) := by decide +kernel
theorem dX11_text_62 : decode cX11_text 62 = .ok (.iload_n 2, 1) := by decide +kernel
theorem dX11_text_63 : decode cX11_text 63 = .ok (.ifCond .eq 19, 3) := by decide +kernel
theorem dX11_text_66 : decode cX11_text 66 = .ok (.aload_n 0, 1) := by decide +kernel
theorem dX11_text_67 : decode cX11_text 67 = .ok (.getfield 185, 3) := by decide +kernel
theorem dX11_text_70 : decode cX11_text 70 = .ok (.ifCond .eq 12, 3) := by decide +kernel
theorem dX11_text_73 : decode cX11_text 73 = .ok (.aload_n 0, 1) := by decide +kernel
theorem dX11_text_74 : decode cX11_text 74 = .ok (.iload_n 1, 1) := by decide +kernel
theorem dX11_text_75 : decode cX11_text 75 = .ok (.invokevirtual 287, 3) := by decide +kernel
theorem dX11_text_78 : decode cX11_text 78 = .ok (.istore_n 2, 1) := by decide +kernel
theorem dX11_text_79 : decode cX11_text 79 = .ok (.goto (-17), 3) := by decide +kernel
theorem dX11_text_82 : decode cX11_text 82 = .ok (.iload_n 2, 1) := by decide +kernel
theorem dX11_text_83 : decode cX11_text 83 = .ok (.ifCond .eq 10, 3) := by decide +kernel
theorem dX11_text_86 : decode cX11_text 86 = .ok (.aload_n 0, 1) := by decide +kernel
theorem dX11_text_87 : decode cX11_text 87 = .ok (.getfield 191, 3) := by decide +kernel
theorem dX11_text_90 : decode cX11_text 90 = .ok (.ifCond .le 44, 3) := by decide +kernel
theorem dX11_text_93 : decode cX11_text 93 = .ok (.aload_n 0, 1) := by decide +kernel
theorem dX11_text_94 : decode cX11_text 94 = .ok (.getfield 17, 3) := by decide +kernel
theorem dX11_text_97 : decode cX11_text 97 = .ok (.iconst 0, 1) := by decide +kernel
theorem dX11_text_98 : decode cX11_text 98 = .ok (.iload_n 2, 1) := by decide +kernel
theorem dX11_text_99 : decode cX11_text 99 = .ok (.ifCond .eq 10, 3) := by decide +kernel
theorem dX11_text_102 : decode cX11_text 102 = .ok (.aload_n 0, 1) := by decide +kernel
theorem dX11_text_103 : decode cX11_text 103 = .ok (.getfield 191, 3) := by decide +kernel
theorem dX11_text_106 : decode cX11_text 106 = .ok (.goto 4, 3) := by decide +kernel
theorem dX11_text_109 : decode cX11_text 109 = .ok (.iconst 1, 1) := by decide +kernel
theorem dX11_text_110 : decode cX11_text 110 = .ok (.iastore, 1) := by decide +kernel
theorem dX11_text_111 : decode cX11_text 111 = .ok (.aload_n 0, 1) := by decide +kernel
theorem dX11_text_112 : decode cX11_text 112 = .ok (.getfield 20, 3) := by decide +kernel
theorem dX11_text_115 : decode cX11_text 115 = .ok (.iconst 0, 1) := by decide +kernel
theorem dX11_text_116 : decode cX11_text 116 = .ok (.iload_n 2, 1) := by decide +kernel
theorem dX11_text_117 : decode cX11_text 117 = .ok (.ifCond .eq 10, 3) := by decide +kernel
theorem dX11_text_120 : decode cX11_text 120 = .ok (.aload_n 0, 1) := by decide +kernel
theorem dX11_text_121 : decode cX11_text 121 = .ok (.getfield 194, 3) := by decide +kernel
theorem dX11_text_124 : decode cX11_text 124 = .ok (.goto 7, 3) := by decide +kernel
theorem dX11_text_127 : decode cX11_text 127 = .ok (.aload_n 0, 1) := by decide +kernel
theorem dX11_text_128 : decode cX11_text 128 = .ok (.getfield 188, 3) := by decide +kernel
theorem dX11_text_131 : decode cX11_text 131 = .ok (.iastore, 1) := by decide +kernel
theorem dX11_text_132 : decode cX11_text 132 = .ok (.iconst (-1), 1) := by decide +kernel
theorem dX11_text_133 : decode cX11_text 133 = .ok (.ireturn, 1) := by decide +kernel
theorem dX11_text_134 : decode cX11_text 134 = .ok (.iload_n 1, 1) := by decide +kernel
theorem dX11_text_135 : decode cX11_text 135 = .ok (.ifCond .eq 8, 3) := by decide +kernel
theorem dX11_text_138 : decode cX11_text 138 = .ok (.bipush 16, 2) := by decide +kernel
theorem dX11_text_140 : decode cX11_text 140 = .ok (.goto 4, 3) := by decide +kernel
theorem dX11_text_143 : decode cX11_text 143 = .ok (.iconst 0, 1) := by decide +kernel
theorem dX11_text_144 : decode cX11_text 144 = .ok (.istore_n 3, 1) := by decide +kernel
theorem dX11_text_145 : decode cX11_text 145 = .ok (.aload_n 0, 1) := by decide +kernel
theorem dX11_text_146 : decode cX11_text 146 = .ok (.getfield 53, 3) := by decide +kernel
theorem dX11_text_149 : decode cX11_text 149 = .ok (.iload_n 1, 1) := by decide +kernel
theorem dX11_text_150 : decode cX11_text 150 = .ok (.ifCond .eq 7, 3) := by decide +kernel
theorem dX11_text_153 : decode cX11_text 153 = .ok (.iconst 1, 1) := by decide +kernel
theorem dX11_text_154 : decode cX11_text 154 = .ok (.goto 4, 3) := by decide +kernel
theorem dX11_text_157 : decode cX11_text 157 = .ok (.iconst 0, 1) := by decide +kernel
theorem dX11_text_158 : decode cX11_text 158 = .ok (.aload_n 0, 1) := by decide +kernel
theorem dX11_text_159 : decode cX11_text 159 = .ok (.getfield 267, 3) := by decide +kernel
theorem dX11_text_162 : decode cX11_text 162 = .ok (.iastore, 1) := by decide +kernel
theorem dX11_text_163 : decode cX11_text 163 = .ok (.iconst 0, 1) := by decide +kernel
theorem dX11_text_164 : decode cX11_text 164 = .ok (.istore 4, 2) := by decide +kernel
theorem dX11_text_166 : decode cX11_text 166 = .ok (.iload 4, 2) := by decide +kernel
theorem dX11_text_168 : decode cX11_text 168 = .ok (.aload_n 0, 1) := by decide +kernel
theorem dX11_text_169 : decode cX11_text 169 = .ok (.getfield 267, 3) := by decide +kernel
theorem dX11_text_172 : decode cX11_text 172 = .ok (.if_icmp .ge 172, 3) := by decide +kernel
theorem dX11_text_175 : decode cX11_text 175 = .ok (.aload_n 0, 1) := by decide +kernel
theorem dX11_text_176 : decode cX11_text 176 = .ok (.getfield 56, 3) := by decide +kernel
theorem dX11_text_179 : decode cX11_text 179 = .ok (.iload_n 3, 1) := by decide +kernel
theorem dX11_text_180 : decode cX11_text 180 = .ok (.iload 4, 2) := by decide +kernel
theorem dX11_text_182 : decode cX11_text 182 = .ok (.iadd, 1) := by decide +kernel
theorem dX11_text_183 : decode cX11_text 183 = .ok (.aload_n 0, 1) := by decide +kernel
theorem dX11_text_184 : decode cX11_text 184 = .ok (.getfield 77, 3) := by decide +kernel
theorem dX11_text_187 : decode cX11_text 187 = .ok (.iload 4, 2) := by decide +kernel
theorem dX11_text_189 : decode cX11_text 189 = .ok (.iaload, 1) := by decide +kernel
theorem dX11_text_190 : decode cX11_text 190 = .ok (.iastore, 1) := by decide +kernel
theorem dX11_text_191 : decode cX11_text 191 = .ok (.aload_n 0, 1) := by decide +kernel
theorem dX11_text_192 : decode cX11_text 192 = .ok (.getfield 68, 3) := by decide +kernel
theorem dX11_text_195 : decode cX11_text 195 = .ok (.iload_n 3, 1) := by decide +kernel
theorem dX11_text_196 : decode cX11_text 196 = .ok (.iload 4, 2) := by decide +kernel
theorem dX11_text_198 : decode cX11_text 198 = .ok (.iadd, 1) := by decide +kernel
theorem dX11_text_199 : decode cX11_text 199 = .ok (.aload_n 0, 1) := by decide +kernel
theorem dX11_text_200 : decode cX11_text 200 = .ok (.getfield 89, 3) := by decide +kernel
theorem dX11_text_203 : decode cX11_text 203 = .ok (.iload 4, 2) := by decide +kernel
theorem dX11_text_205 : decode cX11_text 205 = .ok (.iaload, 1) := by decide +kernel
theorem dX11_text_206 : decode cX11_text 206 = .ok (.iastore, 1) := by decide +kernel
theorem dX11_text_207 : decode cX11_text 207 = .ok (.aload_n 0, 1) := by decide +kernel
theorem dX11_text_208 : decode cX11_text 208 = .ok (.getfield 71, 3) := by decide +kernel
theorem dX11_text_211 : decode cX11_text 211 = .ok (.iload_n 3, 1) := by decide +kernel
theorem dX11_text_212 : decode cX11_text 212 = .ok (.iload 4, 2) := by decide +kernel
theorem dX11_text_214 : decode cX11_text 214 = .ok (.iadd, 1) := by decide +kernel
theorem dX11_text_215 : decode cX11_text 215 = .ok (.aload_n 0, 1) := by decide +kernel
theorem dX11_text_216 : decode cX11_text 216 = .ok (.getfield 92, 3) := by decide +kernel
theorem dX11_text_219 : decode cX11_text 219 = .ok (.iload 4, 2) := by decide +kernel
theorem dX11_text_221 : decode cX11_text 221 = .ok (.iaload, 1) := by decide +kernel
theorem dX11_text_222 : decode cX11_text 222 = .ok (.iastore, 1) := by decide +kernel
theorem dX11_text_223 : decode cX11_text 223 = .ok (.aload_n 0, 1) := by decide +kernel
theorem dX11_text_224 : decode cX11_text 224 = .ok (.getfield 74, 3) := by decide +kernel
theorem dX11_text_227 : decode cX11_text 227 = .ok (.iload_n 3, 1) := by decide +kernel
theorem dX11_text_228 : decode cX11_text 228 = .ok (.iload 4, 2) := by decide +kernel
theorem dX11_text_230 : decode cX11_text 230 = .ok (.iadd, 1) := by decide +kernel
theorem dX11_text_231 : decode cX11_text 231 = .ok (.aload_n 0, 1) := by decide +kernel
theorem dX11_text_232 : decode cX11_text 232 = .ok (.getfield 95, 3) := by decide +kernel
theorem dX11_text_235 : decode cX11_text 235 = .ok (.iload 4, 2) := by decide +kernel
theorem dX11_text_237 : decode cX11_text 237 = .ok (.iaload, 1) := by decide +kernel
theorem dX11_text_238 : decode cX11_text 238 = .ok (.iastore, 1) := by decide +kernel
theorem dX11_text_239 : decode cX11_text 239 = .ok (.iconst 0, 1) := by decide +kernel
theorem dX11_text_240 : decode cX11_text 240 = .ok (.istore 5, 2) := by decide +kernel
theorem dX11_text_242 : decode cX11_text 242 = .ok (.iload 5, 2) := by decide +kernel
theorem dX11_text_244 : decode cX11_text 244 = .ok (.aload_n 0, 1) := by decide +kernel
theorem dX11_text_245 : decode cX11_text 245 = .ok (.getfield 77, 3) := by decide +kernel
theorem dX11_text_248 : decode cX11_text 248 = .ok (.iload 4, 2) := by decide +kernel
theorem dX11_text_250 : decode cX11_text 250 = .ok (.iaload, 1) := by decide +kernel
theorem dX11_text_251 : decode cX11_text 251 = .ok (.if_icmp .ge 87, 3) := by decide +kernel
theorem dX11_text_254 : decode cX11_text 254 = .ok (.aload_n 0, 1) := by decide +kernel
theorem dX11_text_255 : decode cX11_text 255 = .ok (.getfield 59, 3) := by decide +kernel
theorem dX11_text_258 : decode cX11_text 258 = .ok (.iconst 4, 1) := by decide +kernel
theorem dX11_text_259 : decode cX11_text 259 = .ok (.iload_n 3, 1) := by decide +kernel
theorem dX11_text_260 : decode cX11_text 260 = .ok (.iload 4, 2) := by decide +kernel
theorem dX11_text_262 : decode cX11_text 262 = .ok (.iadd, 1) := by decide +kernel
theorem dX11_text_263 : decode cX11_text 263 = .ok (.imul, 1) := by decide +kernel
theorem dX11_text_264 : decode cX11_text 264 = .ok (.iload 5, 2) := by decide +kernel
theorem dX11_text_266 : decode cX11_text 266 = .ok (.iadd, 1) := by decide +kernel
theorem dX11_text_267 : decode cX11_text 267 = .ok (.aload_n 0, 1) := by decide +kernel
theorem dX11_text_268 : decode cX11_text 268 = .ok (.getfield 80, 3) := by decide +kernel
theorem dX11_text_271 : decode cX11_text 271 = .ok (.iconst 4, 1) := by decide +kernel
theorem dX11_text_272 : decode cX11_text 272 = .ok (.iload 4, 2) := by decide +kernel
theorem dX11_text_274 : decode cX11_text 274 = .ok (.imul, 1) := by decide +kernel
theorem dX11_text_275 : decode cX11_text 275 = .ok (.iload 5, 2) := by decide +kernel
theorem dX11_text_277 : decode cX11_text 277 = .ok (.iadd, 1) := by decide +kernel
theorem dX11_text_278 : decode cX11_text 278 = .ok (.iaload, 1) := by decide +kernel
theorem dX11_text_279 : decode cX11_text 279 = .ok (.iastore, 1) := by decide +kernel
theorem dX11_text_280 : decode cX11_text 280 = .ok (.aload_n 0, 1) := by decide +kernel
theorem dX11_text_281 : decode cX11_text 281 = .ok (.getfield 62, 3) := by decide +kernel
theorem dX11_text_284 : decode cX11_text 284 = .ok (.iconst 4, 1) := by decide +kernel
theorem dX11_text_285 : decode cX11_text 285 = .ok (.iload_n 3, 1) := by decide +kernel
theorem dX11_text_286 : decode cX11_text 286 = .ok (.iload 4, 2) := by decide +kernel
theorem dX11_text_288 : decode cX11_text 288 = .ok (.iadd, 1) := by decide +kernel
theorem dX11_text_289 : decode cX11_text 289 = .ok (.imul, 1) := by decide +kernel
theorem dX11_text_290 : decode cX11_text 290 = .ok (.iload 5, 2) := by decide +kernel
theorem dX11_text_292 : decode cX11_text 292 = .ok (.iadd, 1) := by decide +kernel
theorem dX11_text_293 : decode cX11_text 293 = .ok (.aload_n 0, 1) := by decide +kernel
theorem dX11_text_294 : decode cX11_text 294 = .ok (.getfield 83, 3) := by decide +kernel
theorem dX11_text_297 : decode cX11_text 297 = .ok (.iconst 4, 1) := by decide +kernel
theorem dX11_text_298 : decode cX11_text 298 = .ok (.iload 4, 2) := by decide +kernel
theorem dX11_text_300 : decode cX11_text 300 = .ok (.imul, 1) := by decide +kernel
theorem dX11_text_301 : decode cX11_text 301 = .ok (.iload 5, 2) := by decide +kernel
theorem dX11_text_303 : decode cX11_text 303 = .ok (.iadd, 1) := by decide +kernel
theorem dX11_text_304 : decode cX11_text 304 = .ok (.iaload, 1) := by decide +kernel
theorem dX11_text_305 : decode cX11_text 305 = .ok (.iastore, 1) := by decide +kernel
theorem dX11_text_306 : decode cX11_text 306 = .ok (.aload_n 0, 1) := by decide +kernel
theorem dX11_text_307 : decode cX11_text 307 = .ok (.getfield 65, 3) := by decide +kernel
theorem dX11_text_310 : decode cX11_text 310 = .ok (.iconst 4, 1) := by decide +kernel
theorem dX11_text_311 : decode cX11_text 311 = .ok (.iload_n 3, 1) := by decide +kernel
theorem dX11_text_312 : decode cX11_text 312 = .ok (.iload 4, 2) := by decide +kernel
theorem dX11_text_314 : decode cX11_text 314 = .ok (.iadd, 1) := by decide +kernel
theorem dX11_text_315 : decode cX11_text 315 = .ok (.imul, 1) := by decide +kernel
theorem dX11_text_316 : decode cX11_text 316 = .ok (.iload 5, 2) := by decide +kernel
theorem dX11_text_318 : decode cX11_text 318 = .ok (.iadd, 1) := by decide +kernel
theorem dX11_text_319 : decode cX11_text 319 = .ok (.aload_n 0, 1) := by decide +kernel
theorem dX11_text_320 : decode cX11_text 320 = .ok (.getfield 86, 3) := by decide +kernel
theorem dX11_text_323 : decode cX11_text 323 = .ok (.iconst 4, 1) := by decide +kernel
theorem dX11_text_324 : decode cX11_text 324 = .ok (.iload 4, 2) := by decide +kernel
theorem dX11_text_326 : decode cX11_text 326 = .ok (.imul, 1) := by decide +kernel
theorem dX11_text_327 : decode cX11_text 327 = .ok (.iload 5, 2) := by decide +kernel
theorem dX11_text_329 : decode cX11_text 329 = .ok (.iadd, 1) := by decide +kernel
theorem dX11_text_330 : decode cX11_text 330 = .ok (.iaload, 1) := by decide +kernel
theorem dX11_text_331 : decode cX11_text 331 = .ok (.iastore, 1) := by decide +kernel
theorem dX11_text_332 : decode cX11_text 332 = .ok (.iinc 5 1, 3) := by decide +kernel
theorem dX11_text_335 : decode cX11_text 335 = .ok (.goto (-93), 3) := by decide +kernel
theorem dX11_text_338 : decode cX11_text 338 = .ok (.iinc 4 1, 3) := by decide +kernel
theorem dX11_text_341 : decode cX11_text 341 = .ok (.goto (-175), 3) := by decide +kernel
theorem dX11_text_344 : decode cX11_text 344 = .ok (.aload_n 0, 1) := by decide +kernel
theorem dX11_text_345 : decode cX11_text 345 = .ok (.getfield 267, 3) := by decide +kernel
theorem dX11_text_348 : decode cX11_text 348 = .ok (.ireturn, 1) := by decide +kernel
theorem dX11_fault_0 : decode cX11_fault 0 = .ok (.aload_n 0, 1) := by decide +kernel
theorem dX11_fault_1 : decode cX11_fault 1 = .ok (.iconst 0, 1) := by decide +kernel
theorem dX11_fault_2 : decode cX11_fault 2 = .ok (.putfield 130, 3) := by decide +kernel
theorem dX11_fault_5 : decode cX11_fault 5 = .ok (.iload_n 1, 1) := by decide +kernel
theorem dX11_fault_6 : decode cX11_fault 6 = .ok (.ifCond .ne 12, 3) := by decide +kernel
theorem dX11_fault_9 : decode cX11_fault 9 = .ok (.aload_n 0, 1) := by decide +kernel
theorem dX11_fault_10 : decode cX11_fault 10 = .ok (.getfield 17, 3) := by decide +kernel
theorem dX11_fault_13 : decode cX11_fault 13 = .ok (.iconst 0, 1) := by decide +kernel
theorem dX11_fault_14 : decode cX11_fault 14 = .ok (.iaload, 1) := by decide +kernel
theorem dX11_fault_15 : decode cX11_fault 15 = .ok (.goto 18, 3) := by decide +kernel
theorem dX11_fault_18 : decode cX11_fault 18 = .ok (.iload_n 1, 1) := by decide +kernel
theorem dX11_fault_19 : decode cX11_fault 19 = .ok (.iconst 1, 1) := by decide +kernel
theorem dX11_fault_20 : decode cX11_fault 20 = .ok (.if_icmp .ne 12, 3) := by decide +kernel
theorem dX11_fault_23 : decode cX11_fault 23 = .ok (.aload_n 0, 1) := by decide +kernel
theorem dX11_fault_24 : decode cX11_fault 24 = .ok (.getfield 20, 3) := by decide +kernel
theorem dX11_fault_27 : decode cX11_fault 27 = .ok (.iconst 0, 1) := by decide +kernel
theorem dX11_fault_28 : decode cX11_fault 28 = .ok (.iaload, 1) := by decide +kernel
theorem dX11_fault_29 : decode cX11_fault 29 = .ok (.goto 4, 3) := by decide +kernel
theorem dX11_fault_32 : decode cX11_fault 32 = .ok (.iconst (-1), 1) := by decide +kernel
theorem dX11_fault_33 : decode cX11_fault 33 = .ok (.ireturn, 1) := by decide +kernel
theorem dX11_holds_0 : decode cX11_holds 0 = .ok (.iconst 4, 1) := by decide +kernel
theorem dX11_holds_1 : decode cX11_holds 1 = .ok (.iload_n 1, 1) := by decide +kernel
theorem dX11_holds_2 : decode cX11_holds 2 = .ok (.imul, 1) := by decide +kernel
theorem dX11_holds_3 : decode cX11_holds 3 = .ok (.istore_n 2, 1) := by decide +kernel
theorem dX11_holds_4 : decode cX11_holds 4 = .ok (.iload_n 2, 1) := by decide +kernel
theorem dX11_holds_5 : decode cX11_holds 5 = .ok (.iconst 4, 1) := by decide +kernel
theorem dX11_holds_6 : decode cX11_holds 6 = .ok (.iload_n 1, 1) := by decide +kernel
theorem dX11_holds_7 : decode cX11_holds 7 = .ok (.imul, 1) := by decide +kernel
theorem dX11_holds_8 : decode cX11_holds 8 = .ok (.aload_n 0, 1) := by decide +kernel
theorem dX11_holds_9 : decode cX11_holds 9 = .ok (.getfield 56, 3) := by decide +kernel
theorem dX11_holds_12 : decode cX11_holds 12 = .ok (.iload_n 1, 1) := by decide +kernel
theorem dX11_holds_13 : decode cX11_holds 13 = .ok (.iaload, 1) := by decide +kernel
theorem dX11_holds_14 : decode cX11_holds 14 = .ok (.iadd, 1) := by decide +kernel
theorem dX11_holds_15 : decode cX11_holds 15 = .ok (.if_icmp .ge 118, 3) := by decide +kernel
theorem dX11_holds_18 : decode cX11_holds 18 = .ok (.aload_n 0, 1) := by decide +kernel
theorem dX11_holds_19 : decode cX11_holds 19 = .ok (.getfield 98, 3) := by decide +kernel
theorem dX11_holds_22 : decode cX11_holds 22 = .ok (.aload_n 0, 1) := by decide +kernel
theorem dX11_holds_23 : decode cX11_holds 23 = .ok (.getfield 59, 3) := by decide +kernel
theorem dX11_holds_26 : decode cX11_holds 26 = .ok (.iload_n 2, 1) := by decide +kernel
theorem dX11_holds_27 : decode cX11_holds 27 = .ok (.iaload, 1) := by decide +kernel
theorem dX11_holds_28 : decode cX11_holds 28 = .ok (.bipush 7, 2) := by decide +kernel
theorem dX11_holds_30 : decode cX11_holds 30 = .ok (.iand, 1) := by decide +kernel
theorem dX11_holds_31 : decode cX11_holds 31 = .ok (.iaload, 1) := by decide +kernel
theorem dX11_holds_32 : decode cX11_holds 32 = .ok (.istore_n 3, 1) := by decide +kernel
theorem dX11_holds_33 : decode cX11_holds 33 = .ok (.aload_n 0, 1) := by decide +kernel
theorem dX11_holds_34 : decode cX11_holds 34 = .ok (.getfield 65, 3) := by decide +kernel
theorem dX11_holds_37 : decode cX11_holds 37 = .ok (.iload_n 2, 1) := by decide +kernel
theorem dX11_holds_38 : decode cX11_holds 38 = .ok (.iaload, 1) := by decide +kernel
theorem dX11_holds_39 : decode cX11_holds 39 = .ok (.istore 4, 2) := by decide +kernel
theorem dX11_holds_41 : decode cX11_holds 41 = .ok (.aload_n 0, 1) := by decide +kernel
theorem dX11_holds_42 : decode cX11_holds 42 = .ok (.getfield 62, 3) := by decide +kernel
theorem dX11_holds_45 : decode cX11_holds 45 = .ok (.iload_n 2, 1) := by decide +kernel
theorem dX11_holds_46 : decode cX11_holds 46 = .ok (.iaload, 1) := by decide +kernel
theorem dX11_holds_47 : decode cX11_holds 47 = .ok (.bipush 60, 2) := by decide +kernel
theorem dX11_holds_49 : decode cX11_holds 49 = .ok (.if_icmp .ne 17, 3) := by decide +kernel
theorem dX11_holds_52 : decode cX11_holds 52 = .ok (.iload_n 3, 1) := by decide +kernel
theorem dX11_holds_53 : decode cX11_holds 53 = .ok (.iload 4, 2) := by decide +kernel
theorem dX11_holds_55 : decode cX11_holds 55 = .ok (.if_icmp .ge 7, 3) := by decide +kernel
theorem dX11_holds_58 : decode cX11_holds 58 = .ok (.iconst 1, 1) := by decide +kernel
theorem dX11_holds_59 : decode cX11_holds 59 = .ok (.goto 43, 3) := by decide +kernel
theorem dX11_holds_62 : decode cX11_holds 62 = .ok (.iconst 0, 1) := by decide +kernel
theorem dX11_holds_63 : decode cX11_holds 63 = .ok (.goto 39, 3) := by decide +kernel
theorem dX11_holds_66 : decode cX11_holds 66 = .ok (.aload_n 0, 1) := by decide +kernel
theorem dX11_holds_67 : decode cX11_holds 67 = .ok (.getfield 62, 3) := by decide +kernel
theorem dX11_holds_70 : decode cX11_holds 70 = .ok (.iload_n 2, 1) := by decide +kernel
theorem dX11_holds_71 : decode cX11_holds 71 = .ok (.iaload, 1) := by decide +kernel
theorem dX11_holds_72 : decode cX11_holds 72 = .ok (.bipush 62, 2) := by decide +kernel
theorem dX11_holds_74 : decode cX11_holds 74 = .ok (.if_icmp .ne 17, 3) := by decide +kernel
theorem dX11_holds_77 : decode cX11_holds 77 = .ok (.iload_n 3, 1) := by decide +kernel
theorem dX11_holds_78 : decode cX11_holds 78 = .ok (.iload 4, 2) := by decide +kernel
theorem dX11_holds_80 : decode cX11_holds 80 = .ok (.if_icmp .le 7, 3) := by decide +kernel
theorem dX11_holds_83 : decode cX11_holds 83 = .ok (.iconst 1, 1) := by decide +kernel
theorem dX11_holds_84 : decode cX11_holds 84 = .ok (.goto 18, 3) := by decide +kernel
theorem dX11_holds_87 : decode cX11_holds 87 = .ok (.iconst 0, 1) := by decide +kernel
theorem dX11_holds_88 : decode cX11_holds 88 = .ok (.goto 14, 3) := by decide +kernel
theorem dX11_holds_91 : decode cX11_holds 91 = .ok (.iload_n 3, 1) := by decide +kernel
theorem dX11_holds_92 : decode cX11_holds 92 = .ok (.iload 4, 2) := by decide +kernel
theorem dX11_holds_94 : decode cX11_holds 94 = .ok (.if_icmp .ne 7, 3) := by decide +kernel
theorem dX11_holds_97 : decode cX11_holds 97 = .ok (.iconst 1, 1) := by decide +kernel
theorem dX11_holds_98 : decode cX11_holds 98 = .ok (.goto 4, 3) := by decide +kernel
theorem dX11_holds_101 : decode cX11_holds 101 = .ok (.iconst 0, 1) := by decide +kernel
theorem dX11_holds_102 : decode cX11_holds 102 = .ok (.istore 5, 2) := by decide +kernel
theorem dX11_holds_104 : decode cX11_holds 104 = .ok (.iload 5, 2) := by decide +kernel
theorem dX11_holds_106 : decode cX11_holds 106 = .ok (.aload_n 0, 1) := by decide +kernel
theorem dX11_holds_107 : decode cX11_holds 107 = .ok (.getfield 59, 3) := by decide +kernel
theorem dX11_holds_110 : decode cX11_holds 110 = .ok (.iload_n 2, 1) := by decide +kernel
theorem dX11_holds_111 : decode cX11_holds 111 = .ok (.iaload, 1) := by decide +kernel
theorem dX11_holds_112 : decode cX11_holds 112 = .ok (.bipush 7, 2) := by decide +kernel
theorem dX11_holds_114 : decode cX11_holds 114 = .ok (.if_icmp .le 7, 3) := by decide +kernel
theorem dX11_holds_117 : decode cX11_holds 117 = .ok (.iconst 1, 1) := by decide +kernel
theorem dX11_holds_118 : decode cX11_holds 118 = .ok (.goto 4, 3) := by decide +kernel
theorem dX11_holds_121 : decode cX11_holds 121 = .ok (.iconst 0, 1) := by decide +kernel
theorem dX11_holds_122 : decode cX11_holds 122 = .ok (.if_icmp .ne 5, 3) := by decide +kernel
theorem dX11_holds_125 : decode cX11_holds 125 = .ok (.iconst 0, 1) := by decide +kernel
theorem dX11_holds_126 : decode cX11_holds 126 = .ok (.ireturn, 1) := by decide +kernel
theorem dX11_holds_127 : decode cX11_holds 127 = .ok (.iinc 2 1, 3) := by decide +kernel
theorem dX11_holds_130 : decode cX11_holds 130 = .ok (.goto (-126), 3) := by decide +kernel
theorem dX11_holds_133 : decode cX11_holds 133 = .ok (.iconst 1, 1) := by decide +kernel
theorem dX11_holds_134 : decode cX11_holds 134 = .ok (.ireturn, 1) := by decide +kernel
theorem dX11_f_0 : decode cX11_f 0 = .ok (.aload_n 0, 1) := by decide +kernel
theorem dX11_f_1 : decode cX11_f 1 = .ok (.getfield 105, 3) := by decide +kernel
theorem dX11_f_4 : decode cX11_f 4 = .ok (.bipush 11, 2) := by decide +kernel
theorem dX11_f_6 : decode cX11_f 6 = .ok (.iload_n 1, 1) := by decide +kernel
theorem dX11_f_7 : decode cX11_f 7 = .ok (.imul, 1) := by decide +kernel
theorem dX11_f_8 : decode cX11_f 8 = .ok (.iload_n 2, 1) := by decide +kernel
theorem dX11_f_9 : decode cX11_f 9 = .ok (.iadd, 1) := by decide +kernel
theorem dX11_f_10 : decode cX11_f 10 = .ok (.iaload, 1) := by decide +kernel
theorem dX11_f_11 : decode cX11_f 11 = .ok (.ireturn, 1) := by decide +kernel
theorem dX11_held_0 : decode cX11_held 0 = .ok (.iload_n 0, 1) := by decide +kernel
theorem dX11_held_1 : decode cX11_held 1 = .ok (.sipush (-500), 3) := by decide +kernel
theorem dX11_held_4 : decode cX11_held 4 = .ok (.if_icmp .ge 9, 3) := by decide +kernel
theorem dX11_held_7 : decode cX11_held 7 = .ok (.sipush (-500), 3) := by decide +kernel
theorem dX11_held_10 : decode cX11_held 10 = .ok (.goto 17, 3) := by decide +kernel
theorem dX11_held_13 : decode cX11_held 13 = .ok (.iload_n 0, 1) := by decide +kernel
theorem dX11_held_14 : decode cX11_held 14 = .ok (.sipush 1000, 3) := by decide +kernel
theorem dX11_held_17 : decode cX11_held 17 = .ok (.if_icmp .le 9, 3) := by decide +kernel
theorem dX11_held_20 : decode cX11_held 20 = .ok (.sipush 1000, 3) := by decide +kernel
theorem dX11_held_23 : decode cX11_held 23 = .ok (.goto 4, 3) := by decide +kernel
theorem dX11_held_26 : decode cX11_held 26 = .ok (.iload_n 0, 1) := by decide +kernel
theorem dX11_held_27 : decode cX11_held 27 = .ok (.ireturn, 1) := by decide +kernel
theorem dX11_findSpan_0 : decode cX11_findSpan 0 = .ok (.aload_n 0, 1) := by decide +kernel
theorem dX11_findSpan_1 : decode cX11_findSpan 1 = .ok (.getfield 98, 3) := by decide +kernel
theorem dX11_findSpan_4 : decode cX11_findSpan 4 = .ok (.iconst 0, 1) := by decide +kernel
theorem dX11_findSpan_5 : decode cX11_findSpan 5 = .ok (.aload_n 0, 1) := by decide +kernel
theorem dX11_findSpan_6 : decode cX11_findSpan 6 = .ok (.iload_n 1, 1) := by decide +kernel
theorem dX11_findSpan_7 : decode cX11_findSpan 7 = .ok (.iconst 1, 1) := by decide +kernel
theorem dX11_findSpan_8 : decode cX11_findSpan 8 = .ok (.invokevirtual 291, 3) := by decide +kernel
theorem dX11_findSpan_11 : decode cX11_findSpan 11 = .ok (.iastore, 1) := by decide +kernel
theorem dX11_findSpan_12 : decode cX11_findSpan 12 = .ok (.aload_n 0, 1) := by decide +kernel
theorem dX11_findSpan_13 : decode cX11_findSpan 13 = .ok (.getfield 98, 3) := by decide +kernel
theorem dX11_findSpan_16 : decode cX11_findSpan 16 = .ok (.iconst 1, 1) := by decide +kernel
theorem dX11_findSpan_17 : decode cX11_findSpan 17 = .ok (.aload_n 0, 1) := by decide +kernel
theorem dX11_findSpan_18 : decode cX11_findSpan 18 = .ok (.iload_n 1, 1) := by decide +kernel
theorem dX11_findSpan_19 : decode cX11_findSpan 19 = .ok (.iconst 2, 1) := by decide +kernel
theorem dX11_findSpan_20 : decode cX11_findSpan 20 = .ok (.invokevirtual 291, 3) := by decide +kernel
theorem dX11_findSpan_23 : decode cX11_findSpan 23 = .ok (.iastore, 1) := by decide +kernel
theorem dX11_findSpan_24 : decode cX11_findSpan 24 = .ok (.aload_n 0, 1) := by decide +kernel
theorem dX11_findSpan_25 : decode cX11_findSpan 25 = .ok (.getfield 98, 3) := by decide +kernel
theorem dX11_findSpan_28 : decode cX11_findSpan 28 = .ok (.iconst 2, 1) := by decide +kernel
theorem dX11_findSpan_29 : decode cX11_findSpan 29 = .ok (.aload_n 0, 1) := by decide +kernel
theorem dX11_findSpan_30 : decode cX11_findSpan 30 = .ok (.iload_n 1, 1) := by decide +kernel
theorem dX11_findSpan_31 : decode cX11_findSpan 31 = .ok (.iconst 3, 1) := by decide +kernel
theorem dX11_findSpan_32 : decode cX11_findSpan 32 = .ok (.invokevirtual 291, 3) := by decide +kernel
theorem dX11_findSpan_35 : decode cX11_findSpan 35 = .ok (.iastore, 1) := by decide +kernel
theorem dX11_findSpan_36 : decode cX11_findSpan 36 = .ok (.aload_n 0, 1) := by decide +kernel
theorem dX11_findSpan_37 : decode cX11_findSpan 37 = .ok (.getfield 98, 3) := by decide +kernel
theorem dX11_findSpan_40 : decode cX11_findSpan 40 = .ok (.iconst 3, 1) := by decide +kernel
theorem dX11_findSpan_41 : decode cX11_findSpan 41 = .ok (.aload_n 0, 1) := by decide +kernel
theorem dX11_findSpan_42 : decode cX11_findSpan 42 = .ok (.iload_n 1, 1) := by decide +kernel
theorem dX11_findSpan_43 : decode cX11_findSpan 43 = .ok (.iconst 4, 1) := by decide +kernel
theorem dX11_findSpan_44 : decode cX11_findSpan 44 = .ok (.invokevirtual 291, 3) := by decide +kernel
theorem dX11_findSpan_47 : decode cX11_findSpan 47 = .ok (.iastore, 1) := by decide +kernel
theorem dX11_findSpan_48 : decode cX11_findSpan 48 = .ok (.aload_n 0, 1) := by decide +kernel
theorem dX11_findSpan_49 : decode cX11_findSpan 49 = .ok (.getfield 98, 3) := by decide +kernel
theorem dX11_findSpan_52 : decode cX11_findSpan 52 = .ok (.iconst 4, 1) := by decide +kernel
theorem dX11_findSpan_53 : decode cX11_findSpan 53 = .ok (.aload_n 0, 1) := by decide +kernel
theorem dX11_findSpan_54 : decode cX11_findSpan 54 = .ok (.iload_n 1, 1) := by decide +kernel
theorem dX11_findSpan_55 : decode cX11_findSpan 55 = .ok (.bipush 7, 2) := by decide +kernel
theorem dX11_findSpan_57 : decode cX11_findSpan 57 = .ok (.invokevirtual 291, 3) := by decide +kernel
theorem dX11_findSpan_60 : decode cX11_findSpan 60 = .ok (.iastore, 1) := by decide +kernel
theorem dX11_findSpan_61 : decode cX11_findSpan 61 = .ok (.aload_n 0, 1) := by decide +kernel
theorem dX11_findSpan_62 : decode cX11_findSpan 62 = .ok (.getfield 98, 3) := by decide +kernel
theorem dX11_findSpan_65 : decode cX11_findSpan 65 = .ok (.iconst 5, 1) := by decide +kernel
theorem dX11_findSpan_66 : decode cX11_findSpan 66 = .ok (.aload_n 0, 1) := by decide +kernel
theorem dX11_findSpan_67 : decode cX11_findSpan 67 = .ok (.iload_n 1, 1) := by decide +kernel
theorem dX11_findSpan_68 : decode cX11_findSpan 68 = .ok (.bipush 8, 2) := by decide +kernel
theorem dX11_findSpan_70 : decode cX11_findSpan 70 = .ok (.invokevirtual 291, 3) := by decide +kernel
theorem dX11_findSpan_73 : decode cX11_findSpan 73 = .ok (.iastore, 1) := by decide +kernel
theorem dX11_findSpan_74 : decode cX11_findSpan 74 = .ok (.aload_n 0, 1) := by decide +kernel
theorem dX11_findSpan_75 : decode cX11_findSpan 75 = .ok (.getfield 98, 3) := by decide +kernel
theorem dX11_findSpan_78 : decode cX11_findSpan 78 = .ok (.bipush 6, 2) := by decide +kernel
theorem dX11_findSpan_80 : decode cX11_findSpan 80 = .ok (.sipush 2000, 3) := by decide +kernel
theorem dX11_findSpan_83 : decode cX11_findSpan 83 = .ok (.aload_n 0, 1) := by decide +kernel
theorem dX11_findSpan_84 : decode cX11_findSpan 84 = .ok (.iload_n 1, 1) := by decide +kernel
theorem dX11_findSpan_85 : decode cX11_findSpan 85 = .ok (.bipush 6, 2) := by decide +kernel
theorem dX11_findSpan_87 : decode cX11_findSpan 87 = .ok (.invokevirtual 291, 3) := by decide +kernel
theorem dX11_findSpan_90 : decode cX11_findSpan 90 = .ok (.isub, 1) := by decide +kernel
theorem dX11_findSpan_91 : decode cX11_findSpan 91 = .ok (.iastore, 1) := by decide +kernel
theorem dX11_findSpan_92 : decode cX11_findSpan 92 = .ok (.iconst 0, 1) := by decide +kernel
theorem dX11_findSpan_93 : decode cX11_findSpan 93 = .ok (.istore_n 2, 1) := by decide +kernel
theorem dX11_findSpan_94 : decode cX11_findSpan 94 = .ok (.iconst 0, 1) := by decide +kernel
theorem dX11_findSpan_95 : decode cX11_findSpan 95 = .ok (.istore_n 3, 1) := by decide +kernel
theorem dX11_findSpan_96 : decode cX11_findSpan 96 = .ok (.iconst 1, 1) := by decide +kernel
theorem dX11_findSpan_97 : decode cX11_findSpan 97 = .ok (.istore 4, 2) := by decide +kernel
theorem dX11_findSpan_99 : decode cX11_findSpan 99 = .ok (.iconst 0, 1) := by decide +kernel
theorem dX11_findSpan_100 : decode cX11_findSpan 100 = .ok (.istore 5, 2) := by decide +kernel
theorem dX11_findSpan_102 : decode cX11_findSpan 102 = .ok (.iload 5, 2) := by decide +kernel
theorem dX11_findSpan_104 : decode cX11_findSpan 104 = .ok (.aload_n 0, 1) := by decide +kernel
theorem dX11_findSpan_105 : decode cX11_findSpan 105 = .ok (.getfield 53, 3) := by decide +kernel
theorem dX11_findSpan_108 : decode cX11_findSpan 108 = .ok (.iconst 0, 1) := by decide +kernel
theorem dX11_findSpan_109 : decode cX11_findSpan 109 = .ok (.iaload, 1) := by decide +kernel
theorem dX11_findSpan_110 : decode cX11_findSpan 110 = .ok (.if_icmp .ge 108, 3) := by decide +kernel
theorem dX11_findSpan_113 : decode cX11_findSpan 113 = .ok (.iload 4, 2) := by decide +kernel
theorem dX11_findSpan_115 : decode cX11_findSpan 115 = .ok (.ifCond .eq 103, 3) := by decide +kernel
theorem dX11_findSpan_118 : decode cX11_findSpan 118 = .ok (.aload_n 0, 1) := by decide +kernel
theorem dX11_findSpan_119 : decode cX11_findSpan 119 = .ok (.iload 5, 2) := by decide +kernel
theorem dX11_findSpan_121 : decode cX11_findSpan 121 = .ok (.invokevirtual 295, 3) := by decide +kernel
theorem dX11_findSpan_124 : decode cX11_findSpan 124 = .ok (.ifCond .eq 88, 3) := by decide +kernel
theorem dX11_findSpan_127 : decode cX11_findSpan 127 = .ok (.aload_n 0, 1) := by decide +kernel
theorem dX11_findSpan_128 : decode cX11_findSpan 128 = .ok (.getfield 68, 3) := by decide +kernel
theorem dX11_findSpan_131 : decode cX11_findSpan 131 = .ok (.iload 5, 2) := by decide +kernel
theorem dX11_findSpan_133 : decode cX11_findSpan 133 = .ok (.iaload, 1) := by decide +kernel
theorem dX11_findSpan_134 : decode cX11_findSpan 134 = .ok (.iconst 2, 1) := by decide +kernel
theorem dX11_findSpan_135 : decode cX11_findSpan 135 = .ok (.if_icmp .ge 7, 3) := by decide +kernel
theorem dX11_findSpan_138 : decode cX11_findSpan 138 = .ok (.iconst 1, 1) := by decide +kernel
theorem dX11_findSpan_139 : decode cX11_findSpan 139 = .ok (.goto 4, 3) := by decide +kernel
theorem dX11_findSpan_142 : decode cX11_findSpan 142 = .ok (.iconst 0, 1) := by decide +kernel
theorem dX11_findSpan_143 : decode cX11_findSpan 143 = .ok (.istore 4, 2) := by decide +kernel
theorem dX11_findSpan_145 : decode cX11_findSpan 145 = .ok (.iload 4, 2) := by decide +kernel
theorem dX11_findSpan_147 : decode cX11_findSpan 147 = .ok (.ifCond .eq 65, 3) := by decide +kernel
theorem dX11_findSpan_150 : decode cX11_findSpan 150 = .ok (.iload_n 2, 1) := by decide +kernel
theorem dX11_findSpan_151 : decode cX11_findSpan 151 = .ok (.aload_n 0, 1) := by decide +kernel
theorem dX11_findSpan_152 : decode cX11_findSpan 152 = .ok (.getfield 68, 3) := by decide +kernel
theorem dX11_findSpan_155 : decode cX11_findSpan 155 = .ok (.iload 5, 2) := by decide +kernel
theorem dX11_findSpan_157 : decode cX11_findSpan 157 = .ok (.iaload, 1) := by decide +kernel
theorem dX11_findSpan_158 : decode cX11_findSpan 158 = .ok (.ifCond .ne 13, 3) := by decide +kernel
theorem dX11_findSpan_161 : decode cX11_findSpan 161 = .ok (.aload_n 0, 1) := by decide +kernel
theorem dX11_findSpan_162 : decode cX11_findSpan 162 = .ok (.getfield 71, 3) := by decide +kernel
theorem dX11_findSpan_165 : decode cX11_findSpan 165 = .ok (.iload 5, 2) := by decide +kernel
theorem dX11_findSpan_167 : decode cX11_findSpan 167 = .ok (.iaload, 1) := by decide +kernel
theorem dX11_findSpan_168 : decode cX11_findSpan 168 = .ok (.goto 11, 3) := by decide +kernel
theorem dX11_findSpan_171 : decode cX11_findSpan 171 = .ok (.aload_n 0, 1) := by decide +kernel
theorem dX11_findSpan_172 : decode cX11_findSpan 172 = .ok (.getfield 74, 3) := by decide +kernel
theorem dX11_findSpan_175 : decode cX11_findSpan 175 = .ok (.iload 5, 2) := by decide +kernel
theorem dX11_findSpan_177 : decode cX11_findSpan 177 = .ok (.iaload, 1) := by decide +kernel
theorem dX11_findSpan_178 : decode cX11_findSpan 178 = .ok (.ineg, 1) := by decide +kernel
theorem dX11_findSpan_179 : decode cX11_findSpan 179 = .ok (.iadd, 1) := by decide +kernel
theorem dX11_findSpan_180 : decode cX11_findSpan 180 = .ok (.istore_n 2, 1) := by decide +kernel
theorem dX11_findSpan_181 : decode cX11_findSpan 181 = .ok (.iload_n 3, 1) := by decide +kernel
theorem dX11_findSpan_182 : decode cX11_findSpan 182 = .ok (.aload_n 0, 1) := by decide +kernel
theorem dX11_findSpan_183 : decode cX11_findSpan 183 = .ok (.getfield 68, 3) := by decide +kernel
theorem dX11_findSpan_186 : decode cX11_findSpan 186 = .ok (.iload 5, 2) := by decide +kernel
theorem dX11_findSpan_188 : decode cX11_findSpan 188 = .ok (.iaload, 1) := by decide +kernel
theorem dX11_findSpan_189 : decode cX11_findSpan 189 = .ok (.ifCond .ne 13, 3) := by decide +kernel
theorem dX11_findSpan_192 : decode cX11_findSpan 192 = .ok (.aload_n 0, 1) := by decide +kernel
theorem dX11_findSpan_193 : decode cX11_findSpan 193 = .ok (.getfield 74, 3) := by decide +kernel
theorem dX11_findSpan_196 : decode cX11_findSpan 196 = .ok (.iload 5, 2) := by decide +kernel
theorem dX11_findSpan_198 : decode cX11_findSpan 198 = .ok (.iaload, 1) := by decide +kernel
theorem dX11_findSpan_199 : decode cX11_findSpan 199 = .ok (.goto 11, 3) := by decide +kernel
theorem dX11_findSpan_202 : decode cX11_findSpan 202 = .ok (.aload_n 0, 1) := by decide +kernel
theorem dX11_findSpan_203 : decode cX11_findSpan 203 = .ok (.getfield 71, 3) := by decide +kernel
theorem dX11_findSpan_206 : decode cX11_findSpan 206 = .ok (.iload 5, 2) := by decide +kernel
theorem dX11_findSpan_208 : decode cX11_findSpan 208 = .ok (.iaload, 1) := by decide +kernel
theorem dX11_findSpan_209 : decode cX11_findSpan 209 = .ok (.ineg, 1) := by decide +kernel
theorem dX11_findSpan_210 : decode cX11_findSpan 210 = .ok (.iadd, 1) := by decide +kernel
theorem dX11_findSpan_211 : decode cX11_findSpan 211 = .ok (.istore_n 3, 1) := by decide +kernel
theorem dX11_findSpan_212 : decode cX11_findSpan 212 = .ok (.iinc 5 1, 3) := by decide +kernel
theorem dX11_findSpan_215 : decode cX11_findSpan 215 = .ok (.goto (-113), 3) := by decide +kernel
theorem dX11_findSpan_218 : decode cX11_findSpan 218 = .ok (.aload_n 0, 1) := by decide +kernel
theorem dX11_findSpan_219 : decode cX11_findSpan 219 = .ok (.iload_n 1, 1) := by decide +kernel
theorem dX11_findSpan_220 : decode cX11_findSpan 220 = .ok (.iconst 0, 1) := by decide +kernel
theorem dX11_findSpan_221 : decode cX11_findSpan 221 = .ok (.invokevirtual 291, 3) := by decide +kernel
theorem dX11_findSpan_224 : decode cX11_findSpan 224 = .ok (.aload_n 0, 1) := by decide +kernel
theorem dX11_findSpan_225 : decode cX11_findSpan 225 = .ok (.iload_n 1, 1) := by decide +kernel
theorem dX11_findSpan_226 : decode cX11_findSpan 226 = .ok (.iconst 3, 1) := by decide +kernel
theorem dX11_findSpan_227 : decode cX11_findSpan 227 = .ok (.invokevirtual 291, 3) := by decide +kernel
theorem dX11_findSpan_230 : decode cX11_findSpan 230 = .ok (.isub, 1) := by decide +kernel
theorem dX11_findSpan_231 : decode cX11_findSpan 231 = .ok (.istore 5, 2) := by decide +kernel
theorem dX11_findSpan_233 : decode cX11_findSpan 233 = .ok (.iload 5, 2) := by decide +kernel
theorem dX11_findSpan_235 : decode cX11_findSpan 235 = .ok (.iload 5, 2) := by decide +kernel
theorem dX11_findSpan_237 : decode cX11_findSpan 237 = .ok (.iload_n 2, 1) := by decide +kernel
theorem dX11_findSpan_238 : decode cX11_findSpan 238 = .ok (.invokestatic 298, 3) := by decide +kernel
theorem dX11_findSpan_241 : decode cX11_findSpan 241 = .ok (.imul, 1) := by decide +kernel
theorem dX11_findSpan_242 : decode cX11_findSpan 242 = .ok (.sipush 1000, 3) := by decide +kernel
theorem dX11_findSpan_245 : decode cX11_findSpan 245 = .ok (.idiv, 1) := by decide +kernel
theorem dX11_findSpan_246 : decode cX11_findSpan 246 = .ok (.iadd, 1) := by decide +kernel
theorem dX11_findSpan_247 : decode cX11_findSpan 247 = .ok (.istore 6, 2) := by decide +kernel
theorem dX11_findSpan_249 : decode cX11_findSpan 249 = .ok (.iload 5, 2) := by decide +kernel
theorem dX11_findSpan_251 : decode cX11_findSpan 251 = .ok (.iload 5, 2) := by decide +kernel
theorem dX11_findSpan_253 : decode cX11_findSpan 253 = .ok (.iload_n 3, 1) := by decide +kernel
theorem dX11_findSpan_254 : decode cX11_findSpan 254 = .ok (.invokestatic 298, 3) := by decide +kernel
theorem dX11_findSpan_257 : decode cX11_findSpan 257 = .ok (.imul, 1) := by decide +kernel
theorem dX11_findSpan_258 : decode cX11_findSpan 258 = .ok (.sipush 1000, 3) := by decide +kernel
theorem dX11_findSpan_261 : decode cX11_findSpan 261 = .ok (.idiv, 1) := by decide +kernel
theorem dX11_findSpan_262 : decode cX11_findSpan 262 = .ok (.iadd, 1) := by decide +kernel
theorem dX11_findSpan_263 : decode cX11_findSpan 263 = .ok (.istore 7, 2) := by decide +kernel
theorem dX11_findSpan_265 : decode cX11_findSpan 265 = .ok (.aload_n 0, 1) := by decide +kernel
theorem dX11_findSpan_266 : decode cX11_findSpan 266 = .ok (.getfield 108, 3) := by decide +kernel
theorem dX11_findSpan_269 : decode cX11_findSpan 269 = .ok (.iload_n 1, 1) := by decide +kernel
theorem dX11_findSpan_270 : decode cX11_findSpan 270 = .ok (.iload 6, 2) := by decide +kernel
theorem dX11_findSpan_272 : decode cX11_findSpan 272 = .ok (.iconst 1, 1) := by decide +kernel
theorem dX11_findSpan_273 : decode cX11_findSpan 273 = .ok (.if_icmp .ge 7, 3) := by decide +kernel
theorem dX11_findSpan_276 : decode cX11_findSpan 276 = .ok (.iconst 1, 1) := by decide +kernel
theorem dX11_findSpan_277 : decode cX11_findSpan 277 = .ok (.goto 5, 3) := by decide +kernel
theorem dX11_findSpan_280 : decode cX11_findSpan 280 = .ok (.iload 6, 2) := by decide +kernel
theorem dX11_findSpan_282 : decode cX11_findSpan 282 = .ok (.iastore, 1) := by decide +kernel
theorem dX11_findSpan_283 : decode cX11_findSpan 283 = .ok (.aload_n 0, 1) := by decide +kernel
theorem dX11_findSpan_284 : decode cX11_findSpan 284 = .ok (.getfield 111, 3) := by decide +kernel
theorem dX11_findSpan_287 : decode cX11_findSpan 287 = .ok (.iload_n 1, 1) := by decide +kernel
theorem dX11_findSpan_288 : decode cX11_findSpan 288 = .ok (.iload 7, 2) := by decide +kernel
theorem dX11_findSpan_290 : decode cX11_findSpan 290 = .ok (.iconst 1, 1) := by decide +kernel
theorem dX11_findSpan_291 : decode cX11_findSpan 291 = .ok (.if_icmp .ge 7, 3) := by decide +kernel
theorem dX11_findSpan_294 : decode cX11_findSpan 294 = .ok (.iconst 1, 1) := by decide +kernel
theorem dX11_findSpan_295 : decode cX11_findSpan 295 = .ok (.goto 5, 3) := by decide +kernel
theorem dX11_findSpan_298 : decode cX11_findSpan 298 = .ok (.iload 7, 2) := by decide +kernel
theorem dX11_findSpan_300 : decode cX11_findSpan 300 = .ok (.iastore, 1) := by decide +kernel
theorem dX11_findSpan_301 : decode cX11_findSpan 301 = .ok (.return_, 1) := by decide +kernel
theorem dX11_isChosen_0 : decode cX11_isChosen 0 = .ok (.aload_n 0, 1) := by decide +kernel
theorem dX11_isChosen_1 : decode cX11_isChosen 1 = .ok (.iload_n 1, 1) := by decide +kernel
theorem dX11_isChosen_2 : decode cX11_isChosen 2 = .ok (.iconst 5, 1) := by decide +kernel
theorem dX11_isChosen_3 : decode cX11_isChosen 3 = .ok (.invokevirtual 291, 3) := by decide +kernel
theorem dX11_isChosen_6 : decode cX11_isChosen 6 = .ok (.aload_n 0, 1) := by decide +kernel
theorem dX11_isChosen_7 : decode cX11_isChosen 7 = .ok (.getfield 47, 3) := by decide +kernel
theorem dX11_isChosen_10 : decode cX11_isChosen 10 = .ok (.iconst 1, 1) := by decide +kernel
theorem dX11_isChosen_11 : decode cX11_isChosen 11 = .ok (.iaload, 1) := by decide +kernel
theorem dX11_isChosen_12 : decode cX11_isChosen 12 = .ok (.if_icmp .gt 23, 3) := by decide +kernel
theorem dX11_isChosen_15 : decode cX11_isChosen 15 = .ok (.aload_n 0, 1) := by decide +kernel
theorem dX11_isChosen_16 : decode cX11_isChosen 16 = .ok (.iload_n 1, 1) := by decide +kernel
theorem dX11_isChosen_17 : decode cX11_isChosen 17 = .ok (.bipush 6, 2) := by decide +kernel
theorem dX11_isChosen_19 : decode cX11_isChosen 19 = .ok (.invokevirtual 291, 3) := by decide +kernel
theorem dX11_isChosen_22 : decode cX11_isChosen 22 = .ok (.aload_n 0, 1) := by decide +kernel
theorem dX11_isChosen_23 : decode cX11_isChosen 23 = .ok (.getfield 47, 3) := by decide +kernel
theorem dX11_isChosen_26 : decode cX11_isChosen 26 = .ok (.iconst 0, 1) := by decide +kernel
theorem dX11_isChosen_27 : decode cX11_isChosen 27 = .ok (.iaload, 1) := by decide +kernel
theorem dX11_isChosen_28 : decode cX11_isChosen 28 = .ok (.if_icmp .lt 7, 3) := by decide +kernel
theorem dX11_isChosen_31 : decode cX11_isChosen 31 = .ok (.iconst 1, 1) := by decide +kernel
theorem dX11_isChosen_32 : decode cX11_isChosen 32 = .ok (.goto 4, 3) := by decide +kernel
theorem dX11_isChosen_35 : decode cX11_isChosen 35 = .ok (.iconst 0, 1) := by decide +kernel
theorem dX11_isChosen_36 : decode cX11_isChosen 36 = .ok (.istore_n 2, 1) := by decide +kernel
theorem dX11_isChosen_37 : decode cX11_isChosen 37 = .ok (.aload_n 0, 1) := by decide +kernel
theorem dX11_isChosen_38 : decode cX11_isChosen 38 = .ok (.getfield 50, 3) := by decide +kernel
theorem dX11_isChosen_41 : decode cX11_isChosen 41 = .ok (.iconst 0, 1) := by decide +kernel
theorem dX11_isChosen_42 : decode cX11_isChosen 42 = .ok (.iaload, 1) := by decide +kernel
theorem dX11_isChosen_43 : decode cX11_isChosen 43 = .ok (.ifCond .eq 36, 3) := by decide +kernel
theorem dX11_isChosen_46 : decode cX11_isChosen 46 = .ok (.aload_n 0, 1) := by decide +kernel
theorem dX11_isChosen_47 : decode cX11_isChosen 47 = .ok (.getfield 50, 3) := by decide +kernel
theorem dX11_isChosen_50 : decode cX11_isChosen 50 = .ok (.iconst 0, 1) := by decide +kernel
theorem dX11_isChosen_51 : decode cX11_isChosen 51 = .ok (.iaload, 1) := by decide +kernel
theorem dX11_isChosen_52 : decode cX11_isChosen 52 = .ok (.iconst 1, 1) := by decide +kernel
theorem dX11_isChosen_53 : decode cX11_isChosen 53 = .ok (.if_icmp .ne 7, 3) := by decide +kernel
theorem dX11_isChosen_56 : decode cX11_isChosen 56 = .ok (.iconst 1, 1) := by decide +kernel
theorem dX11_isChosen_57 : decode cX11_isChosen 57 = .ok (.goto 4, 3) := by decide +kernel
theorem dX11_isChosen_60 : decode cX11_isChosen 60 = .ok (.iconst 0, 1) := by decide +kernel
theorem dX11_isChosen_61 : decode cX11_isChosen 61 = .ok (.aload_n 0, 1) := by decide +kernel
theorem dX11_isChosen_62 : decode cX11_isChosen 62 = .ok (.iload_n 1, 1) := by decide +kernel
theorem dX11_isChosen_63 : decode cX11_isChosen 63 = .ok (.bipush 7, 2) := by decide +kernel
theorem dX11_isChosen_65 : decode cX11_isChosen 65 = .ok (.invokevirtual 291, 3) := by decide +kernel
theorem dX11_isChosen_68 : decode cX11_isChosen 68 = .ok (.ifCond .le 7, 3) := by decide +kernel
theorem dX11_isChosen_71 : decode cX11_isChosen 71 = .ok (.iconst 1, 1) := by decide +kernel
theorem dX11_isChosen_72 : decode cX11_isChosen 72 = .ok (.goto 4, 3) := by decide +kernel
theorem dX11_isChosen_75 : decode cX11_isChosen 75 = .ok (.iconst 0, 1) := by decide +kernel
theorem dX11_isChosen_76 : decode cX11_isChosen 76 = .ok (.if_icmp .ne 7, 3) := by decide +kernel
theorem dX11_isChosen_79 : decode cX11_isChosen 79 = .ok (.iconst 1, 1) := by decide +kernel
theorem dX11_isChosen_80 : decode cX11_isChosen 80 = .ok (.goto 4, 3) := by decide +kernel
theorem dX11_isChosen_83 : decode cX11_isChosen 83 = .ok (.iconst 0, 1) := by decide +kernel
theorem dX11_isChosen_84 : decode cX11_isChosen 84 = .ok (.istore_n 3, 1) := by decide +kernel
theorem dX11_isChosen_85 : decode cX11_isChosen 85 = .ok (.aload_n 0, 1) := by decide +kernel
theorem dX11_isChosen_86 : decode cX11_isChosen 86 = .ok (.iload_n 1, 1) := by decide +kernel
theorem dX11_isChosen_87 : decode cX11_isChosen 87 = .ok (.bipush 9, 2) := by decide +kernel
theorem dX11_isChosen_89 : decode cX11_isChosen 89 = .ok (.invokevirtual 291, 3) := by decide +kernel
theorem dX11_isChosen_92 : decode cX11_isChosen 92 = .ok (.iconst 1, 1) := by decide +kernel
theorem dX11_isChosen_93 : decode cX11_isChosen 93 = .ok (.if_icmp .ne 51, 3) := by decide +kernel
theorem dX11_isChosen_96 : decode cX11_isChosen 96 = .ok (.aload_n 0, 1) := by decide +kernel
theorem dX11_isChosen_97 : decode cX11_isChosen 97 = .ok (.getfield 41, 3) := by decide +kernel
theorem dX11_isChosen_100 : decode cX11_isChosen 100 = .ok (.iconst 0, 1) := by decide +kernel
theorem dX11_isChosen_101 : decode cX11_isChosen 101 = .ok (.iaload, 1) := by decide +kernel
theorem dX11_isChosen_102 : decode cX11_isChosen 102 = .ok (.aload_n 0, 1) := by decide +kernel
theorem dX11_isChosen_103 : decode cX11_isChosen 103 = .ok (.iload_n 1, 1) := by decide +kernel
theorem dX11_isChosen_104 : decode cX11_isChosen 104 = .ok (.iconst 4, 1) := by decide +kernel
theorem dX11_isChosen_105 : decode cX11_isChosen 105 = .ok (.invokevirtual 291, 3) := by decide +kernel
theorem dX11_isChosen_108 : decode cX11_isChosen 108 = .ok (.ishr, 1) := by decide +kernel
theorem dX11_isChosen_109 : decode cX11_isChosen 109 = .ok (.iconst 1, 1) := by decide +kernel
theorem dX11_isChosen_110 : decode cX11_isChosen 110 = .ok (.iand, 1) := by decide +kernel
theorem dX11_isChosen_111 : decode cX11_isChosen 111 = .ok (.ifCond .eq 33, 3) := by decide +kernel
theorem dX11_isChosen_114 : decode cX11_isChosen 114 = .ok (.aload_n 0, 1) := by decide +kernel
theorem dX11_isChosen_115 : decode cX11_isChosen 115 = .ok (.getfield 44, 3) := by decide +kernel
theorem dX11_isChosen_118 : decode cX11_isChosen 118 = .ok (.iconst 0, 1) := by decide +kernel
theorem dX11_isChosen_119 : decode cX11_isChosen 119 = .ok (.iaload, 1) := by decide +kernel
theorem dX11_isChosen_120 : decode cX11_isChosen 120 = .ok (.aload_n 0, 1) := by decide +kernel
theorem dX11_isChosen_121 : decode cX11_isChosen 121 = .ok (.iload_n 1, 1) := by decide +kernel
theorem dX11_isChosen_122 : decode cX11_isChosen 122 = .ok (.iconst 1, 1) := by decide +kernel
theorem dX11_isChosen_123 : decode cX11_isChosen 123 = .ok (.invokevirtual 291, 3) := by decide +kernel
theorem dX11_isChosen_126 : decode cX11_isChosen 126 = .ok (.ishr, 1) := by decide +kernel
theorem dX11_isChosen_127 : decode cX11_isChosen 127 = .ok (.iconst 1, 1) := by decide +kernel
theorem dX11_isChosen_128 : decode cX11_isChosen 128 = .ok (.iand, 1) := by decide +kernel
theorem dX11_isChosen_129 : decode cX11_isChosen 129 = .ok (.ifCond .eq 15, 3) := by decide +kernel
theorem dX11_isChosen_132 : decode cX11_isChosen 132 = .ok (.iload_n 2, 1) := by decide +kernel
theorem dX11_isChosen_133 : decode cX11_isChosen 133 = .ok (.ifCond .eq 11, 3) := by decide +kernel
theorem dX11_isChosen_136 : decode cX11_isChosen 136 = .ok (.iload_n 3, 1) := by decide +kernel
theorem dX11_isChosen_137 : decode cX11_isChosen 137 = .ok (.ifCond .eq 7, 3) := by decide +kernel
theorem dX11_isChosen_140 : decode cX11_isChosen 140 = .ok (.iconst 1, 1) := by decide +kernel
theorem dX11_isChosen_141 : decode cX11_isChosen 141 = .ok (.goto 4, 3) := by decide +kernel
theorem dX11_isChosen_144 : decode cX11_isChosen 144 = .ok (.iconst 0, 1) := by decide +kernel
theorem dX11_isChosen_145 : decode cX11_isChosen 145 = .ok (.ireturn, 1) := by decide +kernel
theorem dX11_look_0 : decode cX11_look 0 = .ok (.aload_n 0, 1) := by decide +kernel
theorem dX11_look_1 : decode cX11_look 1 = .ok (.invokevirtual 142, 3) := by decide +kernel
theorem dX11_look_4 : decode cX11_look 4 = .ok (.istore_n 1, 1) := by decide +kernel
theorem dX11_look_5 : decode cX11_look 5 = .ok (.aload_n 0, 1) := by decide +kernel
theorem dX11_look_6 : decode cX11_look 6 = .ok (.aload_n 0, 1) := by decide +kernel
theorem dX11_look_7 : decode cX11_look 7 = .ok (.getfield 23, 3) := by decide +kernel
theorem dX11_look_10 : decode cX11_look 10 = .ok (.iconst 0, 1) := by decide +kernel
theorem dX11_look_11 : decode cX11_look 11 = .ok (.iaload, 1) := by decide +kernel
theorem dX11_look_12 : decode cX11_look 12 = .ok (.putfield 302, 3) := by decide +kernel
theorem dX11_look_15 : decode cX11_look 15 = .ok (.iconst 0, 1) := by decide +kernel
theorem dX11_look_16 : decode cX11_look 16 = .ok (.istore_n 2, 1) := by decide +kernel
theorem dX11_look_17 : decode cX11_look 17 = .ok (.iload_n 2, 1) := by decide +kernel
theorem dX11_look_18 : decode cX11_look 18 = .ok (.aload_n 0, 1) := by decide +kernel
theorem dX11_look_19 : decode cX11_look 19 = .ok (.getfield 302, 3) := by decide +kernel
theorem dX11_look_22 : decode cX11_look 22 = .ok (.if_icmp .ge 179, 3) := by decide +kernel
theorem dX11_look_25 : decode cX11_look 25 = .ok (.aload_n 0, 1) := by decide +kernel
theorem dX11_look_26 : decode cX11_look 26 = .ok (.getfield 101, 3) := by decide +kernel
theorem dX11_look_29 : decode cX11_look 29 = .ok (.iload_n 2, 1) := by decide +kernel
theorem dX11_look_30 : decode cX11_look 30 = .ok (.aload_n 0, 1) := by decide +kernel
theorem dX11_look_31 : decode cX11_look 31 = .ok (.getfield 38, 3) := by decide +kernel
theorem dX11_look_34 : decode cX11_look 34 = .ok (.iconst 3, 1) := by decide +kernel
theorem dX11_look_35 : decode cX11_look 35 = .ok (.iload_n 2, 1) := by decide +kernel
theorem dX11_look_36 : decode cX11_look 36 = .ok (.imul, 1) := by decide +kernel
theorem dX11_look_37 : decode cX11_look 37 = .ok (.iaload, 1) := by decide +kernel
theorem dX11_look_38 : decode cX11_look 38 = .ok (.iload_n 1, 1) := by decide +kernel
theorem dX11_look_39 : decode cX11_look 39 = .ok (.if_icmp .gt 7, 3) := by decide +kernel
theorem dX11_look_42 : decode cX11_look 42 = .ok (.iconst 1, 1) := by decide +kernel
theorem dX11_look_43 : decode cX11_look 43 = .ok (.goto 4, 3) := by decide +kernel
theorem dX11_look_46 : decode cX11_look 46 = .ok (.iconst 0, 1) := by decide +kernel
theorem dX11_look_47 : decode cX11_look 47 = .ok (.bastore, 1) := by decide +kernel
theorem dX11_look_48 : decode cX11_look 48 = .ok (.aload_n 0, 1) := by decide +kernel
theorem dX11_look_49 : decode cX11_look 49 = .ok (.getfield 105, 3) := by decide +kernel
theorem dX11_look_52 : decode cX11_look 52 = .ok (.bipush 11, 2) := by decide +kernel
theorem dX11_look_54 : decode cX11_look 54 = .ok (.iload_n 2, 1) := by decide +kernel
theorem dX11_look_55 : decode cX11_look 55 = .ok (.imul, 1) := by decide +kernel
theorem dX11_look_56 : decode cX11_look 56 = .ok (.iconst 1, 1) := by decide +kernel
theorem dX11_look_57 : decode cX11_look 57 = .ok (.iadd, 1) := by decide +kernel
theorem dX11_look_58 : decode cX11_look 58 = .ok (.aload_n 0, 1) := by decide +kernel
theorem dX11_look_59 : decode cX11_look 59 = .ok (.getfield 38, 3) := by decide +kernel
theorem dX11_look_62 : decode cX11_look 62 = .ok (.iconst 3, 1) := by decide +kernel
theorem dX11_look_63 : decode cX11_look 63 = .ok (.iload_n 2, 1) := by decide +kernel
theorem dX11_look_64 : decode cX11_look 64 = .ok (.imul, 1) := by decide +kernel
theorem dX11_look_65 : decode cX11_look 65 = .ok (.iconst 1, 1) := by decide +kernel
theorem dX11_look_66 : decode cX11_look 66 = .ok (.iadd, 1) := by decide +kernel
theorem dX11_look_67 : decode cX11_look 67 = .ok (.iaload, 1) := by decide +kernel
theorem dX11_look_68 : decode cX11_look 68 = .ok (.iastore, 1) := by decide +kernel
theorem dX11_look_69 : decode cX11_look 69 = .ok (.aload_n 0, 1) := by decide +kernel
theorem dX11_look_70 : decode cX11_look 70 = .ok (.getfield 105, 3) := by decide +kernel
theorem dX11_look_73 : decode cX11_look 73 = .ok (.bipush 11, 2) := by decide +kernel
theorem dX11_look_75 : decode cX11_look 75 = .ok (.iload_n 2, 1) := by decide +kernel
theorem dX11_look_76 : decode cX11_look 76 = .ok (.imul, 1) := by decide +kernel
theorem dX11_look_77 : decode cX11_look 77 = .ok (.iconst 4, 1) := by decide +kernel
theorem dX11_look_78 : decode cX11_look 78 = .ok (.iadd, 1) := by decide +kernel
theorem dX11_look_79 : decode cX11_look 79 = .ok (.aload_n 0, 1) := by decide +kernel
theorem dX11_look_80 : decode cX11_look 80 = .ok (.getfield 38, 3) := by decide +kernel
theorem dX11_look_83 : decode cX11_look 83 = .ok (.iconst 3, 1) := by decide +kernel
theorem dX11_look_84 : decode cX11_look 84 = .ok (.iload_n 2, 1) := by decide +kernel
theorem dX11_look_85 : decode cX11_look 85 = .ok (.imul, 1) := by decide +kernel
theorem dX11_look_86 : decode cX11_look 86 = .ok (.iconst 2, 1) := by decide +kernel
theorem dX11_look_87 : decode cX11_look 87 = .ok (.iadd, 1) := by decide +kernel
theorem dX11_look_88 : decode cX11_look 88 = .ok (.iaload, 1) := by decide +kernel
theorem dX11_look_89 : decode cX11_look 89 = .ok (.iastore, 1) := by decide +kernel
theorem dX11_look_90 : decode cX11_look 90 = .ok (.aload_n 0, 1) := by decide +kernel
theorem dX11_look_91 : decode cX11_look 91 = .ok (.getfield 105, 3) := by decide +kernel
theorem dX11_look_94 : decode cX11_look 94 = .ok (.bipush 11, 2) := by decide +kernel
theorem dX11_look_96 : decode cX11_look 96 = .ok (.iload_n 2, 1) := by decide +kernel
theorem dX11_look_97 : decode cX11_look 97 = .ok (.imul, 1) := by decide +kernel
theorem dX11_look_98 : decode cX11_look 98 = .ok (.iconst 2, 1) := by decide +kernel
theorem dX11_look_99 : decode cX11_look 99 = .ok (.iadd, 1) := by decide +kernel
theorem dX11_look_100 : decode cX11_look 100 = .ok (.iconst 0, 1) := by decide +kernel
theorem dX11_look_101 : decode cX11_look 101 = .ok (.iastore, 1) := by decide +kernel
theorem dX11_look_102 : decode cX11_look 102 = .ok (.aload_n 0, 1) := by decide +kernel
theorem dX11_look_103 : decode cX11_look 103 = .ok (.getfield 105, 3) := by decide +kernel
theorem dX11_look_106 : decode cX11_look 106 = .ok (.bipush 11, 2) := by decide +kernel
theorem dX11_look_108 : decode cX11_look 108 = .ok (.iload_n 2, 1) := by decide +kernel
theorem dX11_look_109 : decode cX11_look 109 = .ok (.imul, 1) := by decide +kernel
theorem dX11_look_110 : decode cX11_look 110 = .ok (.iconst 3, 1) := by decide +kernel
theorem dX11_look_111 : decode cX11_look 111 = .ok (.iadd, 1) := by decide +kernel
theorem dX11_look_112 : decode cX11_look 112 = .ok (.iconst 0, 1) := by decide +kernel
theorem dX11_look_113 : decode cX11_look 113 = .ok (.iastore, 1) := by decide +kernel
theorem dX11_look_114 : decode cX11_look 114 = .ok (.aload_n 0, 1) := by decide +kernel
theorem dX11_look_115 : decode cX11_look 115 = .ok (.getfield 105, 3) := by decide +kernel
theorem dX11_look_118 : decode cX11_look 118 = .ok (.bipush 11, 2) := by decide +kernel
theorem dX11_look_120 : decode cX11_look 120 = .ok (.iload_n 2, 1) := by decide +kernel
theorem dX11_look_121 : decode cX11_look 121 = .ok (.imul, 1) := by decide +kernel
theorem dX11_look_122 : decode cX11_look 122 = .ok (.iconst 5, 1) := by decide +kernel
theorem dX11_look_123 : decode cX11_look 123 = .ok (.iadd, 1) := by decide +kernel
theorem dX11_look_124 : decode cX11_look 124 = .ok (.sipush (-3000), 3) := by decide +kernel
theorem dX11_look_127 : decode cX11_look 127 = .ok (.iastore, 1) := by decide +kernel
theorem dX11_look_128 : decode cX11_look 128 = .ok (.aload_n 0, 1) := by decide +kernel
theorem dX11_look_129 : decode cX11_look 129 = .ok (.getfield 105, 3) := by decide +kernel
theorem dX11_look_132 : decode cX11_look 132 = .ok (.bipush 11, 2) := by decide +kernel
theorem dX11_look_134 : decode cX11_look 134 = .ok (.iload_n 2, 1) := by decide +kernel
theorem dX11_look_135 : decode cX11_look 135 = .ok (.imul, 1) := by decide +kernel
theorem dX11_look_136 : decode cX11_look 136 = .ok (.bipush 6, 2) := by decide +kernel
theorem dX11_look_138 : decode cX11_look 138 = .ok (.iadd, 1) := by decide +kernel
theorem dX11_look_139 : decode cX11_look 139 = .ok (.sipush 1900, 3) := by decide +kernel
theorem dX11_look_142 : decode cX11_look 142 = .ok (.iastore, 1) := by decide +kernel
theorem dX11_look_143 : decode cX11_look 143 = .ok (.aload_n 0, 1) := by decide +kernel
theorem dX11_look_144 : decode cX11_look 144 = .ok (.getfield 105, 3) := by decide +kernel
theorem dX11_look_147 : decode cX11_look 147 = .ok (.bipush 11, 2) := by decide +kernel
theorem dX11_look_149 : decode cX11_look 149 = .ok (.iload_n 2, 1) := by decide +kernel
theorem dX11_look_150 : decode cX11_look 150 = .ok (.imul, 1) := by decide +kernel
theorem dX11_look_151 : decode cX11_look 151 = .ok (.bipush 7, 2) := by decide +kernel
theorem dX11_look_153 : decode cX11_look 153 = .ok (.iadd, 1) := by decide +kernel
theorem dX11_look_154 : decode cX11_look 154 = .ok (.iconst 0, 1) := by decide +kernel
theorem dX11_look_155 : decode cX11_look 155 = .ok (.iastore, 1) := by decide +kernel
theorem dX11_look_156 : decode cX11_look 156 = .ok (.aload_n 0, 1) := by decide +kernel
theorem dX11_look_157 : decode cX11_look 157 = .ok (.getfield 105, 3) := by decide +kernel
theorem dX11_look_160 : decode cX11_look 160 = .ok (.bipush 11, 2) := by decide +kernel
theorem dX11_look_162 : decode cX11_look 162 = .ok (.iload_n 2, 1) := by decide +kernel
theorem dX11_look_163 : decode cX11_look 163 = .ok (.imul, 1) := by decide +kernel
theorem dX11_look_164 : decode cX11_look 164 = .ok (.bipush 8, 2) := by decide +kernel
theorem dX11_look_166 : decode cX11_look 166 = .ok (.iadd, 1) := by decide +kernel
theorem dX11_look_167 : decode cX11_look 167 = .ok (.iconst 0, 1) := by decide +kernel
theorem dX11_look_168 : decode cX11_look 168 = .ok (.iastore, 1) := by decide +kernel
theorem dX11_look_169 : decode cX11_look 169 = .ok (.aload_n 0, 1) := by decide +kernel
theorem dX11_look_170 : decode cX11_look 170 = .ok (.getfield 105, 3) := by decide +kernel
theorem dX11_look_173 : decode cX11_look 173 = .ok (.bipush 11, 2) := by decide +kernel
theorem dX11_look_175 : decode cX11_look 175 = .ok (.iload_n 2, 1) := by decide +kernel
theorem dX11_look_176 : decode cX11_look 176 = .ok (.imul, 1) := by decide +kernel
theorem dX11_look_177 : decode cX11_look 177 = .ok (.bipush 9, 2) := by decide +kernel
theorem dX11_look_179 : decode cX11_look 179 = .ok (.iadd, 1) := by decide +kernel
theorem dX11_look_180 : decode cX11_look 180 = .ok (.iconst 1, 1) := by decide +kernel
theorem dX11_look_181 : decode cX11_look 181 = .ok (.iastore, 1) := by decide +kernel
theorem dX11_look_182 : decode cX11_look 182 = .ok (.aload_n 0, 1) := by decide +kernel
theorem dX11_look_183 : decode cX11_look 183 = .ok (.getfield 105, 3) := by decide +kernel
theorem dX11_look_186 : decode cX11_look 186 = .ok (.bipush 11, 2) := by decide +kernel
theorem dX11_look_188 : decode cX11_look 188 = .ok (.iload_n 2, 1) := by decide +kernel
theorem dX11_look_189 : decode cX11_look 189 = .ok (.imul, 1) := by decide +kernel
theorem dX11_look_190 : decode cX11_look 190 = .ok (.bipush 10, 2) := by decide +kernel
theorem dX11_look_192 : decode cX11_look 192 = .ok (.iadd, 1) := by decide +kernel
theorem dX11_look_193 : decode cX11_look 193 = .ok (.iconst 0, 1) := by decide +kernel
theorem dX11_look_194 : decode cX11_look 194 = .ok (.iastore, 1) := by decide +kernel
theorem dX11_look_195 : decode cX11_look 195 = .ok (.iinc 2 1, 3) := by decide +kernel
theorem dX11_look_198 : decode cX11_look 198 = .ok (.goto (-181), 3) := by decide +kernel
theorem dX11_look_201 : decode cX11_look 201 = .ok (.iconst 0, 1) := by decide +kernel
theorem dX11_look_202 : decode cX11_look 202 = .ok (.istore_n 2, 1) := by decide +kernel
theorem dX11_look_203 : decode cX11_look 203 = .ok (.iload_n 2, 1) := by decide +kernel
theorem dX11_look_204 : decode cX11_look 204 = .ok (.aload_n 0, 1) := by decide +kernel
theorem dX11_look_205 : decode cX11_look 205 = .ok (.getfield 32, 3) := by decide +kernel
theorem dX11_look_208 : decode cX11_look 208 = .ok (.iconst 0, 1) := by decide +kernel
theorem dX11_look_209 : decode cX11_look 209 = .ok (.iaload, 1) := by decide +kernel
theorem dX11_look_210 : decode cX11_look 210 = .ok (.if_icmp .ge 76, 3) := by decide +kernel
theorem dX11_look_213 : decode cX11_look 213 = .ok (.iconst 4, 1) := by decide +kernel
theorem dX11_look_214 : decode cX11_look 214 = .ok (.iload_n 2, 1) := by decide +kernel
theorem dX11_look_215 : decode cX11_look 215 = .ok (.imul, 1) := by decide +kernel
theorem dX11_look_216 : decode cX11_look 216 = .ok (.istore_n 3, 1) := by decide +kernel
theorem dX11_look_217 : decode cX11_look 217 = .ok (.aload_n 0, 1) := by decide +kernel
theorem dX11_look_218 : decode cX11_look 218 = .ok (.getfield 35, 3) := by decide +kernel
theorem dX11_look_221 : decode cX11_look 221 = .ok (.iload_n 3, 1) := by decide +kernel
theorem dX11_look_222 : decode cX11_look 222 = .ok (.iaload, 1) := by decide +kernel
theorem dX11_look_223 : decode cX11_look 223 = .ok (.iload_n 1, 1) := by decide +kernel
theorem dX11_look_224 : decode cX11_look 224 = .ok (.if_icmp .gt 56, 3) := by decide +kernel
theorem dX11_look_227 : decode cX11_look 227 = .ok (.aload_n 0, 1) := by decide +kernel
theorem dX11_look_228 : decode cX11_look 228 = .ok (.getfield 35, 3) := by decide +kernel
theorem dX11_look_231 : decode cX11_look 231 = .ok (.iload_n 3, 1) := by decide +kernel
theorem dX11_look_232 : decode cX11_look 232 = .ok (.iconst 2, 1) := by decide +kernel
theorem dX11_look_233 : decode cX11_look 233 = .ok (.iadd, 1) := by decide +kernel
theorem dX11_look_234 : decode cX11_look 234 = .ok (.iaload, 1) := by decide +kernel
theorem dX11_look_235 : decode cX11_look 235 = .ok (.iconst (-1), 1) := by decide +kernel
theorem dX11_look_236 : decode cX11_look 236 = .ok (.if_icmp .ne 7, 3) := by decide +kernel
theorem dX11_look_239 : decode cX11_look 239 = .ok (.iconst 0, 1) := by decide +kernel
theorem dX11_look_240 : decode cX11_look 240 = .ok (.goto 11, 3) := by decide +kernel
theorem dX11_look_243 : decode cX11_look 243 = .ok (.aload_n 0, 1) := by decide +kernel
theorem dX11_look_244 : decode cX11_look 244 = .ok (.getfield 35, 3) := by decide +kernel
theorem dX11_look_247 : decode cX11_look 247 = .ok (.iload_n 3, 1) := by decide +kernel
theorem dX11_look_248 : decode cX11_look 248 = .ok (.iconst 2, 1) := by decide +kernel
theorem dX11_look_249 : decode cX11_look 249 = .ok (.iadd, 1) := by decide +kernel
theorem dX11_look_250 : decode cX11_look 250 = .ok (.iaload, 1) := by decide +kernel
theorem dX11_look_251 : decode cX11_look 251 = .ok (.istore 4, 2) := by decide +kernel
theorem dX11_look_253 : decode cX11_look 253 = .ok (.aload_n 0, 1) := by decide +kernel
theorem dX11_look_254 : decode cX11_look 254 = .ok (.getfield 105, 3) := by decide +kernel
theorem dX11_look_257 : decode cX11_look 257 = .ok (.bipush 11, 2) := by decide +kernel
theorem dX11_look_259 : decode cX11_look 259 = .ok (.aload_n 0, 1) := by decide +kernel
theorem dX11_look_260 : decode cX11_look 260 = .ok (.getfield 35, 3) := by decide +kernel
theorem dX11_look_263 : decode cX11_look 263 = .ok (.iload_n 3, 1) := by decide +kernel
theorem dX11_look_264 : decode cX11_look 264 = .ok (.iconst 1, 1) := by decide +kernel
theorem dX11_look_265 : decode cX11_look 265 = .ok (.iadd, 1) := by decide +kernel
theorem dX11_look_266 : decode cX11_look 266 = .ok (.iaload, 1) := by decide +kernel
theorem dX11_look_267 : decode cX11_look 267 = .ok (.imul, 1) := by decide +kernel
theorem dX11_look_268 : decode cX11_look 268 = .ok (.iload 4, 2) := by decide +kernel
theorem dX11_look_270 : decode cX11_look 270 = .ok (.iadd, 1) := by decide +kernel
theorem dX11_look_271 : decode cX11_look 271 = .ok (.aload_n 0, 1) := by decide +kernel
theorem dX11_look_272 : decode cX11_look 272 = .ok (.getfield 35, 3) := by decide +kernel
theorem dX11_look_275 : decode cX11_look 275 = .ok (.iload_n 3, 1) := by decide +kernel
theorem dX11_look_276 : decode cX11_look 276 = .ok (.iconst 3, 1) := by decide +kernel
theorem dX11_look_277 : decode cX11_look 277 = .ok (.iadd, 1) := by decide +kernel
theorem dX11_look_278 : decode cX11_look 278 = .ok (.iaload, 1) := by decide +kernel
theorem dX11_look_279 : decode cX11_look 279 = .ok (.iastore, 1) := by decide +kernel
theorem dX11_look_280 : decode cX11_look 280 = .ok (.iinc 2 1, 3) := by decide +kernel
theorem dX11_look_283 : decode cX11_look 283 = .ok (.goto (-80), 3) := by decide +kernel
theorem dX11_look_286 : decode cX11_look 286 = .ok (.iconst 0, 1) := by decide +kernel
theorem dX11_look_287 : decode cX11_look 287 = .ok (.istore_n 2, 1) := by decide +kernel
theorem dX11_look_288 : decode cX11_look 288 = .ok (.iload_n 2, 1) := by decide +kernel
theorem dX11_look_289 : decode cX11_look 289 = .ok (.aload_n 0, 1) := by decide +kernel
theorem dX11_look_290 : decode cX11_look 290 = .ok (.getfield 302, 3) := by decide +kernel
theorem dX11_look_293 : decode cX11_look 293 = .ok (.if_icmp .ge 41, 3) := by decide +kernel
theorem dX11_look_296 : decode cX11_look 296 = .ok (.aload_n 0, 1) := by decide +kernel
theorem dX11_look_297 : decode cX11_look 297 = .ok (.getfield 114, 3) := by decide +kernel
theorem dX11_look_300 : decode cX11_look 300 = .ok (.iload_n 2, 1) := by decide +kernel
theorem dX11_look_301 : decode cX11_look 301 = .ok (.iconst 0, 1) := by decide +kernel
theorem dX11_look_302 : decode cX11_look 302 = .ok (.bastore, 1) := by decide +kernel
theorem dX11_look_303 : decode cX11_look 303 = .ok (.aload_n 0, 1) := by decide +kernel
theorem dX11_look_304 : decode cX11_look 304 = .ok (.getfield 101, 3) := by decide +kernel
theorem dX11_look_307 : decode cX11_look 307 = .ok (.iload_n 2, 1) := by decide +kernel
theorem dX11_look_308 : decode cX11_look 308 = .ok (.baload, 1) := by decide +kernel
theorem dX11_look_309 : decode cX11_look 309 = .ok (.ifCond .eq 19, 3) := by decide +kernel
theorem dX11_look_312 : decode cX11_look 312 = .ok (.aload_n 0, 1) := by decide +kernel
theorem dX11_look_313 : decode cX11_look 313 = .ok (.iload_n 2, 1) := by decide +kernel
theorem dX11_look_314 : decode cX11_look 314 = .ok (.invokevirtual 305, 3) := by decide +kernel
