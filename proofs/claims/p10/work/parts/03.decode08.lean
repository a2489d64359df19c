theorem dX11_findProof_82 : decode cX11_findProof 82 = .ok (.aload_n 0, 1) := by decide +kernel
theorem dX11_findProof_83 : decode cX11_findProof 83 = .ok (.iload 11, 2) := by decide +kernel
theorem dX11_findProof_85 : decode cX11_findProof 85 = .ok (.bipush 7, 2) := by decide +kernel
theorem dX11_findProof_87 : decode cX11_findProof 87 = .ok (.invokevirtual 291, 3) := by decide +kernel
theorem dX11_findProof_90 : decode cX11_findProof 90 = .ok (.ifCond .le 7, 3) := by decide +kernel
theorem dX11_findProof_93 : decode cX11_findProof 93 = .ok (.iconst 1, 1) := by decide +kernel
theorem dX11_findProof_94 : decode cX11_findProof 94 = .ok (.goto 4, 3) := by decide +kernel
theorem dX11_findProof_97 : decode cX11_findProof 97 = .ok (.iconst 0, 1) := by decide +kernel
theorem dX11_findProof_98 : decode cX11_findProof 98 = .ok (.iadd, 1) := by decide +kernel
theorem dX11_findProof_99 : decode cX11_findProof 99 = .ok (.istore 10, 2) := by decide +kernel
theorem dX11_findProof_101 : decode cX11_findProof 101 = .ok (.iinc 11 1, 3) := by decide +kernel
theorem dX11_findProof_104 : decode cX11_findProof 104 = .ok (.goto (-71), 3) := by decide +kernel
theorem dX11_findProof_107 : decode cX11_findProof 107 = .ok (.iconst 0, 1) := by decide +kernel
theorem dX11_findProof_108 : decode cX11_findProof 108 = .ok (.istore 11, 2) := by decide +kernel
theorem dX11_findProof_110 : decode cX11_findProof 110 = .ok (.iconst 0, 1) := by decide +kernel
theorem dX11_findProof_111 : decode cX11_findProof 111 = .ok (.istore 12, 2) := by decide +kernel
theorem dX11_findProof_113 : decode cX11_findProof 113 = .ok (.iload 12, 2) := by decide +kernel
theorem dX11_findProof_115 : decode cX11_findProof 115 = .ok (.bipush 6, 2) := by decide +kernel
theorem dX11_findProof_117 : decode cX11_findProof 117 = .ok (.if_icmp .ge 21, 3) := by decide +kernel
theorem dX11_findProof_120 : decode cX11_findProof 120 = .ok (.iload 11, 2) := by decide +kernel
theorem dX11_findProof_122 : decode cX11_findProof 122 = .ok (.iload 9, 2) := by decide +kernel
theorem dX11_findProof_124 : decode cX11_findProof 124 = .ok (.iload 12, 2) := by decide +kernel
theorem dX11_findProof_126 : decode cX11_findProof 126 = .ok (.ishr, 1) := by decide +kernel
theorem dX11_findProof_127 : decode cX11_findProof 127 = .ok (.iconst 1, 1) := by decide +kernel
theorem dX11_findProof_128 : decode cX11_findProof 128 = .ok (.iand, 1) := by decide +kernel
theorem dX11_findProof_129 : decode cX11_findProof 129 = .ok (.iadd, 1) := by decide +kernel
theorem dX11_findProof_130 : decode cX11_findProof 130 = .ok (.istore 11, 2) := by decide +kernel
theorem dX11_findProof_132 : decode cX11_findProof 132 = .ok (.iinc 12 1, 3) := by decide +kernel
theorem dX11_findProof_135 : decode cX11_findProof 135 = .ok (.goto (-22), 3) := by decide +kernel
theorem dX11_findProof_138 : decode cX11_findProof 138 = .ok (.aload_n 0, 1) := by decide +kernel
theorem dX11_findProof_139 : decode cX11_findProof 139 = .ok (.iload_n 2, 1) := by decide +kernel
theorem dX11_findProof_140 : decode cX11_findProof 140 = .ok (.iload_n 3, 1) := by decide +kernel
theorem dX11_findProof_141 : decode cX11_findProof 141 = .ok (.invokevirtual 333, 3) := by decide +kernel
theorem dX11_findProof_144 : decode cX11_findProof 144 = .ok (.aload_n 0, 1) := by decide +kernel
theorem dX11_findProof_145 : decode cX11_findProof 145 = .ok (.getfield 98, 3) := by decide +kernel
theorem dX11_findProof_148 : decode cX11_findProof 148 = .ok (.iconst 0, 1) := by decide +kernel
theorem dX11_findProof_149 : decode cX11_findProof 149 = .ok (.iload 4, 2) := by decide +kernel
theorem dX11_findProof_151 : decode cX11_findProof 151 = .ok (.iastore, 1) := by decide +kernel
theorem dX11_findProof_152 : decode cX11_findProof 152 = .ok (.aload_n 0, 1) := by decide +kernel
theorem dX11_findProof_153 : decode cX11_findProof 153 = .ok (.getfield 98, 3) := by decide +kernel
theorem dX11_findProof_156 : decode cX11_findProof 156 = .ok (.iconst 1, 1) := by decide +kernel
theorem dX11_findProof_157 : decode cX11_findProof 157 = .ok (.aload_n 0, 1) := by decide +kernel
theorem dX11_findProof_158 : decode cX11_findProof 158 = .ok (.iload_n 1, 1) := by decide +kernel
theorem dX11_findProof_159 : decode cX11_findProof 159 = .ok (.invokevirtual 373, 3) := by decide +kernel
theorem dX11_findProof_162 : decode cX11_findProof 162 = .ok (.iastore, 1) := by decide +kernel
theorem dX11_findProof_163 : decode cX11_findProof 163 = .ok (.aload_n 0, 1) := by decide +kernel
theorem dX11_findProof_164 : decode cX11_findProof 164 = .ok (.getfield 98, 3) := by decide +kernel
theorem dX11_findProof_167 : decode cX11_findProof 167 = .ok (.iconst 2, 1) := by decide +kernel
theorem dX11_findProof_168 : decode cX11_findProof 168 = .ok (.iload 4, 2) := by decide +kernel
theorem dX11_findProof_170 : decode cX11_findProof 170 = .ok (.ifCond .ne 7, 3) := by decide +kernel
theorem dX11_findProof_173 : decode cX11_findProof 173 = .ok (.iconst 0, 1) := by decide +kernel
theorem dX11_findProof_174 : decode cX11_findProof 174 = .ok (.goto 24, 3) := by decide +kernel
theorem dX11_findProof_177 : decode cX11_findProof 177 = .ok (.ldc2_w 383, 3) := by decide +kernel
theorem dX11_findProof_180 : decode cX11_findProof 180 = .ok (.aload_n 0, 1) := by decide +kernel
theorem dX11_findProof_181 : decode cX11_findProof 181 = .ok (.getfield 117, 3) := by decide +kernel
theorem dX11_findProof_184 : decode cX11_findProof 184 = .ok (.iload_n 1, 1) := by decide +kernel
theorem dX11_findProof_185 : decode cX11_findProof 185 = .ok (.iload_n 2, 1) := by decide +kernel
theorem dX11_findProof_186 : decode cX11_findProof 186 = .ok (.isub, 1) := by decide +kernel
theorem dX11_findProof_187 : decode cX11_findProof 187 = .ok (.iaload, 1) := by decide +kernel
theorem dX11_findProof_188 : decode cX11_findProof 188 = .ok (.i2l, 1) := by decide +kernel
theorem dX11_findProof_189 : decode cX11_findProof 189 = .ok (.lmul, 1) := by decide +kernel
theorem dX11_findProof_190 : decode cX11_findProof 190 = .ok (.iload_n 1, 1) := by decide +kernel
theorem dX11_findProof_191 : decode cX11_findProof 191 = .ok (.i2l, 1) := by decide +kernel
theorem dX11_findProof_192 : decode cX11_findProof 192 = .ok (.iload 4, 2) := by decide +kernel
theorem dX11_findProof_194 : decode cX11_findProof 194 = .ok (.i2l, 1) := by decide +kernel
theorem dX11_findProof_195 : decode cX11_findProof 195 = .ok (.lmul, 1) := by decide +kernel
theorem dX11_findProof_196 : decode cX11_findProof 196 = .ok (.ldiv, 1) := by decide +kernel
theorem dX11_findProof_197 : decode cX11_findProof 197 = .ok (.l2i, 1) := by decide +kernel
theorem dX11_findProof_198 : decode cX11_findProof 198 = .ok (.iastore, 1) := by decide +kernel
theorem dX11_findProof_199 : decode cX11_findProof 199 = .ok (.aload_n 0, 1) := by decide +kernel
theorem dX11_findProof_200 : decode cX11_findProof 200 = .ok (.getfield 98, 3) := by decide +kernel
theorem dX11_findProof_203 : decode cX11_findProof 203 = .ok (.iconst 3, 1) := by decide +kernel
theorem dX11_findProof_204 : decode cX11_findProof 204 = .ok (.lload 5, 2) := by decide +kernel
theorem dX11_findProof_206 : decode cX11_findProof 206 = .ok (.invokestatic 387, 3) := by decide +kernel
theorem dX11_findProof_209 : decode cX11_findProof 209 = .ok (.iastore, 1) := by decide +kernel
theorem dX11_findProof_210 : decode cX11_findProof 210 = .ok (.aload_n 0, 1) := by decide +kernel
theorem dX11_findProof_211 : decode cX11_findProof 211 = .ok (.getfield 98, 3) := by decide +kernel
theorem dX11_findProof_214 : decode cX11_findProof 214 = .ok (.iconst 4, 1) := by decide +kernel
theorem dX11_findProof_215 : decode cX11_findProof 215 = .ok (.lload 7, 2) := by decide +kernel
theorem dX11_findProof_217 : decode cX11_findProof 217 = .ok (.ldc2_w 362, 3) := by decide +kernel
theorem dX11_findProof_220 : decode cX11_findProof 220 = .ok (.lcmp, 1) := by decide +kernel
theorem dX11_findProof_221 : decode cX11_findProof 221 = .ok (.ifCond .le 9, 3) := by decide +kernel
theorem dX11_findProof_224 : decode cX11_findProof 224 = .ok (.ldc2_w 362, 3) := by decide +kernel
theorem dX11_findProof_227 : decode cX11_findProof 227 = .ok (.goto 5, 3) := by decide +kernel
theorem dX11_findProof_230 : decode cX11_findProof 230 = .ok (.lload 7, 2) := by decide +kernel
theorem dX11_findProof_232 : decode cX11_findProof 232 = .ok (.invokestatic 387, 3) := by decide +kernel
theorem dX11_findProof_235 : decode cX11_findProof 235 = .ok (.iastore, 1) := by decide +kernel
theorem dX11_findProof_236 : decode cX11_findProof 236 = .ok (.aload_n 0, 1) := by decide +kernel
theorem dX11_findProof_237 : decode cX11_findProof 237 = .ok (.getfield 98, 3) := by decide +kernel
theorem dX11_findProof_240 : decode cX11_findProof 240 = .ok (.iconst 5, 1) := by decide +kernel
theorem dX11_findProof_241 : decode cX11_findProof 241 = .ok (.iload 4, 2) := by decide +kernel
theorem dX11_findProof_243 : decode cX11_findProof 243 = .ok (.ifCond .ne 9, 3) := by decide +kernel
theorem dX11_findProof_246 : decode cX11_findProof 246 = .ok (.sipush 9999, 3) := by decide +kernel
theorem dX11_findProof_249 : decode cX11_findProof 249 = .ok (.goto 10, 3) := by decide +kernel
theorem dX11_findProof_252 : decode cX11_findProof 252 = .ok (.aload_n 0, 1) := by decide +kernel
theorem dX11_findProof_253 : decode cX11_findProof 253 = .ok (.iload_n 2, 1) := by decide +kernel
theorem dX11_findProof_254 : decode cX11_findProof 254 = .ok (.iload_n 3, 1) := by decide +kernel
theorem dX11_findProof_255 : decode cX11_findProof 255 = .ok (.iload_n 1, 1) := by decide +kernel
theorem dX11_findProof_256 : decode cX11_findProof 256 = .ok (.invokevirtual 353, 3) := by decide +kernel
theorem dX11_findProof_259 : decode cX11_findProof 259 = .ok (.iastore, 1) := by decide +kernel
theorem dX11_findProof_260 : decode cX11_findProof 260 = .ok (.aload_n 0, 1) := by decide +kernel
theorem dX11_findProof_261 : decode cX11_findProof 261 = .ok (.getfield 98, 3) := by decide +kernel
theorem dX11_findProof_264 : decode cX11_findProof 264 = .ok (.bipush 6, 2) := by decide +kernel
theorem dX11_findProof_266 : decode cX11_findProof 266 = .ok (.iload 11, 2) := by decide +kernel
theorem dX11_findProof_268 : decode cX11_findProof 268 = .ok (.iastore, 1) := by decide +kernel
theorem dX11_findProof_269 : decode cX11_findProof 269 = .ok (.aload_n 0, 1) := by decide +kernel
theorem dX11_findProof_270 : decode cX11_findProof 270 = .ok (.getfield 98, 3) := by decide +kernel
theorem dX11_findProof_273 : decode cX11_findProof 273 = .ok (.bipush 7, 2) := by decide +kernel
theorem dX11_findProof_275 : decode cX11_findProof 275 = .ok (.iload 10, 2) := by decide +kernel
theorem dX11_findProof_277 : decode cX11_findProof 277 = .ok (.iastore, 1) := by decide +kernel
theorem dX11_findProof_278 : decode cX11_findProof 278 = .ok (.return_, 1) := by decide +kernel
theorem dX11_verdict_0 : decode cX11_verdict 0 = .ok (.aload_n 0, 1) := by decide +kernel
theorem dX11_verdict_1 : decode cX11_verdict 1 = .ok (.iconst 0, 1) := by decide +kernel
theorem dX11_verdict_2 : decode cX11_verdict 2 = .ok (.putfield 130, 3) := by decide +kernel
theorem dX11_verdict_5 : decode cX11_verdict 5 = .ok (.iload_n 2, 1) := by decide +kernel
theorem dX11_verdict_6 : decode cX11_verdict 6 = .ok (.iload_n 3, 1) := by decide +kernel
theorem dX11_verdict_7 : decode cX11_verdict 7 = .ok (.invokestatic 340, 3) := by decide +kernel
theorem dX11_verdict_10 : decode cX11_verdict 10 = .ok (.ifCond .eq 12, 3) := by decide +kernel
theorem dX11_verdict_13 : decode cX11_verdict 13 = .ok (.iload_n 1, 1) := by decide +kernel
theorem dX11_verdict_14 : decode cX11_verdict 14 = .ok (.iload_n 2, 1) := by decide +kernel
theorem dX11_verdict_15 : decode cX11_verdict 15 = .ok (.iload_n 3, 1) := by decide +kernel
theorem dX11_verdict_16 : decode cX11_verdict 16 = .ok (.invokestatic 138, 3) := by decide +kernel
theorem dX11_verdict_19 : decode cX11_verdict 19 = .ok (.ifCond .ne 5, 3) := by decide +kernel
theorem dX11_verdict_22 : decode cX11_verdict 22 = .ok (.iconst (-1), 1) := by decide +kernel
theorem dX11_verdict_23 : decode cX11_verdict 23 = .ok (.ireturn, 1) := by decide +kernel
theorem dX11_verdict_24 : decode cX11_verdict 24 = .ok (.aload_n 0, 1) := by decide +kernel
theorem dX11_verdict_25 : decode cX11_verdict 25 = .ok (.invokevirtual 311, 3) := by decide +kernel
theorem dX11_verdict_28 : decode cX11_verdict 28 = .ok (.aload_n 0, 1) := by decide +kernel
theorem dX11_verdict_29 : decode cX11_verdict 29 = .ok (.iload_n 1, 1) := by decide +kernel
theorem dX11_verdict_30 : decode cX11_verdict 30 = .ok (.iload_n 2, 1) := by decide +kernel
theorem dX11_verdict_31 : decode cX11_verdict 31 = .ok (.iload_n 3, 1) := by decide +kernel
theorem dX11_verdict_32 : decode cX11_verdict 32 = .ok (.invokevirtual 391, 3) := by decide +kernel
theorem dX11_verdict_35 : decode cX11_verdict 35 = .ok (.iconst 0, 1) := by decide +kernel
theorem dX11_verdict_36 : decode cX11_verdict 36 = .ok (.istore 4, 2) := by decide +kernel
theorem dX11_verdict_38 : decode cX11_verdict 38 = .ok (.iload 4, 2) := by decide +kernel
theorem dX11_verdict_40 : decode cX11_verdict 40 = .ok (.aload_n 0, 1) := by decide +kernel
theorem dX11_verdict_41 : decode cX11_verdict 41 = .ok (.getfield 53, 3) := by decide +kernel
theorem dX11_verdict_44 : decode cX11_verdict 44 = .ok (.iconst 1, 1) := by decide +kernel
theorem dX11_verdict_45 : decode cX11_verdict 45 = .ok (.iaload, 1) := by decide +kernel
theorem dX11_verdict_46 : decode cX11_verdict 46 = .ok (.if_icmp .ge 32, 3) := by decide +kernel
theorem dX11_verdict_49 : decode cX11_verdict 49 = .ok (.aload_n 0, 1) := by decide +kernel
theorem dX11_verdict_50 : decode cX11_verdict 50 = .ok (.bipush 16, 2) := by decide +kernel
theorem dX11_verdict_52 : decode cX11_verdict 52 = .ok (.iload 4, 2) := by decide +kernel
theorem dX11_verdict_54 : decode cX11_verdict 54 = .ok (.iadd, 1) := by decide +kernel
theorem dX11_verdict_55 : decode cX11_verdict 55 = .ok (.invokevirtual 295, 3) := by decide +kernel
theorem dX11_verdict_58 : decode cX11_verdict 58 = .ok (.ifCond .eq 14, 3) := by decide +kernel
theorem dX11_verdict_61 : decode cX11_verdict 61 = .ok (.aload_n 0, 1) := by decide +kernel
theorem dX11_verdict_62 : decode cX11_verdict 62 = .ok (.getfield 68, 3) := by decide +kernel
theorem dX11_verdict_65 : decode cX11_verdict 65 = .ok (.bipush 16, 2) := by decide +kernel
theorem dX11_verdict_67 : decode cX11_verdict 67 = .ok (.iload 4, 2) := by decide +kernel
theorem dX11_verdict_69 : decode cX11_verdict 69 = .ok (.iadd, 1) := by decide +kernel
theorem dX11_verdict_70 : decode cX11_verdict 70 = .ok (.iaload, 1) := by decide +kernel
theorem dX11_verdict_71 : decode cX11_verdict 71 = .ok (.ireturn, 1) := by decide +kernel
theorem dX11_verdict_72 : decode cX11_verdict 72 = .ok (.iinc 4 1, 3) := by decide +kernel
theorem dX11_verdict_75 : decode cX11_verdict 75 = .ok (.goto (-37), 3) := by decide +kernel
theorem dX11_verdict_78 : decode cX11_verdict 78 = .ok (.iconst 2, 1) := by decide +kernel
theorem dX11_verdict_79 : decode cX11_verdict 79 = .ok (.ireturn, 1) := by decide +kernel
theorem dX11_isOfSet_0 : decode cX11_isOfSet 0 = .ok (.aload_n 0, 1) := by decide +kernel
theorem dX11_isOfSet_1 : decode cX11_isOfSet 1 = .ok (.getfield 101, 3) := by decide +kernel
theorem dX11_isOfSet_4 : decode cX11_isOfSet 4 = .ok (.iload_n 1, 1) := by decide +kernel
theorem dX11_isOfSet_5 : decode cX11_isOfSet 5 = .ok (.baload, 1) := by decide +kernel
theorem dX11_isOfSet_6 : decode cX11_isOfSet 6 = .ok (.ifCond .eq 29, 3) := by decide +kernel
theorem dX11_isOfSet_9 : decode cX11_isOfSet 9 = .ok (.aload_n 0, 1) := by decide +kernel
theorem dX11_isOfSet_10 : decode cX11_isOfSet 10 = .ok (.iload_n 1, 1) := by decide +kernel
theorem dX11_isOfSet_11 : decode cX11_isOfSet 11 = .ok (.bipush 9, 2) := by decide +kernel
theorem dX11_isOfSet_13 : decode cX11_isOfSet 13 = .ok (.invokevirtual 291, 3) := by decide +kernel
theorem dX11_isOfSet_16 : decode cX11_isOfSet 16 = .ok (.iconst 1, 1) := by decide +kernel
theorem dX11_isOfSet_17 : decode cX11_isOfSet 17 = .ok (.if_icmp .ne 18, 3) := by decide +kernel
theorem dX11_isOfSet_20 : decode cX11_isOfSet 20 = .ok (.aload_n 0, 1) := by decide +kernel
theorem dX11_isOfSet_21 : decode cX11_isOfSet 21 = .ok (.iload_n 1, 1) := by decide +kernel
theorem dX11_isOfSet_22 : decode cX11_isOfSet 22 = .ok (.bipush 10, 2) := by decide +kernel
theorem dX11_isOfSet_24 : decode cX11_isOfSet 24 = .ok (.invokevirtual 291, 3) := by decide +kernel
theorem dX11_isOfSet_27 : decode cX11_isOfSet 27 = .ok (.iload_n 2, 1) := by decide +kernel
theorem dX11_isOfSet_28 : decode cX11_isOfSet 28 = .ok (.if_icmp .ne 7, 3) := by decide +kernel
theorem dX11_isOfSet_31 : decode cX11_isOfSet 31 = .ok (.iconst 1, 1) := by decide +kernel
theorem dX11_isOfSet_32 : decode cX11_isOfSet 32 = .ok (.goto 4, 3) := by decide +kernel
theorem dX11_isOfSet_35 : decode cX11_isOfSet 35 = .ok (.iconst 0, 1) := by decide +kernel
theorem dX11_isOfSet_36 : decode cX11_isOfSet 36 = .ok (.ireturn, 1) := by decide +kernel
theorem dX11_set_0 : decode cX11_set 0 = .ok (.aload_n 0, 1) := by decide +kernel
theorem dX11_set_1 : decode cX11_set 1 = .ok (.iconst 0, 1) := by decide +kernel
theorem dX11_set_2 : decode cX11_set 2 = .ok (.putfield 130, 3) := by decide +kernel
theorem dX11_set_5 : decode cX11_set 5 = .ok (.iload_n 1, 1) := by decide +kernel
theorem dX11_set_6 : decode cX11_set 6 = .ok (.iconst 1, 1) := by decide +kernel
theorem dX11_set_7 : decode cX11_set 7 = .ok (.bipush 8, 2) := by decide +kernel
theorem dX11_set_9 : decode cX11_set 9 = .ok (.invokestatic 138, 3) := by decide +kernel
theorem dX11_set_12 : decode cX11_set 12 = .ok (.ifCond .eq 19, 3) := by decide +kernel
theorem dX11_set_15 : decode cX11_set 15 = .ok (.iload_n 2, 1) := by decide +kernel
theorem dX11_set_16 : decode cX11_set 16 = .ok (.invokestatic 314, 3) := by decide +kernel
theorem dX11_set_19 : decode cX11_set 19 = .ok (.ifCond .eq 12, 3) := by decide +kernel
theorem dX11_set_22 : decode cX11_set 22 = .ok (.iload_n 3, 1) := by decide +kernel
theorem dX11_set_23 : decode cX11_set 23 = .ok (.iconst 0, 1) := by decide +kernel
theorem dX11_set_24 : decode cX11_set 24 = .ok (.iconst 3, 1) := by decide +kernel
theorem dX11_set_25 : decode cX11_set 25 = .ok (.invokestatic 138, 3) := by decide +kernel
theorem dX11_set_28 : decode cX11_set 28 = .ok (.ifCond .ne 5, 3) := by decide +kernel
theorem dX11_set_31 : decode cX11_set 31 = .ok (.iconst (-1), 1) := by decide +kernel
theorem dX11_set_32 : decode cX11_set 32 = .ok (.ireturn, 1) := by decide +kernel
theorem dX11_set_33 : decode cX11_set 33 = .ok (.aload_n 0, 1) := by decide +kernel
theorem dX11_set_34 : decode cX11_set 34 = .ok (.invokevirtual 311, 3) := by decide +kernel
theorem dX11_set_37 : decode cX11_set 37 = .ok (.iconst 0, 1) := by decide +kernel
theorem dX11_set_38 : decode cX11_set 38 = .ok (.istore 4, 2) := by decide +kernel
theorem dX11_set_40 : decode cX11_set 40 = .ok (.iconst 0, 1) := by decide +kernel
theorem dX11_set_41 : decode cX11_set 41 = .ok (.istore 5, 2) := by decide +kernel
theorem dX11_set_43 : decode cX11_set 43 = .ok (.iconst 0, 1) := by decide +kernel
theorem dX11_set_44 : decode cX11_set 44 = .ok (.istore 6, 2) := by decide +kernel
theorem dX11_set_46 : decode cX11_set 46 = .ok (.iconst 0, 1) := by decide +kernel
theorem dX11_set_47 : decode cX11_set 47 = .ok (.istore 7, 2) := by decide +kernel
theorem dX11_set_49 : decode cX11_set 49 = .ok (.iconst 0, 1) := by decide +kernel
theorem dX11_set_50 : decode cX11_set 50 = .ok (.istore 8, 2) := by decide +kernel
theorem dX11_set_52 : decode cX11_set 52 = .ok (.iload 8, 2) := by decide +kernel
theorem dX11_set_54 : decode cX11_set 54 = .ok (.aload_n 0, 1) := by decide +kernel
theorem dX11_set_55 : decode cX11_set 55 = .ok (.getfield 302, 3) := by decide +kernel
theorem dX11_set_58 : decode cX11_set 58 = .ok (.if_icmp .ge 154, 3) := by decide +kernel
theorem dX11_set_61 : decode cX11_set 61 = .ok (.aload_n 0, 1) := by decide +kernel
theorem dX11_set_62 : decode cX11_set 62 = .ok (.iload 8, 2) := by decide +kernel
theorem dX11_set_64 : decode cX11_set 64 = .ok (.iload_n 1, 1) := by decide +kernel
theorem dX11_set_65 : decode cX11_set 65 = .ok (.invokevirtual 394, 3) := by decide +kernel
theorem dX11_set_68 : decode cX11_set 68 = .ok (.ifCond .ne 6, 3) := by decide +kernel
theorem dX11_set_71 : decode cX11_set 71 = .ok (.goto 135, 3) := by decide +kernel
theorem dX11_set_74 : decode cX11_set 74 = .ok (.iinc 4 1, 3) := by decide +kernel
theorem dX11_set_77 : decode cX11_set 77 = .ok (.aload_n 0, 1) := by decide +kernel
theorem dX11_set_78 : decode cX11_set 78 = .ok (.iload 8, 2) := by decide +kernel
theorem dX11_set_80 : decode cX11_set 80 = .ok (.iload_n 2, 1) := by decide +kernel
theorem dX11_set_81 : decode cX11_set 81 = .ok (.invokevirtual 320, 3) := by decide +kernel
theorem dX11_set_84 : decode cX11_set 84 = .ok (.istore 9, 2) := by decide +kernel
theorem dX11_set_86 : decode cX11_set 86 = .ok (.iload 9, 2) := by decide +kernel
theorem dX11_set_88 : decode cX11_set 88 = .ok (.iload 6, 2) := by decide +kernel
theorem dX11_set_90 : decode cX11_set 90 = .ok (.if_icmp .le 8, 3) := by decide +kernel
theorem dX11_set_93 : decode cX11_set 93 = .ok (.iload 9, 2) := by decide +kernel
theorem dX11_set_95 : decode cX11_set 95 = .ok (.goto 5, 3) := by decide +kernel
theorem dX11_set_98 : decode cX11_set 98 = .ok (.iload 6, 2) := by decide +kernel
theorem dX11_set_100 : decode cX11_set 100 = .ok (.istore 6, 2) := by decide +kernel
theorem dX11_set_102 : decode cX11_set 102 = .ok (.iconst 0, 1) := by decide +kernel
theorem dX11_set_103 : decode cX11_set 103 = .ok (.istore 10, 2) := by decide +kernel
theorem dX11_set_105 : decode cX11_set 105 = .ok (.iconst 0, 1) := by decide +kernel
theorem dX11_set_106 : decode cX11_set 106 = .ok (.istore 11, 2) := by decide +kernel
theorem dX11_set_108 : decode cX11_set 108 = .ok (.iload 11, 2) := by decide +kernel
theorem dX11_set_110 : decode cX11_set 110 = .ok (.iload 8, 2) := by decide +kernel
theorem dX11_set_112 : decode cX11_set 112 = .ok (.if_icmp .ge 41, 3) := by decide +kernel
theorem dX11_set_115 : decode cX11_set 115 = .ok (.iload 10, 2) := by decide +kernel
theorem dX11_set_117 : decode cX11_set 117 = .ok (.aload_n 0, 1) := by decide +kernel
theorem dX11_set_118 : decode cX11_set 118 = .ok (.iload 11, 2) := by decide +kernel
theorem dX11_set_120 : decode cX11_set 120 = .ok (.iload_n 1, 1) := by decide +kernel
theorem dX11_set_121 : decode cX11_set 121 = .ok (.invokevirtual 394, 3) := by decide +kernel
theorem dX11_set_124 : decode cX11_set 124 = .ok (.ifCond .eq 19, 3) := by decide +kernel
theorem dX11_set_127 : decode cX11_set 127 = .ok (.aload_n 0, 1) := by decide +kernel
theorem dX11_set_128 : decode cX11_set 128 = .ok (.iload 11, 2) := by decide +kernel
theorem dX11_set_130 : decode cX11_set 130 = .ok (.iload_n 2, 1) := by decide +kernel
theorem dX11_set_131 : decode cX11_set 131 = .ok (.invokevirtual 320, 3) := by decide +kernel
theorem dX11_set_134 : decode cX11_set 134 = .ok (.iload 9, 2) := by decide +kernel
theorem dX11_set_136 : decode cX11_set 136 = .ok (.if_icmp .ne 7, 3) := by decide +kernel
theorem dX11_set_139 : decode cX11_set 139 = .ok (.iconst 1, 1) := by decide +kernel
theorem dX11_set_140 : decode cX11_set 140 = .ok (.goto 4, 3) := by decide +kernel
theorem dX11_set_143 : decode cX11_set 143 = .ok (.iconst 0, 1) := by decide +kernel
theorem dX11_set_144 : decode cX11_set 144 = .ok (.ior, 1) := by decide +kernel
theorem dX11_set_145 : decode cX11_set 145 = .ok (.istore 10, 2) := by decide +kernel
theorem dX11_set_147 : decode cX11_set 147 = .ok (.iinc 11 1, 3) := by decide +kernel
theorem dX11_set_150 : decode cX11_set 150 = .ok (.goto (-42), 3) := by decide +kernel
theorem dX11_set_153 : decode cX11_set 153 = .ok (.iload 5, 2) := by decide +kernel
theorem dX11_set_155 : decode cX11_set 155 = .ok (.iload 10, 2) := by decide +kernel
theorem dX11_set_157 : decode cX11_set 157 = .ok (.ifCond .eq 7, 3) := by decide +kernel
theorem dX11_set_160 : decode cX11_set 160 = .ok (.iconst 1, 1) := by decide +kernel
theorem dX11_set_161 : decode cX11_set 161 = .ok (.goto 4, 3) := by decide +kernel
theorem dX11_set_164 : decode cX11_set 164 = .ok (.iconst 0, 1) := by decide +kernel
theorem dX11_set_165 : decode cX11_set 165 = .ok (.iadd, 1) := by decide +kernel
theorem dX11_set_166 : decode cX11_set 166 = .ok (.istore 5, 2) := by decide +kernel
theorem dX11_set_168 : decode cX11_set 168 = .ok (.iconst 0, 1) := by decide +kernel
theorem dX11_set_169 : decode cX11_set 169 = .ok (.istore 11, 2) := by decide +kernel
theorem dX11_set_171 : decode cX11_set 171 = .ok (.iload 11, 2) := by decide +kernel
theorem dX11_set_173 : decode cX11_set 173 = .ok (.bipush 6, 2) := by decide +kernel
theorem dX11_set_175 : decode cX11_set 175 = .ok (.if_icmp .ge 31, 3) := by decide +kernel
theorem dX11_set_178 : decode cX11_set 178 = .ok (.iload 7, 2) := by decide +kernel
theorem dX11_set_180 : decode cX11_set 180 = .ok (.iload 9, 2) := by decide +kernel
theorem dX11_set_182 : decode cX11_set 182 = .ok (.iconst 1, 1) := by decide +kernel
theorem dX11_set_183 : decode cX11_set 183 = .ok (.iload 11, 2) := by decide +kernel
theorem dX11_set_185 : decode cX11_set 185 = .ok (.ishl, 1) := by decide +kernel
theorem dX11_set_186 : decode cX11_set 186 = .ok (.if_icmp .ne 10, 3) := by decide +kernel
theorem dX11_set_189 : decode cX11_set 189 = .ok (.iconst 1, 1) := by decide +kernel
theorem dX11_set_190 : decode cX11_set 190 = .ok (.iload 11, 2) := by decide +kernel
theorem dX11_set_192 : decode cX11_set 192 = .ok (.ishl, 1) := by decide +kernel
theorem dX11_set_193 : decode cX11_set 193 = .ok (.goto 4, 3) := by decide +kernel
theorem dX11_set_196 : decode cX11_set 196 = .ok (.iconst 0, 1) := by decide +kernel
theorem dX11_set_197 : decode cX11_set 197 = .ok (.ior, 1) := by decide +kernel
theorem dX11_set_198 : decode cX11_set 198 = .ok (.istore 7, 2) := by decide +kernel
theorem dX11_set_200 : decode cX11_set 200 = .ok (.iinc 11 1, 3) := by decide +kernel
theorem dX11_set_203 : decode cX11_set 203 = .ok (.goto (-32), 3) := by decide +kernel
theorem dX11_set_206 : decode cX11_set 206 = .ok (.iinc 8 1, 3) := by decide +kernel
theorem dX11_set_209 : decode cX11_set 209 = .ok (.goto (-157), 3) := by decide +kernel
theorem dX11_set_212 : decode cX11_set 212 = .ok (.iconst 0, 1) := by decide +kernel
theorem dX11_set_213 : decode cX11_set 213 = .ok (.istore 8, 2) := by decide +kernel
theorem dX11_set_215 : decode cX11_set 215 = .ok (.iconst 0, 1) := by decide +kernel
theorem dX11_set_216 : decode cX11_set 216 = .ok (.istore 9, 2) := by decide +kernel
theorem dX11_set_218 : decode cX11_set 218 = .ok (.iload 9, 2) := by decide +kernel
theorem dX11_set_220 : decode cX11_set 220 = .ok (.bipush 6, 2) := by decide +kernel
theorem dX11_set_222 : decode cX11_set 222 = .ok (.if_icmp .ge 41, 3) := by decide +kernel
theorem dX11_set_225 : decode cX11_set 225 = .ok (.iload 8, 2) := by decide +kernel
theorem dX11_set_227 : decode cX11_set 227 = .ok (.iconst 1, 1) := by decide +kernel
theorem dX11_set_228 : decode cX11_set 228 = .ok (.iload 9, 2) := by decide +kernel
theorem dX11_set_230 : decode cX11_set 230 = .ok (.ishl, 1) := by decide +kernel
theorem dX11_set_231 : decode cX11_set 231 = .ok (.iload 6, 2) := by decide +kernel
theorem dX11_set_233 : decode cX11_set 233 = .ok (.if_icmp .gt 20, 3) := by decide +kernel
theorem dX11_set_236 : decode cX11_set 236 = .ok (.iload 7, 2) := by decide +kernel
theorem dX11_set_238 : decode cX11_set 238 = .ok (.iload 9, 2) := by decide +kernel
theorem dX11_set_240 : decode cX11_set 240 = .ok (.ishr, 1) := by decide +kernel
theorem dX11_set_241 : decode cX11_set 241 = .ok (.iconst 1, 1) := by decide +kernel
theorem dX11_set_242 : decode cX11_set 242 = .ok (.iand, 1) := by decide +kernel
theorem dX11_set_243 : decode cX11_set 243 = .ok (.ifCond .ne 10, 3) := by decide +kernel
theorem dX11_set_246 : decode cX11_set 246 = .ok (.iconst 1, 1) := by decide +kernel
theorem dX11_set_247 : decode cX11_set 247 = .ok (.iload 9, 2) := by decide +kernel
theorem dX11_set_249 : decode cX11_set 249 = .ok (.ishl, 1) := by decide +kernel
theorem dX11_set_250 : decode cX11_set 250 = .ok (.goto 4, 3) := by decide +kernel
theorem dX11_set_253 : decode cX11_set 253 = .ok (.iconst 0, 1) := by decide +kernel
theorem dX11_set_254 : decode cX11_set 254 = .ok (.ior, 1) := by decide +kernel
theorem dX11_set_255 : decode cX11_set 255 = .ok (.istore 8, 2) := by decide +kernel
theorem dX11_set_257 : decode cX11_set 257 = .ok (.iinc 9 1, 3) := by decide +kernel
theorem dX11_set_260 : decode cX11_set 260 = .ok (.goto (-42), 3) := by decide +kernel
theorem dX11_set_263 : decode cX11_set 263 = .ok (.iload_n 3, 1) := by decide +kernel
theorem dX11_set_264 : decode cX11_set 264 = .ok (.ifCond .ne 8, 3) := by decide +kernel
theorem dX11_set_267 : decode cX11_set 267 = .ok (.iload 4, 2) := by decide +kernel
theorem dX11_set_269 : decode cX11_set 269 = .ok (.goto 25, 3) := by decide +kernel
theorem dX11_set_272 : decode cX11_set 272 = .ok (.iload_n 3, 1) := by decide +kernel
theorem dX11_set_273 : decode cX11_set 273 = .ok (.iconst 1, 1) := by decide +kernel
theorem dX11_set_274 : decode cX11_set 274 = .ok (.if_icmp .ne 8, 3) := by decide +kernel
theorem dX11_set_277 : decode cX11_set 277 = .ok (.iload 5, 2) := by decide +kernel
theorem dX11_set_279 : decode cX11_set 279 = .ok (.goto 15, 3) := by decide +kernel
theorem dX11_set_282 : decode cX11_set 282 = .ok (.iload_n 3, 1) := by decide +kernel
theorem dX11_set_283 : decode cX11_set 283 = .ok (.iconst 2, 1) := by decide +kernel
theorem dX11_set_284 : decode cX11_set 284 = .ok (.if_icmp .ne 8, 3) := by decide +kernel
theorem dX11_set_287 : decode cX11_set 287 = .ok (.iload 8, 2) := by decide +kernel
theorem dX11_set_289 : decode cX11_set 289 = .ok (.goto 5, 3) := by decide +kernel
theorem dX11_set_292 : decode cX11_set 292 = .ok (.iload 6, 2) := by decide +kernel
theorem dX11_set_294 : decode cX11_set 294 = .ok (.ireturn, 1) := by decide +kernel
theorem dX11_keepChosen_0 : decode cX11_keepChosen 0 = .ok (.iconst 0, 1) := by decide +kernel
theorem dX11_keepChosen_1 : decode cX11_keepChosen 1 = .ok (.istore_n 1, 1) := by decide +kernel
theorem dX11_keepChosen_2 : decode cX11_keepChosen 2 = .ok (.iload_n 1, 1) := by decide +kernel
theorem dX11_keepChosen_3 : decode cX11_keepChosen 3 = .ok (.aload_n 0, 1) := by decide +kernel
theorem dX11_keepChosen_4 : decode cX11_keepChosen 4 = .ok (.getfield 302, 3) := by decide +kernel
theorem dX11_keepChosen_7 : decode cX11_keepChosen 7 = .ok (.if_icmp .ge 21, 3) := by decide +kernel
theorem dX11_keepChosen_10 : decode cX11_keepChosen 10 = .ok (.aload_n 0, 1) := by decide +kernel
theorem dX11_keepChosen_11 : decode cX11_keepChosen 11 = .ok (.getfield 124, 3) := by decide +kernel
theorem dX11_keepChosen_14 : decode cX11_keepChosen 14 = .ok (.iload_n 1, 1) := by decide +kernel
theorem dX11_keepChosen_15 : decode cX11_keepChosen 15 = .ok (.aload_n 0, 1) := by decide +kernel
theorem dX11_keepChosen_16 : decode cX11_keepChosen 16 = .ok (.getfield 114, 3) := by decide +kernel
theorem dX11_keepChosen_19 : decode cX11_keepChosen 19 = .ok (.iload_n 1, 1) := by decide +kernel
theorem dX11_keepChosen_20 : decode cX11_keepChosen 20 = .ok (.baload, 1) := by decide +kernel
theorem dX11_keepChosen_21 : decode cX11_keepChosen 21 = .ok (.bastore, 1) := by decide +kernel
theorem dX11_keepChosen_22 : decode cX11_keepChosen 22 = .ok (.iinc 1 1, 3) := by decide +kernel
theorem dX11_keepChosen_25 : decode cX11_keepChosen 25 = .ok (.goto (-23), 3) := by decide +kernel
theorem dX11_keepChosen_28 : decode cX11_keepChosen 28 = .ok (.return_, 1) := by decide +kernel
theorem dX11_bestOfTown_0 : decode cX11_bestOfTown 0 = .ok (.iconst 0, 1) := by decide +kernel
theorem dX11_bestOfTown_1 : decode cX11_bestOfTown 1 = .ok (.istore 4, 2) := by decide +kernel
theorem dX11_bestOfTown_3 : decode cX11_bestOfTown 3 = .ok (.iload 4, 2) := by decide +kernel
theorem dX11_bestOfTown_5 : decode cX11_bestOfTown 5 = .ok (.aload_n 0, 1) := by decide +kernel
theorem dX11_bestOfTown_6 : decode cX11_bestOfTown 6 = .ok (.getfield 302, 3) := by decide +kernel
theorem dX11_bestOfTown_9 : decode cX11_bestOfTown 9 = .ok (.if_icmp .ge 42, 3) := by decide +kernel
theorem dX11_bestOfTown_12 : decode cX11_bestOfTown 12 = .ok (.aload_n 0, 1) := by decide +kernel
theorem dX11_bestOfTown_13 : decode cX11_bestOfTown 13 = .ok (.getfield 114, 3) := by decide +kernel
theorem dX11_bestOfTown_16 : decode cX11_bestOfTown 16 = .ok (.iload 4, 2) := by decide +kernel
theorem dX11_bestOfTown_18 : decode cX11_bestOfTown 18 = .ok (.aload_n 0, 1) := by decide +kernel
theorem dX11_bestOfTown_19 : decode cX11_bestOfTown 19 = .ok (.getfield 124, 3) := by decide +kernel
theorem dX11_bestOfTown_22 : decode cX11_bestOfTown 22 = .ok (.iload 4, 2) := by decide +kernel
theorem dX11_bestOfTown_24 : decode cX11_bestOfTown 24 = .ok (.baload, 1) := by decide +kernel
theorem dX11_bestOfTown_25 : decode cX11_bestOfTown 25 = .ok (.ifCond .eq 18, 3) := by decide +kernel
theorem dX11_bestOfTown_28 : decode cX11_bestOfTown 28 = .ok (.aload_n 0, 1) := by decide +kernel
theorem dX11_bestOfTown_29 : decode cX11_bestOfTown 29 = .ok (.iload 4, 2) := by decide +kernel
theorem dX11_bestOfTown_31 : decode cX11_bestOfTown 31 = .ok (.iconst 4, 1) := by decide +kernel
theorem dX11_bestOfTown_32 : decode cX11_bestOfTown 32 = .ok (.invokevirtual 291, 3) := by decide +kernel
theorem dX11_bestOfTown_35 : decode cX11_bestOfTown 35 = .ok (.iload_n 1, 1) := by decide +kernel
theorem dX11_bestOfTown_36 : decode cX11_bestOfTown 36 = .ok (.if_icmp .ne 7, 3) := by decide +kernel
theorem dX11_bestOfTown_39 : decode cX11_bestOfTown 39 = .ok (.iconst 1, 1) := by decide +kernel
theorem dX11_bestOfTown_40 : decode cX11_bestOfTown 40 = .ok (.goto 4, 3) := by decide +kernel
theorem dX11_bestOfTown_43 : decode cX11_bestOfTown 43 = .ok (.iconst 0, 1) := by decide +kernel
theorem dX11_bestOfTown_44 : decode cX11_bestOfTown 44 = .ok (.bastore, 1) := by decide +kernel
theorem dX11_bestOfTown_45 : decode cX11_bestOfTown 45 = .ok (.iinc 4 1, 3) := by decide +kernel
theorem dX11_bestOfTown_48 : decode cX11_bestOfTown 48 = .ok (.goto (-45), 3) := by decide +kernel
theorem dX11_bestOfTown_51 : decode cX11_bestOfTown 51 = .ok (.aload_n 0, 1) := by decide +kernel
theorem dX11_bestOfTown_52 : decode cX11_bestOfTown 52 = .ok (.invokevirtual 344, 3) := by decide +kernel
theorem dX11_bestOfTown_55 : decode cX11_bestOfTown 55 = .ok (.ifCond .ne 7, 3) := by decide +kernel
theorem dX11_bestOfTown_58 : decode cX11_bestOfTown 58 = .ok (.iconst (-1), 1) := by decide +kernel
theorem dX11_bestOfTown_59 : decode cX11_bestOfTown 59 = .ok (.goto 9, 3) := by decide +kernel
theorem dX11_bestOfTown_62 : decode cX11_bestOfTown 62 = .ok (.aload_n 0, 1) := by decide +kernel
theorem dX11_bestOfTown_63 : decode cX11_bestOfTown 63 = .ok (.iload_n 2, 1) := by decide +kernel
theorem dX11_bestOfTown_64 : decode cX11_bestOfTown 64 = .ok (.iload_n 3, 1) := by decide +kernel
theorem dX11_bestOfTown_65 : decode cX11_bestOfTown 65 = .ok (.invokevirtual 347, 3) := by decide +kernel
theorem dX11_bestOfTown_68 : decode cX11_bestOfTown 68 = .ok (.ireturn, 1) := by decide +kernel
theorem dX11_gcd_0 : decode cX11_gcd 0 = .ok (.iload_n 0, 1) := by decide +kernel
theorem dX11_gcd_1 : decode cX11_gcd 1 = .ok (.istore_n 2, 1) := by decide +kernel
theorem dX11_gcd_2 : decode cX11_gcd 2 = .ok (.iload_n 1, 1) := by decide +kernel
theorem dX11_gcd_3 : decode cX11_gcd 3 = .ok (.istore_n 3, 1) := by decide +kernel
theorem dX11_gcd_4 : decode cX11_gcd 4 = .ok (.iload_n 3, 1) := by decide +kernel
theorem dX11_gcd_5 : decode cX11_gcd 5 = .ok (.ifCond .eq 16, 3) := by decide +kernel
theorem dX11_gcd_8 : decode cX11_gcd 8 = .ok (.iload_n 2, 1) := by decide +kernel
theorem dX11_gcd_9 : decode cX11_gcd 9 = .ok (.iload_n 3, 1) := by decide +kernel
theorem dX11_gcd_10 : decode cX11_gcd 10 = .ok (.irem, 1) := by decide +kernel
theorem dX11_gcd_11 : decode cX11_gcd 11 = .ok (.istore 4, 2) := by decide +kernel
theorem dX11_gcd_13 : decode cX11_gcd 13 = .ok (.iload_n 3, 1) := by decide +kernel
theorem dX11_gcd_14 : decode cX11_gcd 14 = .ok (.istore_n 2, 1) := by decide +kernel
theorem dX11_gcd_15 : decode cX11_gcd 15 = .ok (.iload 4, 2) := by decide +kernel
theorem dX11_gcd_17 : decode cX11_gcd 17 = .ok (.istore_n 3, 1) := by decide +kernel
theorem dX11_gcd_18 : decode cX11_gcd 18 = .ok (.goto (-14), 3) := by decide +kernel
theorem dX11_gcd_21 : decode cX11_gcd 21 = .ok (.iload_n 2, 1) := by decide +kernel
theorem dX11_gcd_22 : decode cX11_gcd 22 = .ok (.ireturn, 1) := by decide +kernel
theorem dX11_rate_0 : decode cX11_rate 0 = .ok (.aload_n 0, 1) := by decide +kernel
theorem dX11_rate_1 : decode cX11_rate 1 = .ok (.iconst 0, 1) := by decide +kernel
theorem dX11_rate_2 : decode cX11_rate 2 = .ok (.putfield 130, 3) := by decide +kernel
theorem dX11_rate_5 : decode cX11_rate 5 = .ok (.iload_n 1, 1) := by decide +kernel
theorem dX11_rate_6 : decode cX11_rate 6 = .ok (.iconst 0, 1) := by decide +kernel
theorem dX11_rate_7 : decode cX11_rate 7 = .ok (.iconst 5, 1) := by decide +kernel
theorem dX11_rate_8 : decode cX11_rate 8 = .ok (.invokestatic 138, 3) := by decide +kernel
theorem dX11_rate_11 : decode cX11_rate 11 = .ok (.ifCond .eq 38, 3) := by decide +kernel
theorem dX11_rate_14 : decode cX11_rate 14 = .ok (.iload_n 2, 1) := by decide +kernel
theorem dX11_rate_15 : decode cX11_rate 15 = .ok (.iconst 0, 1) := by decide +kernel
theorem dX11_rate_16 : decode cX11_rate 16 = .ok (.iconst 5, 1) := by decide +kernel
theorem dX11_rate_17 : decode cX11_rate 17 = .ok (.invokestatic 138, 3) := by decide +kernel
theorem dX11_rate_20 : decode cX11_rate 20 = .ok (.ifCond .eq 29, 3) := by decide +kernel
theorem dX11_rate_23 : decode cX11_rate 23 = .ok (.iload_n 1, 1) := by decide +kernel
theorem dX11_rate_24 : decode cX11_rate 24 = .ok (.iload_n 2, 1) := by decide +kernel
theorem dX11_rate_25 : decode cX11_rate 25 = .ok (.if_icmp .eq 24, 3) := by decide +kernel
theorem dX11_rate_28 : decode cX11_rate 28 = .ok (.iload_n 3, 1) := by decide +kernel
theorem dX11_rate_29 : decode cX11_rate 29 = .ok (.iload 4, 2) := by decide +kernel
theorem dX11_rate_31 : decode cX11_rate 31 = .ok (.invokestatic 340, 3) := by decide +kernel
theorem dX11_rate_34 : decode cX11_rate 34 = .ok (.ifCond .eq 15, 3) := by decide +kernel
theorem dX11_rate_37 : decode cX11_rate 37 = .ok (.iload 5, 2) := by decide +kernel
theorem dX11_rate_39 : decode cX11_rate 39 = .ok (.iconst 0, 1) := by decide +kernel
theorem dX11_rate_40 : decode cX11_rate 40 = .ok (.sipush 200, 3) := by decide +kernel
theorem dX11_rate_43 : decode cX11_rate 43 = .ok (.invokestatic 138, 3) := by decide +kernel
theorem dX11_rate_46 : decode cX11_rate 46 = .ok (.ifCond .ne 5, 3) := by decide +kernel
theorem dX11_rate_49 : decode cX11_rate 49 = .ok (.iconst (-1), 1) := by decide +kernel
theorem dX11_rate_50 : decode cX11_rate 50 = .ok (.ireturn, 1) := by decide +kernel
theorem dX11_rate_51 : decode cX11_rate 51 = .ok (.aload_n 0, 1) := by decide +kernel
theorem dX11_rate_52 : decode cX11_rate 52 = .ok (.invokevirtual 311, 3) := by decide +kernel
theorem dX11_rate_55 : decode cX11_rate 55 = .ok (.aload_n 0, 1) := by decide +kernel
theorem dX11_rate_56 : decode cX11_rate 56 = .ok (.invokevirtual 397, 3) := by decide +kernel
theorem dX11_rate_59 : decode cX11_rate 59 = .ok (.aload_n 0, 1) := by decide +kernel
theorem dX11_rate_60 : decode cX11_rate 60 = .ok (.iload_n 1, 1) := by decide +kernel
theorem dX11_rate_61 : decode cX11_rate 61 = .ok (.iload_n 3, 1) := by decide +kernel
theorem dX11_rate_62 : decode cX11_rate 62 = .ok (.iload 4, 2) := by decide +kernel
theorem dX11_rate_64 : decode cX11_rate 64 = .ok (.invokevirtual 400, 3) := by decide +kernel
theorem dX11_rate_67 : decode cX11_rate 67 = .ok (.istore 6, 2) := by decide +kernel
theorem dX11_rate_69 : decode cX11_rate 69 = .ok (.aload_n 0, 1) := by decide +kernel
theorem dX11_rate_70 : decode cX11_rate 70 = .ok (.iload_n 2, 1) := by decide +kernel
theorem dX11_rate_71 : decode cX11_rate 71 = .ok (.iload_n 3, 1) := by decide +kernel
theorem dX11_rate_72 : decode cX11_rate 72 = .ok (.iload 4, 2) := by decide +kernel
theorem dX11_rate_74 : decode cX11_rate 74 = .ok (.invokevirtual 400, 3) := by decide +kernel
theorem dX11_rate_77 : decode cX11_rate 77 = .ok (.istore 7, 2) := by decide +kernel
theorem dX11_rate_79 : decode cX11_rate 79 = .ok (.iload 6, 2) := by decide +kernel
theorem dX11_rate_81 : decode cX11_rate 81 = .ok (.iconst (-1), 1) := by decide +kernel
theorem dX11_rate_82 : decode cX11_rate 82 = .ok (.if_icmp .eq 9, 3) := by decide +kernel
theorem dX11_rate_85 : decode cX11_rate 85 = .ok (.iload 7, 2) := by decide +kernel
theorem dX11_rate_87 : decode cX11_rate 87 = .ok (.iconst (-1), 1) := by decide +kernel
theorem dX11_rate_88 : decode cX11_rate 88 = .ok (.if_icmp .ne 5, 3) := by decide +kernel
theorem dX11_rate_91 : decode cX11_rate 91 = .ok (.iconst (-1), 1) := by decide +kernel
theorem dX11_rate_92 : decode cX11_rate 92 = .ok (.ireturn, 1) := by decide +kernel
theorem dX11_rate_93 : decode cX11_rate 93 = .ok (.iconst 2, 1) := by decide +kernel
theorem dX11_rate_94 : decode cX11_rate 94 = .ok (.istore 8, 2) := by decide +kernel
theorem dX11_rate_96 : decode cX11_rate 96 = .ok (.iload 8, 2) := by decide +kernel
theorem dX11_rate_98 : decode cX11_rate 98 = .ok (.bipush 24, 2) := by decide +kernel
theorem dX11_rate_100 : decode cX11_rate 100 = .ok (.if_icmp .gt 116, 3) := by decide +kernel
theorem dX11_rate_103 : decode cX11_rate 103 = .ok (.iconst 1, 1) := by decide +kernel
theorem dX11_rate_104 : decode cX11_rate 104 = .ok (.istore 9, 2) := by decide +kernel
theorem dX11_rate_106 : decode cX11_rate 106 = .ok (.iload 9, 2) := by decide +kernel
theorem dX11_rate_108 : decode cX11_rate 108 = .ok (.iload 8, 2) := by decide +kernel
theorem dX11_rate_110 : decode cX11_rate 110 = .ok (.if_icmp .ge 100, 3) := by decide +kernel
theorem dX11_rate_113 : decode cX11_rate 113 = .ok (.iload 8, 2) := by decide +kernel
theorem dX11_rate_115 : decode cX11_rate 115 = .ok (.iload 9, 2) := by decide +kernel
theorem dX11_rate_117 : decode cX11_rate 117 = .ok (.isub, 1) := by decide +kernel
theorem dX11_rate_118 : decode cX11_rate 118 = .ok (.istore 10, 2) := by decide +kernel
theorem dX11_rate_120 : decode cX11_rate 120 = .ok (.iload 6, 2) := by decide +kernel
theorem dX11_rate_122 : decode cX11_rate 122 = .ok (.iload 10, 2) := by decide +kernel
theorem dX11_rate_124 : decode cX11_rate 124 = .ok (.imul, 1) := by decide +kernel
theorem dX11_rate_125 : decode cX11_rate 125 = .ok (.iload 7, 2) := by decide +kernel
theorem dX11_rate_127 : decode cX11_rate 127 = .ok (.iload 9, 2) := by decide +kernel
theorem dX11_rate_129 : decode cX11_rate 129 = .ok (.imul, 1) := by decide +kernel
theorem dX11_rate_130 : decode cX11_rate 130 = .ok (.isub, 1) := by decide +kernel
theorem dX11_rate_131 : decode cX11_rate 131 = .ok (.istore 11, 2) := by decide +kernel
theorem dX11_rate_133 : decode cX11_rate 133 = .ok (.iload 11, 2) := by decide +kernel
theorem dX11_rate_135 : decode cX11_rate 135 = .ok (.ifCond .ge 9, 3) := by decide +kernel
theorem dX11_rate_138 : decode cX11_rate 138 = .ok (.iload 11, 2) := by decide +kernel
theorem dX11_rate_140 : decode cX11_rate 140 = .ok (.ineg, 1) := by decide +kernel
theorem dX11_rate_141 : decode cX11_rate 141 = .ok (.goto 5, 3) := by decide +kernel
theorem dX11_rate_144 : decode cX11_rate 144 = .ok (.iload 11, 2) := by decide +kernel
theorem dX11_rate_146 : decode cX11_rate 146 = .ok (.istore 11, 2) := by decide +kernel
theorem dX11_rate_148 : decode cX11_rate 148 = .ok (.iload 9, 2) := by decide +kernel
theorem dX11_rate_150 : decode cX11_rate 150 = .ok (.bipush 13, 2) := by decide +kernel
theorem dX11_rate_152 : decode cX11_rate 152 = .ok (.if_icmp .ge 52, 3) := by decide +kernel
theorem dX11_rate_155 : decode cX11_rate 155 = .ok (.iload 10, 2) := by decide +kernel
theorem dX11_rate_157 : decode cX11_rate 157 = .ok (.bipush 13, 2) := by decide +kernel
theorem dX11_rate_159 : decode cX11_rate 159 = .ok (.if_icmp .ge 45, 3) := by decide +kernel
theorem dX11_rate_162 : decode cX11_rate 162 = .ok (.iload 9, 2) := by decide +kernel
theorem dX11_rate_164 : decode cX11_rate 164 = .ok (.iload 10, 2) := by decide +kernel
theorem dX11_rate_166 : decode cX11_rate 166 = .ok (.invokestatic 403, 3) := by decide +kernel
theorem dX11_rate_169 : decode cX11_rate 169 = .ok (.iconst 1, 1) := by decide +kernel
theorem dX11_rate_170 : decode cX11_rate 170 = .ok (.if_icmp .ne 34, 3) := by decide +kernel
theorem dX11_rate_173 : decode cX11_rate 173 = .ok (.ldc2_w 383, 3) := by decide +kernel
theorem dX11_rate_176 : decode cX11_rate 176 = .ok (.iload 11, 2) := by decide +kernel
theorem dX11_rate_178 : decode cX11_rate 178 = .ok (.i2l, 1) := by decide +kernel
theorem dX11_rate_179 : decode cX11_rate 179 = .ok (.lmul, 1) := by decide +kernel
theorem dX11_rate_180 : decode cX11_rate 180 = .ok (.iload 5, 2) := by decide +kernel
theorem dX11_rate_182 : decode cX11_rate 182 = .ok (.i2l, 1) := by decide +kernel
theorem dX11_rate_183 : decode cX11_rate 183 = .ok (.iload 7, 2) := by decide +kernel
theorem dX11_rate_185 : decode cX11_rate 185 = .ok (.i2l, 1) := by decide +kernel
theorem dX11_rate_186 : decode cX11_rate 186 = .ok (.lmul, 1) := by decide +kernel
theorem dX11_rate_187 : decode cX11_rate 187 = .ok (.iload 9, 2) := by decide +kernel
theorem dX11_rate_189 : decode cX11_rate 189 = .ok (.i2l, 1) := by decide +kernel
theorem dX11_rate_190 : decode cX11_rate 190 = .ok (.lmul, 1) := by decide +kernel
theorem dX11_rate_191 : decode cX11_rate 191 = .ok (.lcmp, 1) := by decide +kernel
theorem dX11_rate_192 : decode cX11_rate 192 = .ok (.ifCond .gt 12, 3) := by decide +kernel
theorem dX11_rate_195 : decode cX11_rate 195 = .ok (.bipush 100, 2) := by decide +kernel
theorem dX11_rate_197 : decode cX11_rate 197 = .ok (.iload 9, 2) := by decide +kernel
theorem dX11_rate_199 : decode cX11_rate 199 = .ok (.imul, 1) := by decide +kernel
theorem dX11_rate_200 : decode cX11_rate 200 = .ok (.iload 10, 2) := by decide +kernel
theorem dX11_rate_202 : decode cX11_rate 202 = .ok (.iadd, 1) := by decide +kernel
theorem dX11_rate_203 : decode cX11_rate 203 = .ok (.ireturn, 1) := by decide +kernel
theorem dX11_rate_204 : decode cX11_rate 204 = .ok (.iinc 9 1, 3) := by decide +kernel
theorem dX11_rate_207 : decode cX11_rate 207 = .ok (.goto (-101), 3) := by decide +kernel
theorem dX11_rate_210 : decode cX11_rate 210 = .ok (.iinc 8 1, 3) := by decide +kernel
theorem dX11_rate_213 : decode cX11_rate 213 = .ok (.goto (-117), 3) := by decide +kernel
theorem dX11_rate_216 : decode cX11_rate 216 = .ok (.iconst (-1), 1) := by decide +kernel
theorem dX11_rate_217 : decode cX11_rate 217 = .ok (.ireturn, 1) := by decide +kernel
theorem dX11_drift_0 : decode cX11_drift 0 = .ok (.aload_n 0, 1) := by decide +kernel
theorem dX11_drift_1 : decode cX11_drift 1 = .ok (.iconst 0, 1) := by decide +kernel
theorem dX11_drift_2 : decode cX11_drift 2 = .ok (.putfield 130, 3) := by decide +kernel
theorem dX11_drift_5 : decode cX11_drift 5 = .ok (.iload_n 1, 1) := by decide +kernel
theorem dX11_drift_6 : decode cX11_drift 6 = .ok (.sipush (-3000), 3) := by decide +kernel
theorem dX11_drift_9 : decode cX11_drift 9 = .ok (.sipush 1900, 3) := by decide +kernel
theorem dX11_drift_12 : decode cX11_drift 12 = .ok (.invokestatic 138, 3) := by decide +kernel
theorem dX11_drift_15 : decode cX11_drift 15 = .ok (.ifCond .eq 11, 3) := by decide +kernel
theorem dX11_drift_18 : decode cX11_drift 18 = .ok (.iload_n 2, 1) := by decide +kernel
theorem dX11_drift_19 : decode cX11_drift 19 = .ok (.iload_n 3, 1) := by decide +kernel
theorem dX11_drift_20 : decode cX11_drift 20 = .ok (.invokestatic 340, 3) := by decide +kernel
theorem dX11_drift_23 : decode cX11_drift 23 = .ok (.ifCond .ne 6, 3) := by decide +kernel
theorem dX11_drift_26 : decode cX11_drift 26 = .ok (.ldc 161, 2) := by decide +kernel
theorem dX11_drift_28 : decode cX11_drift 28 = .ok (.ireturn, 1) := by decide +kernel
theorem dX11_drift_29 : decode cX11_drift 29 = .ok (.aload_n 0, 1) := by decide +kernel
theorem dX11_drift_30 : decode cX11_drift 30 = .ok (.invokevirtual 311, 3) := by decide +kernel
theorem dX11_drift_33 : decode cX11_drift 33 = .ok (.aload_n 0, 1) := by decide +kernel
theorem dX11_drift_34 : decode cX11_drift 34 = .ok (.invokevirtual 397, 3) := by decide +kernel
theorem dX11_drift_37 : decode cX11_drift 37 = .ok (.iconst 0, 1) := by decide +kernel
theorem dX11_drift_38 : decode cX11_drift 38 = .ok (.istore 4, 2) := by decide +kernel
theorem dX11_drift_40 : decode cX11_drift 40 = .ok (.iload 4, 2) := by decide +kernel
theorem dX11_drift_42 : decode cX11_drift 42 = .ok (.aload_n 0, 1) := by decide +kernel
theorem dX11_drift_43 : decode cX11_drift 43 = .ok (.getfield 302, 3) := by decide +kernel
theorem dX11_drift_46 : decode cX11_drift 46 = .ok (.if_icmp .ge 42, 3) := by decide +kernel
theorem dX11_drift_49 : decode cX11_drift 49 = .ok (.aload_n 0, 1) := by decide +kernel
theorem dX11_drift_50 : decode cX11_drift 50 = .ok (.getfield 114, 3) := by decide +kernel
theorem dX11_drift_53 : decode cX11_drift 53 = .ok (.iload 4, 2) := by decide +kernel
theorem dX11_drift_55 : decode cX11_drift 55 = .ok (.aload_n 0, 1) := by decide +kernel
theorem dX11_drift_56 : decode cX11_drift 56 = .ok (.getfield 124, 3) := by decide +kernel
theorem dX11_drift_59 : decode cX11_drift 59 = .ok (.iload 4, 2) := by decide +kernel
theorem dX11_drift_61 : decode cX11_drift 61 = .ok (.baload, 1) := by decide +kernel
theorem dX11_drift_62 : decode cX11_drift 62 = .ok (.ifCond .eq 18, 3) := by decide +kernel
theorem dX11_drift_65 : decode cX11_drift 65 = .ok (.aload_n 0, 1) := by decide +kernel
theorem dX11_drift_66 : decode cX11_drift 66 = .ok (.iload 4, 2) := by decide +kernel
theorem dX11_drift_68 : decode cX11_drift 68 = .ok (.iconst 5, 1) := by decide +kernel
theorem dX11_drift_69 : decode cX11_drift 69 = .ok (.invokevirtual 291, 3) := by decide +kernel
theorem dX11_drift_72 : decode cX11_drift 72 = .ok (.iload_n 1, 1) := by decide +kernel
theorem dX11_drift_73 : decode cX11_drift 73 = .ok (.if_icmp .lt 7, 3) := by decide +kernel
theorem dX11_drift_76 : decode cX11_drift 76 = .ok (.iconst 1, 1) := by decide +kernel
theorem dX11_drift_77 : decode cX11_drift 77 = .ok (.goto 4, 3) := by decide +kernel
theorem dX11_drift_80 : decode cX11_drift 80 = .ok (.iconst 0, 1) := by decide +kernel
theorem dX11_drift_81 : decode cX11_drift 81 = .ok (.bastore, 1) := by decide +kernel
theorem dX11_drift_82 : decode cX11_drift 82 = .ok (.iinc 4 1, 3) := by decide +kernel
theorem dX11_drift_85 : decode cX11_drift 85 = .ok (.goto (-45), 3) := by decide +kernel
theorem dX11_drift_88 : decode cX11_drift 88 = .ok (.aload_n 0, 1) := by decide +kernel
theorem dX11_drift_89 : decode cX11_drift 89 = .ok (.invokevirtual 344, 3) := by decide +kernel
theorem dX11_drift_92 : decode cX11_drift 92 = .ok (.ifCond .ne 7, 3) := by decide +kernel
theorem dX11_drift_95 : decode cX11_drift 95 = .ok (.iconst (-1), 1) := by decide +kernel
theorem dX11_drift_96 : decode cX11_drift 96 = .ok (.goto 9, 3) := by decide +kernel
theorem dX11_drift_99 : decode cX11_drift 99 = .ok (.aload_n 0, 1) := by decide +kernel
theorem dX11_drift_100 : decode cX11_drift 100 = .ok (.iload_n 2, 1) := by decide +kernel
theorem dX11_drift_101 : decode cX11_drift 101 = .ok (.iload_n 3, 1) := by decide +kernel
theorem dX11_drift_102 : decode cX11_drift 102 = .ok (.invokevirtual 347, 3) := by decide +kernel
theorem dX11_drift_105 : decode cX11_drift 105 = .ok (.istore 4, 2) := by decide +kernel
theorem dX11_drift_107 : decode cX11_drift 107 = .ok (.iconst 0, 1) := by decide +kernel
theorem dX11_drift_108 : decode cX11_drift 108 = .ok (.istore 5, 2) := by decide +kernel
theorem dX11_drift_110 : decode cX11_drift 110 = .ok (.iload 5, 2) := by decide +kernel
theorem dX11_drift_112 : decode cX11_drift 112 = .ok (.aload_n 0, 1) := by decide +kernel
theorem dX11_drift_113 : decode cX11_drift 113 = .ok (.getfield 302, 3) := by decide +kernel
theorem dX11_drift_116 : decode cX11_drift 116 = .ok (.if_icmp .ge 43, 3) := by decide +kernel
theorem dX11_drift_119 : decode cX11_drift 119 = .ok (.aload_n 0, 1) := by decide +kernel
theorem dX11_drift_120 : decode cX11_drift 120 = .ok (.getfield 114, 3) := by decide +kernel
theorem dX11_drift_123 : decode cX11_drift 123 = .ok (.iload 5, 2) := by decide +kernel
theorem dX11_drift_125 : decode cX11_drift 125 = .ok (.aload_n 0, 1) := by decide +kernel
theorem dX11_drift_126 : decode cX11_drift 126 = .ok (.getfield 124, 3) := by decide +kernel
theorem dX11_drift_129 : decode cX11_drift 129 = .ok (.iload 5, 2) := by decide +kernel
theorem dX11_drift_131 : decode cX11_drift 131 = .ok (.baload, 1) := by decide +kernel
theorem dX11_drift_132 : decode cX11_drift 132 = .ok (.ifCond .eq 19, 3) := by decide +kernel
theorem dX11_drift_135 : decode cX11_drift 135 = .ok (.aload_n 0, 1) := by decide +kernel
theorem dX11_drift_136 : decode cX11_drift 136 = .ok (.iload 5, 2) := by decide +kernel
theorem dX11_drift_138 : decode cX11_drift 138 = .ok (.bipush 6, 2) := by decide +kernel
theorem dX11_drift_140 : decode cX11_drift 140 = .ok (.invokevirtual 291, 3) := by decide +kernel
theorem dX11_drift_143 : decode cX11_drift 143 = .ok (.iload_n 1, 1) := by decide +kernel
theorem dX11_drift_144 : decode cX11_drift 144 = .ok (.if_icmp .ge 7, 3) := by decide +kernel
theorem dX11_drift_147 : decode cX11_drift 147 = .ok (.iconst 1, 1) := by decide +kernel
theorem dX11_drift_148 : decode cX11_drift 148 = .ok (.goto 4, 3) := by decide +kernel
theorem dX11_drift_151 : decode cX11_drift 151 = .ok (.iconst 0, 1) := by decide +kernel
theorem dX11_drift_152 : decode cX11_drift 152 = .ok (.bastore, 1) := by decide +kernel
theorem dX11_drift_153 : decode cX11_drift 153 = .ok (.iinc 5 1, 3) := by decide +kernel
theorem dX11_drift_156 : decode cX11_drift 156 = .ok (.goto (-46), 3) := by decide +kernel
theorem dX11_drift_159 : decode cX11_drift 159 = .ok (.aload_n 0, 1) := by decide +kernel
theorem dX11_drift_160 : decode cX11_drift 160 = .ok (.invokevirtual 344, 3) := by decide +kernel
theorem dX11_drift_163 : decode cX11_drift 163 = .ok (.ifCond .ne 7, 3) := by decide +kernel
theorem dX11_drift_166 : decode cX11_drift 166 = .ok (.iconst (-1), 1) := by decide +kernel
theorem dX11_drift_167 : decode cX11_drift 167 = .ok (.goto 9, 3) := by decide +kernel
theorem dX11_drift_170 : decode cX11_drift 170 = .ok (.aload_n 0, 1) := by decide +kernel
theorem dX11_drift_171 : decode cX11_drift 171 = .ok (.iload_n 2, 1) := by decide +kernel
theorem dX11_drift_172 : decode cX11_drift 172 = .ok (.iload_n 3, 1) := by decide +kernel
theorem dX11_drift_173 : decode cX11_drift 173 = .ok (.invokevirtual 347, 3) := by decide +kernel
theorem dX11_drift_176 : decode cX11_drift 176 = .ok (.istore 5, 2) := by decide +kernel
theorem dX11_drift_178 : decode cX11_drift 178 = .ok (.iload 4, 2) := by decide +kernel
theorem dX11_drift_180 : decode cX11_drift 180 = .ok (.iconst (-1), 1) := by decide +kernel
theorem dX11_drift_181 : decode cX11_drift 181 = .ok (.if_icmp .eq 9, 3) := by decide +kernel
theorem dX11_drift_184 : decode cX11_drift 184 = .ok (.iload 5, 2) := by decide +kernel
theorem dX11_drift_186 : decode cX11_drift 186 = .ok (.iconst (-1), 1) := by decide +kernel
theorem dX11_drift_187 : decode cX11_drift 187 = .ok (.if_icmp .ne 8, 3) := by decide +kernel
theorem dX11_drift_190 : decode cX11_drift 190 = .ok (.ldc 161, 2) := by decide +kernel
theorem dX11_drift_192 : decode cX11_drift 192 = .ok (.goto 8, 3) := by decide +kernel
theorem dX11_drift_195 : decode cX11_drift 195 = .ok (.iload 4, 2) := by decide +kernel
theorem dX11_drift_197 : decode cX11_drift 197 = .ok (.iload 5, 2) := by decide +kernel
theorem dX11_drift_199 : decode cX11_drift 199 = .ok (.isub, 1) := by decide +kernel
theorem dX11_drift_200 : decode cX11_drift 200 = .ok (.ireturn, 1) := by decide +kernel
theorem dX11_owner_0 : decode cX11_owner 0 = .ok (.aload_n 0, 1) := by decide +kernel
theorem dX11_owner_1 : decode cX11_owner 1 = .ok (.iconst 0, 1) := by decide +kernel
theorem dX11_owner_2 : decode cX11_owner 2 = .ok (.putfield 130, 3) := by decide +kernel
theorem dX11_owner_5 : decode cX11_owner 5 = .ok (.iload_n 1, 1) := by decide +kernel
theorem dX11_owner_6 : decode cX11_owner 6 = .ok (.iconst 1, 1) := by decide +kernel
theorem dX11_owner_7 : decode cX11_owner 7 = .ok (.bipush 9, 2) := by decide +kernel
theorem dX11_owner_9 : decode cX11_owner 9 = .ok (.invokestatic 138, 3) := by decide +kernel
theorem dX11_owner_12 : decode cX11_owner 12 = .ok (.ifCond .eq 19, 3) := by decide +kernel
theorem dX11_owner_15 : decode cX11_owner 15 = .ok (.iload_n 2, 1) := by decide +kernel
theorem dX11_owner_16 : decode cX11_owner 16 = .ok (.invokestatic 314, 3) := by decide +kernel
theorem dX11_owner_19 : decode cX11_owner 19 = .ok (.ifCond .eq 12, 3) := by decide +kernel
theorem dX11_owner_22 : decode cX11_owner 22 = .ok (.iload_n 3, 1) := by decide +kernel
theorem dX11_owner_23 : decode cX11_owner 23 = .ok (.iconst 0, 1) := by decide +kernel
theorem dX11_owner_24 : decode cX11_owner 24 = .ok (.iconst 2, 1) := by decide +kernel
theorem dX11_owner_25 : decode cX11_owner 25 = .ok (.invokestatic 138, 3) := by decide +kernel
theorem dX11_owner_28 : decode cX11_owner 28 = .ok (.ifCond .ne 5, 3) := by decide +kernel
theorem dX11_owner_31 : decode cX11_owner 31 = .ok (.iconst (-1), 1) := by decide +kernel
theorem dX11_owner_32 : decode cX11_owner 32 = .ok (.ireturn, 1) := by decide +kernel
theorem dX11_owner_33 : decode cX11_owner 33 = .ok (.aload_n 0, 1) := by decide +kernel
theorem dX11_owner_34 : decode cX11_owner 34 = .ok (.invokevirtual 311, 3) := by decide +kernel
theorem dX11_owner_37 : decode cX11_owner 37 = .ok (.aload_n 0, 1) := by decide +kernel
theorem dX11_owner_38 : decode cX11_owner 38 = .ok (.invokevirtual 364, 3) := by decide +kernel
theorem dX11_owner_41 : decode cX11_owner 41 = .ok (.iconst 0, 1) := by decide +kernel
theorem dX11_owner_42 : decode cX11_owner 42 = .ok (.istore 4, 2) := by decide +kernel
theorem dX11_owner_44 : decode cX11_owner 44 = .ok (.iconst 0, 1) := by decide +kernel
theorem dX11_owner_45 : decode cX11_owner 45 = .ok (.istore 5, 2) := by decide +kernel
theorem dX11_owner_47 : decode cX11_owner 47 = .ok (.iconst 0, 1) := by decide +kernel
theorem dX11_owner_48 : decode cX11_owner 48 = .ok (.istore 6, 2) := by decide +kernel
theorem dX11_owner_50 : decode cX11_owner 50 = .ok (.iload 6, 2) := by decide +kernel
theorem dX11_owner_52 : decode cX11_owner 52 = .ok (.aload_n 0, 1) := by decide +kernel
theorem dX11_owner_53 : decode cX11_owner 53 = .ok (.getfield 302, 3) := by decide +kernel
theorem dX11_owner_56 : decode cX11_owner 56 = .ok (.if_icmp .ge 64, 3) := by decide +kernel
theorem dX11_owner_59 : decode cX11_owner 59 = .ok (.aload_n 0, 1) := by decide +kernel
theorem dX11_owner_60 : decode cX11_owner 60 = .ok (.getfield 114, 3) := by decide +kernel
theorem dX11_owner_63 : decode cX11_owner 63 = .ok (.iload 6, 2) := by decide +kernel
theorem dX11_owner_65 : decode cX11_owner 65 = .ok (.baload, 1) := by decide +kernel
theorem dX11_owner_66 : decode cX11_owner 66 = .ok (.ifCond .eq 48, 3) := by decide +kernel
theorem dX11_owner_69 : decode cX11_owner 69 = .ok (.aload_n 0, 1) := by decide +kernel
theorem dX11_owner_70 : decode cX11_owner 70 = .ok (.iload 6, 2) := by decide +kernel
theorem dX11_owner_72 : decode cX11_owner 72 = .ok (.bipush 8, 2) := by decide +kernel
theorem dX11_owner_74 : decode cX11_owner 74 = .ok (.invokevirtual 291, 3) := by decide +kernel
theorem dX11_owner_77 : decode cX11_owner 77 = .ok (.iload_n 1, 1) := by decide +kernel
theorem dX11_owner_78 : decode cX11_owner 78 = .ok (.if_icmp .ne 36, 3) := by decide +kernel
theorem dX11_owner_81 : decode cX11_owner 81 = .ok (.iinc 4 1, 3) := by decide +kernel
theorem dX11_owner_84 : decode cX11_owner 84 = .ok (.iload 5, 2) := by decide +kernel
theorem dX11_owner_86 : decode cX11_owner 86 = .ok (.bipush 100, 2) := by decide +kernel
theorem dX11_owner_88 : decode cX11_owner 88 = .ok (.aload_n 0, 1) := by decide +kernel
theorem dX11_owner_89 : decode cX11_owner 89 = .ok (.iload 6, 2) := by decide +kernel
theorem dX11_owner_91 : decode cX11_owner 91 = .ok (.iload_n 2, 1) := by decide +kernel
theorem dX11_owner_92 : decode cX11_owner 92 = .ok (.invokevirtual 326, 3) := by decide +kernel
theorem dX11_owner_95 : decode cX11_owner 95 = .ok (.imul, 1) := by decide +kernel
theorem dX11_owner_96 : decode cX11_owner 96 = .ok (.iload_n 2, 1) := by decide +kernel
theorem dX11_owner_97 : decode cX11_owner 97 = .ok (.if_icmp .le 7, 3) := by decide +kernel
theorem dX11_owner_100 : decode cX11_owner 100 = .ok (.iconst 1, 1) := by decide +kernel
theorem dX11_owner_101 : decode cX11_owner 101 = .ok (.goto 4, 3) := by decide +kernel
theorem dX11_owner_104 : decode cX11_owner 104 = .ok (.iconst 0, 1) := by decide +kernel
theorem dX11_owner_105 : decode cX11_owner 105 = .ok (.iadd, 1) := by decide +kernel
theorem dX11_owner_106 : decode cX11_owner 106 = .ok (.istore 5, 2) := by decide +kernel
theorem dX11_owner_108 : decode cX11_owner 108 = .ok (.aload_n 0, 1) := by decide +kernel
theorem dX11_owner_109 : decode cX11_owner 109 = .ok (.iconst 1, 1) := by decide +kernel
theorem dX11_owner_110 : decode cX11_owner 110 = .ok (.iconst 2, 1) := by decide +kernel
theorem dX11_owner_111 : decode cX11_owner 111 = .ok (.invokevirtual 370, 3) := by decide +kernel
theorem dX11_owner_114 : decode cX11_owner 114 = .ok (.iinc 6 1, 3) := by decide +kernel
theorem dX11_owner_117 : decode cX11_owner 117 = .ok (.goto (-67), 3) := by decide +kernel
theorem dX11_owner_120 : decode cX11_owner 120 = .ok (.iload_n 3, 1) := by decide +kernel
theorem dX11_owner_121 : decode cX11_owner 121 = .ok (.ifCond .ne 8, 3) := by decide +kernel
theorem dX11_owner_124 : decode cX11_owner 124 = .ok (.iload 4, 2) := by decide +kernel
theorem dX11_owner_126 : decode cX11_owner 126 = .ok (.goto 20, 3) := by decide +kernel
theorem dX11_owner_129 : decode cX11_owner 129 = .ok (.iload_n 3, 1) := by decide +kernel
theorem dX11_owner_130 : decode cX11_owner 130 = .ok (.iconst 1, 1) := by decide +kernel
theorem dX11_owner_131 : decode cX11_owner 131 = .ok (.if_icmp .ne 8, 3) := by decide +kernel
theorem dX11_owner_134 : decode cX11_owner 134 = .ok (.iload 5, 2) := by decide +kernel
theorem dX11_owner_136 : decode cX11_owner 136 = .ok (.goto 10, 3) := by decide +kernel
theorem dX11_owner_139 : decode cX11_owner 139 = .ok (.aload_n 0, 1) := by decide +kernel
theorem dX11_owner_140 : decode cX11_owner 140 = .ok (.iload 5, 2) := by decide +kernel
theorem dX11_owner_142 : decode cX11_owner 142 = .ok (.invokevirtual 376, 3) := by decide +kernel
theorem dX11_owner_145 : decode cX11_owner 145 = .ok (.l2i, 1) := by decide +kernel
theorem dX11_owner_146 : decode cX11_owner 146 = .ok (.ireturn, 1) := by decide +kernel
theorem dX11_areTwins_0 : decode cX11_areTwins 0 = .ok (.aload_n 0, 1) := by decide +kernel
theorem dX11_areTwins_1 : decode cX11_areTwins 1 = .ok (.iload_n 1, 1) := by decide +kernel
theorem dX11_areTwins_2 : decode cX11_areTwins 2 = .ok (.iconst 0, 1) := by decide +kernel
theorem dX11_areTwins_3 : decode cX11_areTwins 3 = .ok (.invokevirtual 291, 3) := by decide +kernel
theorem dX11_areTwins_6 : decode cX11_areTwins 6 = .ok (.aload_n 0, 1) := by decide +kernel
theorem dX11_areTwins_7 : decode cX11_areTwins 7 = .ok (.iload_n 2, 1) := by decide +kernel
theorem dX11_areTwins_8 : decode cX11_areTwins 8 = .ok (.iconst 0, 1) := by decide +kernel
theorem dX11_areTwins_9 : decode cX11_areTwins 9 = .ok (.invokevirtual 291, 3) := by decide +kernel
theorem dX11_areTwins_12 : decode cX11_areTwins 12 = .ok (.isub, 1) := by decide +kernel
theorem dX11_areTwins_13 : decode cX11_areTwins 13 = .ok (.istore 4, 2) := by decide +kernel
theorem dX11_areTwins_15 : decode cX11_areTwins 15 = .ok (.aload_n 0, 1) := by decide +kernel
theorem dX11_areTwins_16 : decode cX11_areTwins 16 = .ok (.getfield 114, 3) := by decide +kernel
theorem dX11_areTwins_19 : decode cX11_areTwins 19 = .ok (.iload_n 1, 1) := by decide +kernel
theorem dX11_areTwins_20 : decode cX11_areTwins 20 = .ok (.baload, 1) := by decide +kernel
theorem dX11_areTwins_21 : decode cX11_areTwins 21 = .ok (.ifCond .eq 74, 3) := by decide +kernel
theorem dX11_areTwins_24 : decode cX11_areTwins 24 = .ok (.aload_n 0, 1) := by decide +kernel
theorem dX11_areTwins_25 : decode cX11_areTwins 25 = .ok (.getfield 114, 3) := by decide +kernel
theorem dX11_areTwins_28 : decode cX11_areTwins 28 = .ok (.iload_n 2, 1) := by decide +kernel
theorem dX11_areTwins_29 : decode cX11_areTwins 29 = .ok (.baload, 1) := by decide +kernel
theorem dX11_areTwins_30 : decode cX11_areTwins 30 = .ok (.ifCond .eq 65, 3) := by decide +kernel
theorem dX11_areTwins_33 : decode cX11_areTwins 33 = .ok (.aload_n 0, 1) := by decide +kernel
theorem dX11_areTwins_34 : decode cX11_areTwins 34 = .ok (.iload_n 1, 1) := by decide +kernel
theorem dX11_areTwins_35 : decode cX11_areTwins 35 = .ok (.iconst 4, 1) := by decide +kernel
theorem dX11_areTwins_36 : decode cX11_areTwins 36 = .ok (.invokevirtual 291, 3) := by decide +kernel
theorem dX11_areTwins_39 : decode cX11_areTwins 39 = .ok (.aload_n 0, 1) := by decide +kernel
theorem dX11_areTwins_40 : decode cX11_areTwins 40 = .ok (.iload_n 2, 1) := by decide +kernel
theorem dX11_areTwins_41 : decode cX11_areTwins 41 = .ok (.iconst 4, 1) := by decide +kernel
theorem dX11_areTwins_42 : decode cX11_areTwins 42 = .ok (.invokevirtual 291, 3) := by decide +kernel
theorem dX11_areTwins_45 : decode cX11_areTwins 45 = .ok (.if_icmp .ne 50, 3) := by decide +kernel
theorem dX11_areTwins_48 : decode cX11_areTwins 48 = .ok (.aload_n 0, 1) := by decide +kernel
theorem dX11_areTwins_49 : decode cX11_areTwins 49 = .ok (.iload_n 1, 1) := by decide +kernel
theorem dX11_areTwins_50 : decode cX11_areTwins 50 = .ok (.iconst 1, 1) := by decide +kernel
theorem dX11_areTwins_51 : decode cX11_areTwins 51 = .ok (.invokevirtual 291, 3) := by decide +kernel
theorem dX11_areTwins_54 : decode cX11_areTwins 54 = .ok (.aload_n 0, 1) := by decide +kernel
theorem dX11_areTwins_55 : decode cX11_areTwins 55 = .ok (.iload_n 2, 1) := by decide +kernel
theorem dX11_areTwins_56 : decode cX11_areTwins 56 = .ok (.iconst 1, 1) := by decide +kernel
theorem dX11_areTwins_57 : decode cX11_areTwins 57 = .ok (.invokevirtual 291, 3) := by decide +kernel
theorem dX11_areTwins_60 : decode cX11_areTwins 60 = .ok (.if_icmp .ne 35, 3) := by decide +kernel
theorem dX11_areTwins_63 : decode cX11_areTwins 63 = .ok (.aload_n 0, 1) := by decide +kernel
theorem dX11_areTwins_64 : decode cX11_areTwins 64 = .ok (.iload_n 1, 1) := by decide +kernel
theorem dX11_areTwins_65 : decode cX11_areTwins 65 = .ok (.bipush 7, 2) := by decide +kernel
theorem dX11_areTwins_67 : decode cX11_areTwins 67 = .ok (.invokevirtual 291, 3) := by decide +kernel
theorem dX11_areTwins_70 : decode cX11_areTwins 70 = .ok (.aload_n 0, 1) := by decide +kernel
theorem dX11_areTwins_71 : decode cX11_areTwins 71 = .ok (.iload_n 2, 1) := by decide +kernel
theorem dX11_areTwins_72 : decode cX11_areTwins 72 = .ok (.bipush 7, 2) := by decide +kernel
theorem dX11_areTwins_74 : decode cX11_areTwins 74 = .ok (.invokevirtual 291, 3) := by decide +kernel
theorem dX11_areTwins_77 : decode cX11_areTwins 77 = .ok (.if_icmp .ne 18, 3) := by decide +kernel
theorem dX11_areTwins_80 : decode cX11_areTwins 80 = .ok (.iload 4, 2) := by decide +kernel
theorem dX11_areTwins_82 : decode cX11_areTwins 82 = .ok (.iload_n 3, 1) := by decide +kernel
theorem dX11_areTwins_83 : decode cX11_areTwins 83 = .ok (.ineg, 1) := by decide +kernel
theorem dX11_areTwins_84 : decode cX11_areTwins 84 = .ok (.iload_n 3, 1) := by decide +kernel
theorem dX11_areTwins_85 : decode cX11_areTwins 85 = .ok (.invokestatic 138, 3) := by decide +kernel
theorem dX11_areTwins_88 : decode cX11_areTwins 88 = .ok (.ifCond .eq 7, 3) := by decide +kernel
theorem dX11_areTwins_91 : decode cX11_areTwins 91 = .ok (.iconst 1, 1) := by decide +kernel
theorem dX11_areTwins_92 : decode cX11_areTwins 92 = .ok (.goto 4, 3) := by decide +kernel
theorem dX11_areTwins_95 : decode cX11_areTwins 95 = .ok (.iconst 0, 1) := by decide +kernel
theorem dX11_areTwins_96 : decode cX11_areTwins 96 = .ok (.ireturn, 1) := by decide +kernel
theorem dX11_heap_0 : decode cX11_heap 0 = .ok (.aload_n 0, 1) := by decide +kernel
theorem dX11_heap_1 : decode cX11_heap 1 = .ok (.iconst 0, 1) := by decide +kernel
theorem dX11_heap_2 : decode cX11_heap 2 = .ok (.putfield 130, 3) := by decide +kernel
theorem dX11_heap_5 : decode cX11_heap 5 = .ok (.aload_n 0, 1) := by decide +kernel
theorem dX11_heap_6 : decode cX11_heap 6 = .ok (.iload_n 1, 1) := by decide +kernel
theorem dX11_heap_7 : decode cX11_heap 7 = .ok (.invokevirtual 157, 3) := by decide +kernel
theorem dX11_heap_10 : decode cX11_heap 10 = .ok (.ifCond .eq 14, 3) := by decide +kernel
theorem dX11_heap_13 : decode cX11_heap 13 = .ok (.iload_n 2, 1) := by decide +kernel
theorem dX11_heap_14 : decode cX11_heap 14 = .ok (.iconst 0, 1) := by decide +kernel
theorem dX11_heap_15 : decode cX11_heap 15 = .ok (.sipush 500, 3) := by decide +kernel
theorem dX11_heap_18 : decode cX11_heap 18 = .ok (.invokestatic 138, 3) := by decide +kernel
theorem dX11_heap_21 : decode cX11_heap 21 = .ok (.ifCond .ne 5, 3) := by decide +kernel
theorem dX11_heap_24 : decode cX11_heap 24 = .ok (.iconst (-1), 1) := by decide +kernel
theorem dX11_heap_25 : decode cX11_heap 25 = .ok (.ireturn, 1) := by decide +kernel
theorem dX11_heap_26 : decode cX11_heap 26 = .ok (.aload_n 0, 1) := by decide +kernel
theorem dX11_heap_27 : decode cX11_heap 27 = .ok (.invokevirtual 311, 3) := by decide +kernel
theorem dX11_heap_30 : decode cX11_heap 30 = .ok (.aload_n 0, 1) := by decide +kernel
theorem dX11_heap_31 : decode cX11_heap 31 = .ok (.getfield 114, 3) := by decide +kernel
theorem dX11_heap_34 : decode cX11_heap 34 = .ok (.iload_n 1, 1) := by decide +kernel
theorem dX11_heap_35 : decode cX11_heap 35 = .ok (.baload, 1) := by decide +kernel
theorem dX11_heap_36 : decode cX11_heap 36 = .ok (.ifCond .ne 5, 3) := by decide +kernel
theorem dX11_heap_39 : decode cX11_heap 39 = .ok (.iconst (-1), 1) := by decide +kernel
theorem dX11_heap_40 : decode cX11_heap 40 = .ok (.ireturn, 1) := by decide +kernel
theorem dX11_heap_41 : decode cX11_heap 41 = .ok (.iconst 1, 1) := by decide +kernel
theorem dX11_heap_42 : decode cX11_heap 42 = .ok (.iload_n 1, 1) := by decide +kernel
theorem dX11_heap_43 : decode cX11_heap 43 = .ok (.ishl, 1) := by decide +kernel
theorem dX11_heap_44 : decode cX11_heap 44 = .ok (.istore_n 3, 1) := by decide +kernel
theorem dX11_heap_45 : decode cX11_heap 45 = .ok (.iconst 0, 1) := by decide +kernel
theorem dX11_heap_46 : decode cX11_heap 46 = .ok (.istore 4, 2) := by decide +kernel
theorem dX11_heap_48 : decode cX11_heap 48 = .ok (.iload 4, 2) := by decide +kernel
theorem dX11_heap_50 : decode cX11_heap 50 = .ok (.iload_n 3, 1) := by decide +kernel
theorem dX11_heap_51 : decode cX11_heap 51 = .ok (.if_icmp .eq 77, 3) := by decide +kernel
theorem dX11_heap_54 : decode cX11_heap 54 = .ok (.iload_n 3, 1) := by decide +kernel
theorem dX11_heap_55 : decode cX11_heap 55 = .ok (.istore 4, 2) := by decide +kernel
theorem dX11_heap_57 : decode cX11_heap 57 = .ok (.iconst 0, 1) := by decide +kernel
theorem dX11_heap_58 : decode cX11_heap 58 = .ok (.istore 5, 2) := by decide +kernel
theorem dX11_heap_60 : decode cX11_heap 60 = .ok (.iload 5, 2) := by decide +kernel
theorem dX11_heap_62 : decode cX11_heap 62 = .ok (.aload_n 0, 1) := by decide +kernel
theorem dX11_heap_63 : decode cX11_heap 63 = .ok (.getfield 302, 3) := by decide +kernel
theorem dX11_heap_66 : decode cX11_heap 66 = .ok (.if_icmp .ge 59, 3) := by decide +kernel
theorem dX11_heap_69 : decode cX11_heap 69 = .ok (.iconst 0, 1) := by decide +kernel
theorem dX11_heap_70 : decode cX11_heap 70 = .ok (.istore 6, 2) := by decide +kernel
theorem dX11_heap_72 : decode cX11_heap 72 = .ok (.iload 6, 2) := by decide +kernel
theorem dX11_heap_74 : decode cX11_heap 74 = .ok (.aload_n 0, 1) := by decide +kernel
theorem dX11_heap_75 : decode cX11_heap 75 = .ok (.getfield 302, 3) := by decide +kernel
theorem dX11_heap_78 : decode cX11_heap 78 = .ok (.if_icmp .ge 41, 3) := by decide +kernel
theorem dX11_heap_81 : decode cX11_heap 81 = .ok (.iload_n 3, 1) := by decide +kernel
theorem dX11_heap_82 : decode cX11_heap 82 = .ok (.iload_n 3, 1) := by decide +kernel
theorem dX11_heap_83 : decode cX11_heap 83 = .ok (.iload 5, 2) := by decide +kernel
theorem dX11_heap_85 : decode cX11_heap 85 = .ok (.ishr, 1) := by decide +kernel
theorem dX11_heap_86 : decode cX11_heap 86 = .ok (.iconst 1, 1) := by decide +kernel
theorem dX11_heap_87 : decode cX11_heap 87 = .ok (.iand, 1) := by decide +kernel
theorem dX11_heap_88 : decode cX11_heap 88 = .ok (.ifCond .eq 22, 3) := by decide +kernel
theorem dX11_heap_91 : decode cX11_heap 91 = .ok (.aload_n 0, 1) := by decide +kernel
theorem dX11_heap_92 : decode cX11_heap 92 = .ok (.iload 5, 2) := by decide +kernel
theorem dX11_heap_94 : decode cX11_heap 94 = .ok (.iload 6, 2) := by decide +kernel
theorem dX11_heap_96 : decode cX11_heap 96 = .ok (.iload_n 2, 1) := by decide +kernel
theorem dX11_heap_97 : decode cX11_heap 97 = .ok (.invokevirtual 406, 3) := by decide +kernel
theorem dX11_heap_100 : decode cX11_heap 100 = .ok (.ifCond .eq 10, 3) := by decide +kernel
theorem dX11_heap_103 : decode cX11_heap 103 = .ok (.iconst 1, 1) := by decide +kernel
theorem dX11_heap_104 : decode cX11_heap 104 = .ok (.iload 6, 2) := by decide +kernel
theorem dX11_heap_106 : decode cX11_heap 106 = .ok (.ishl, 1) := by decide +kernel
theorem dX11_heap_107 : decode cX11_heap 107 = .ok (.goto 4, 3) := by decide +kernel
theorem dX11_heap_110 : decode cX11_heap 110 = .ok (.iconst 0, 1) := by decide +kernel
theorem dX11_heap_111 : decode cX11_heap 111 = .ok (.ior, 1) := by decide +kernel
theorem dX11_heap_112 : decode cX11_heap 112 = .ok (.istore_n 3, 1) := by decide +kernel
theorem dX11_heap_113 : decode cX11_heap 113 = .ok (.iinc 6 1, 3) := by decide +kernel
theorem dX11_heap_116 : decode cX11_heap 116 = .ok (.goto (-44), 3) := by decide +kernel
theorem dX11_heap_119 : decode cX11_heap 119 = .ok (.iinc 5 1, 3) := by decide +kernel
theorem dX11_heap_122 : decode cX11_heap 122 = .ok (.goto (-62), 3) := by decide +kernel
theorem dX11_heap_125 : decode cX11_heap 125 = .ok (.goto (-77), 3) := by decide +kernel
theorem dX11_heap_128 : decode cX11_heap 128 = .ok (.iconst 0, 1) := by decide +kernel
theorem dX11_heap_129 : decode cX11_heap 129 = .ok (.istore 5, 2) := by decide +kernel
theorem dX11_heap_131 : decode cX11_heap 131 = .ok (.iload_n 3, 1) := by decide +kernel
theorem dX11_heap_132 : decode cX11_heap 132 = .ok (.iload 5, 2) := by decide +kernel
theorem dX11_heap_134 : decode cX11_heap 134 = .ok (.ishr, 1) := by decide +kernel
theorem dX11_heap_135 : decode cX11_heap 135 = .ok (.iconst 1, 1) := by decide +kernel
theorem dX11_heap_136 : decode cX11_heap 136 = .ok (.iand, 1) := by decide +kernel
theorem dX11_heap_137 : decode cX11_heap 137 = .ok (.ifCond .ne 9, 3) := by decide +kernel
theorem dX11_heap_140 : decode cX11_heap 140 = .ok (.iinc 5 1, 3) := by decide +kernel
theorem dX11_heap_143 : decode cX11_heap 143 = .ok (.goto (-12), 3) := by decide +kernel
theorem dX11_heap_146 : decode cX11_heap 146 = .ok (.iload 5, 2) := by decide +kernel
theorem dX11_heap_148 : decode cX11_heap 148 = .ok (.ireturn, 1) := by decide +kernel
theorem dX11_worthOf_0 : decode cX11_worthOf 0 = .ok (.aload_n 0, 1) := by decide +kernel
theorem dX11_worthOf_1 : decode cX11_worthOf 1 = .ok (.getfield 108, 3) := by decide +kernel
theorem dX11_worthOf_4 : decode cX11_worthOf 4 = .ok (.iload_n 1, 1) := by decide +kernel
theorem dX11_worthOf_5 : decode cX11_worthOf 5 = .ok (.iaload, 1) := by decide +kernel
theorem dX11_worthOf_6 : decode cX11_worthOf 6 = .ok (.istore 4, 2) := by decide +kernel
theorem dX11_worthOf_8 : decode cX11_worthOf 8 = .ok (.aload_n 0, 1) := by decide +kernel
theorem dX11_worthOf_9 : decode cX11_worthOf 9 = .ok (.getfield 111, 3) := by decide +kernel
theorem dX11_worthOf_12 : decode cX11_worthOf 12 = .ok (.iload_n 1, 1) := by decide +kernel
theorem dX11_worthOf_13 : decode cX11_worthOf 13 = .ok (.iaload, 1) := by decide +kernel
theorem dX11_worthOf_14 : decode cX11_worthOf 14 = .ok (.istore 5, 2) := by decide +kernel
theorem dX11_worthOf_16 : decode cX11_worthOf 16 = .ok (.aload_n 0, 1) := by decide +kernel
theorem dX11_worthOf_17 : decode cX11_worthOf 17 = .ok (.getfield 111, 3) := by decide +kernel
theorem dX11_worthOf_20 : decode cX11_worthOf 20 = .ok (.iload_n 1, 1) := by decide +kernel
theorem dX11_worthOf_21 : decode cX11_worthOf 21 = .ok (.iload 4, 2) := by decide +kernel
theorem dX11_worthOf_23 : decode cX11_worthOf 23 = .ok (.iastore, 1) := by decide +kernel
theorem dX11_worthOf_24 : decode cX11_worthOf 24 = .ok (.aload_n 0, 1) := by decide +kernel
theorem dX11_worthOf_25 : decode cX11_worthOf 25 = .ok (.iload_n 2, 1) := by decide +kernel
theorem dX11_worthOf_26 : decode cX11_worthOf 26 = .ok (.iload_n 3, 1) := by decide +kernel
theorem dX11_worthOf_27 : decode cX11_worthOf 27 = .ok (.invokevirtual 347, 3) := by decide +kernel
theorem dX11_worthOf_30 : decode cX11_worthOf 30 = .ok (.istore 6, 2) := by decide +kernel
theorem dX11_worthOf_32 : decode cX11_worthOf 32 = .ok (.aload_n 0, 1) := by decide +kernel
theorem dX11_worthOf_33 : decode cX11_worthOf 33 = .ok (.getfield 108, 3) := by decide +kernel
theorem dX11_worthOf_36 : decode cX11_worthOf 36 = .ok (.iload_n 1, 1) := by decide +kernel
theorem dX11_worthOf_37 : decode cX11_worthOf 37 = .ok (.iload 5, 2) := by decide +kernel
theorem dX11_worthOf_39 : decode cX11_worthOf 39 = .ok (.iastore, 1) := by decide +kernel
theorem dX11_worthOf_40 : decode cX11_worthOf 40 = .ok (.aload_n 0, 1) := by decide +kernel
theorem dX11_worthOf_41 : decode cX11_worthOf 41 = .ok (.getfield 111, 3) := by decide +kernel
theorem dX11_worthOf_44 : decode cX11_worthOf 44 = .ok (.iload_n 1, 1) := by decide +kernel
theorem dX11_worthOf_45 : decode cX11_worthOf 45 = .ok (.iload 5, 2) := by decide +kernel
theorem dX11_worthOf_47 : decode cX11_worthOf 47 = .ok (.iastore, 1) := by decide +kernel
theorem dX11_worthOf_48 : decode cX11_worthOf 48 = .ok (.aload_n 0, 1) := by decide +kernel
theorem dX11_worthOf_49 : decode cX11_worthOf 49 = .ok (.iload_n 2, 1) := by decide +kernel
theorem dX11_worthOf_50 : decode cX11_worthOf 50 = .ok (.iload_n 3, 1) := by decide +kernel
theorem dX11_worthOf_51 : decode cX11_worthOf 51 = .ok (.invokevirtual 347, 3) := by decide +kernel
theorem dX11_worthOf_54 : decode cX11_worthOf 54 = .ok (.istore 7, 2) := by decide +kernel
theorem dX11_worthOf_56 : decode cX11_worthOf 56 = .ok (.aload_n 0, 1) := by decide +kernel
theorem dX11_worthOf_57 : decode cX11_worthOf 57 = .ok (.getfield 108, 3) := by decide +kernel
theorem dX11_worthOf_60 : decode cX11_worthOf 60 = .ok (.iload_n 1, 1) := by decide +kernel
theorem dX11_worthOf_61 : decode cX11_worthOf 61 = .ok (.iload 4, 2) := by decide +kernel
theorem dX11_worthOf_63 : decode cX11_worthOf 63 = .ok (.iastore, 1) := by decide +kernel
theorem dX11_worthOf_64 : decode cX11_worthOf 64 = .ok (.iload 6, 2) := by decide +kernel
theorem dX11_worthOf_66 : decode cX11_worthOf 66 = .ok (.iload 7, 2) := by decide +kernel
theorem dX11_worthOf_68 : decode cX11_worthOf 68 = .ok (.if_icmp .ge 11, 3) := by decide +kernel
theorem dX11_worthOf_71 : decode cX11_worthOf 71 = .ok (.iload 7, 2) := by decide +kernel
theorem dX11_worthOf_73 : decode cX11_worthOf 73 = .ok (.iload 6, 2) := by decide +kernel
theorem dX11_worthOf_75 : decode cX11_worthOf 75 = .ok (.isub, 1) := by decide +kernel
theorem dX11_worthOf_76 : decode cX11_worthOf 76 = .ok (.goto 8, 3) := by decide +kernel
theorem dX11_worthOf_79 : decode cX11_worthOf 79 = .ok (.iload 6, 2) := by decide +kernel
theorem dX11_worthOf_81 : decode cX11_worthOf 81 = .ok (.iload 7, 2) := by decide +kernel
theorem dX11_worthOf_83 : decode cX11_worthOf 83 = .ok (.isub, 1) := by decide +kernel
theorem dX11_worthOf_84 : decode cX11_worthOf 84 = .ok (.ireturn, 1) := by decide +kernel
theorem dX11_anew_0 : decode cX11_anew 0 = .ok (.aload_n 0, 1) := by decide +kernel
theorem dX11_anew_1 : decode cX11_anew 1 = .ok (.iconst 0, 1) := by decide +kernel
theorem dX11_anew_2 : decode cX11_anew 2 = .ok (.putfield 130, 3) := by decide +kernel
theorem dX11_anew_5 : decode cX11_anew 5 = .ok (.iload_n 1, 1) := by decide +kernel
theorem dX11_anew_6 : decode cX11_anew 6 = .ok (.iload_n 2, 1) := by decide +kernel
theorem dX11_anew_7 : decode cX11_anew 7 = .ok (.invokestatic 340, 3) := by decide +kernel
theorem dX11_anew_10 : decode cX11_anew 10 = .ok (.ifCond .ne 5, 3) := by decide +kernel
theorem dX11_anew_13 : decode cX11_anew 13 = .ok (.iconst (-1), 1) := by decide +kernel
theorem dX11_anew_14 : decode cX11_anew 14 = .ok (.ireturn, 1) := by decide +kernel
theorem dX11_anew_15 : decode cX11_anew 15 = .ok (.aload_n 0, 1) := by decide +kernel
theorem dX11_anew_16 : decode cX11_anew 16 = .ok (.invokevirtual 311, 3) := by decide +kernel
theorem dX11_anew_19 : decode cX11_anew 19 = .ok (.iconst (-1), 1) := by decide +kernel
theorem dX11_anew_20 : decode cX11_anew 20 = .ok (.istore_n 3, 1) := by decide +kernel
theorem dX11_anew_21 : decode cX11_anew 21 = .ok (.iconst (-1), 1) := by decide +kernel
theorem dX11_anew_22 : decode cX11_anew 22 = .ok (.istore 4, 2) := by decide +kernel
theorem dX11_anew_24 : decode cX11_anew 24 = .ok (.iconst 0, 1) := by decide +kernel
theorem dX11_anew_25 : decode cX11_anew 25 = .ok (.istore 5, 2) := by decide +kernel
theorem dX11_anew_27 : decode cX11_anew 27 = .ok (.iload 5, 2) := by decide +kernel
theorem dX11_anew_29 : decode cX11_anew 29 = .ok (.aload_n 0, 1) := by decide +kernel
theorem dX11_anew_30 : decode cX11_anew 30 = .ok (.getfield 302, 3) := by decide +kernel
theorem dX11_anew_33 : decode cX11_anew 33 = .ok (.if_icmp .ge 43, 3) := by decide +kernel
theorem dX11_anew_36 : decode cX11_anew 36 = .ok (.aload_n 0, 1) := by decide +kernel
theorem dX11_anew_37 : decode cX11_anew 37 = .ok (.getfield 114, 3) := by decide +kernel
theorem dX11_anew_40 : decode cX11_anew 40 = .ok (.iload 5, 2) := by decide +kernel
theorem dX11_anew_42 : decode cX11_anew 42 = .ok (.baload, 1) := by decide +kernel
theorem dX11_anew_43 : decode cX11_anew 43 = .ok (.ifCond .eq 27, 3) := by decide +kernel
theorem dX11_anew_46 : decode cX11_anew 46 = .ok (.aload_n 0, 1) := by decide +kernel
theorem dX11_anew_47 : decode cX11_anew 47 = .ok (.iload 5, 2) := by decide +kernel
theorem dX11_anew_49 : decode cX11_anew 49 = .ok (.iload_n 1, 1) := by decide +kernel
theorem dX11_anew_50 : decode cX11_anew 50 = .ok (.iload_n 2, 1) := by decide +kernel
theorem dX11_anew_51 : decode cX11_anew 51 = .ok (.invokevirtual 409, 3) := by decide +kernel
theorem dX11_anew_54 : decode cX11_anew 54 = .ok (.istore 6, 2) := by decide +kernel
theorem dX11_anew_56 : decode cX11_anew 56 = .ok (.iload 6, 2) := by decide +kernel
theorem dX11_anew_58 : decode cX11_anew 58 = .ok (.iload 4, 2) := by decide +kernel
theorem dX11_anew_60 : decode cX11_anew 60 = .ok (.if_icmp .le 10, 3) := by decide +kernel
theorem dX11_anew_63 : decode cX11_anew 63 = .ok (.iload 6, 2) := by decide +kernel
theorem dX11_anew_65 : decode cX11_anew 65 = .ok (.istore 4, 2) := by decide +kernel
theorem dX11_anew_67 : decode cX11_anew 67 = .ok (.iload 5, 2) := by decide +kernel
theorem dX11_anew_69 : decode cX11_anew 69 = .ok (.istore_n 3, 1) := by decide +kernel
theorem dX11_anew_70 : decode cX11_anew 70 = .ok (.iinc 5 1, 3) := by decide +kernel
theorem dX11_anew_73 : decode cX11_anew 73 = .ok (.goto (-46), 3) := by decide +kernel
theorem dX11_anew_76 : decode cX11_anew 76 = .ok (.iload_n 3, 1) := by decide +kernel
theorem dX11_anew_77 : decode cX11_anew 77 = .ok (.ireturn, 1) := by decide +kernel
theorem dX11_worth_0 : decode cX11_worth 0 = .ok (.aload_n 0, 1) := by decide +kernel
theorem dX11_worth_1 : decode cX11_worth 1 = .ok (.iconst 0, 1) := by decide +kernel
theorem dX11_worth_2 : decode cX11_worth 2 = .ok (.putfield 130, 3) := by decide +kernel
theorem dX11_worth_5 : decode cX11_worth 5 = .ok (.aload_n 0, 1) := by decide +kernel
theorem dX11_worth_6 : decode cX11_worth 6 = .ok (.iload_n 1, 1) := by decide +kernel
theorem dX11_worth_7 : decode cX11_worth 7 = .ok (.invokevirtual 157, 3) := by decide +kernel
theorem dX11_worth_10 : decode cX11_worth 10 = .ok (.ifCond .eq 11, 3) := by decide +kernel
theorem dX11_worth_13 : decode cX11_worth 13 = .ok (.iload_n 2, 1) := by decide +kernel
theorem dX11_worth_14 : decode cX11_worth 14 = .ok (.iload_n 3, 1) := by decide +kernel
theorem dX11_worth_15 : decode cX11_worth 15 = .ok (.invokestatic 340, 3) := by decide +kernel
theorem dX11_worth_18 : decode cX11_worth 18 = .ok (.ifCond .ne 5, 3) := by decide +kernel
theorem dX11_worth_21 : decode cX11_worth 21 = .ok (.iconst (-1), 1) := by decide +kernel
theorem dX11_worth_22 : decode cX11_worth 22 = .ok (.ireturn, 1) := by decide +kernel
theorem dX11_worth_23 : decode cX11_worth 23 = .ok (.aload_n 0, 1) := by decide +kernel
theorem dX11_worth_24 : decode cX11_worth 24 = .ok (.invokevirtual 311, 3) := by decide +kernel
theorem dX11_worth_27 : decode cX11_worth 27 = .ok (.aload_n 0, 1) := by decide +kernel
theorem dX11_worth_28 : decode cX11_worth 28 = .ok (.getfield 114, 3) := by decide +kernel
theorem dX11_worth_31 : decode cX11_worth 31 = .ok (.iload_n 1, 1) := by decide +kernel
theorem dX11_worth_32 : decode cX11_worth 32 = .ok (.baload, 1) := by decide +kernel
theorem dX11_worth_33 : decode cX11_worth 33 = .ok (.ifCond .eq 13, 3) := by decide +kernel
theorem dX11_worth_36 : decode cX11_worth 36 = .ok (.aload_n 0, 1) := by decide +kernel
theorem dX11_worth_37 : decode cX11_worth 37 = .ok (.iload_n 1, 1) := by decide +kernel
theorem dX11_worth_38 : decode cX11_worth 38 = .ok (.iload_n 2, 1) := by decide +kernel
theorem dX11_worth_39 : decode cX11_worth 39 = .ok (.iload_n 3, 1) := by decide +kernel
theorem dX11_worth_40 : decode cX11_worth 40 = .ok (.invokevirtual 409, 3) := by decide +kernel
theorem dX11_worth_43 : decode cX11_worth 43 = .ok (.goto 4, 3) := by decide +kernel
theorem dX11_worth_46 : decode cX11_worth 46 = .ok (.iconst (-1), 1) := by decide +kernel
theorem dX11_worth_47 : decode cX11_worth 47 = .ok (.ireturn, 1) := by decide +kernel
theorem dX11_count_0 : decode cX11_count 0 = .ok (.aload_n 0, 1) := by decide +kernel
theorem dX11_count_1 : decode cX11_count 1 = .ok (.iconst 0, 1) := by decide +kernel
theorem dX11_count_2 : decode cX11_count 2 = .ok (.putfield 130, 3) := by decide +kernel
theorem dX11_count_5 : decode cX11_count 5 = .ok (.aload_n 0, 1) := by decide +kernel
theorem dX11_count_6 : decode cX11_count 6 = .ok (.invokevirtual 311, 3) := by decide +kernel
theorem dX11_count_9 : decode cX11_count 9 = .ok (.iconst 0, 1) := by decide +kernel
theorem dX11_count_10 : decode cX11_count 10 = .ok (.istore_n 2, 1) := by decide +kernel
theorem dX11_count_11 : decode cX11_count 11 = .ok (.iload_n 1, 1) := by decide +kernel
theorem dX11_count_12 : decode cX11_count 12 = .ok (.tableswitch 119 0 6 #[44, 79, 84, 91, 98, 105, 112], 44) := by decide +kernel
theorem dX11_count_56 : decode cX11_count 56 = .ok (.iconst 0, 1) := by decide +kernel
theorem dX11_count_57 : decode cX11_count 57 = .ok (.istore_n 3, 1) := by decide +kernel
theorem dX11_count_58 : decode cX11_count 58 = .ok (.iload_n 3, 1) := by decide +kernel
theorem dX11_count_59 : decode cX11_count 59 = .ok (.aload_n 0, 1) := by decide +kernel
theorem dX11_count_60 : decode cX11_count 60 = .ok (.getfield 302, 3) := by decide +kernel
theorem dX11_count_63 : decode cX11_count 63 = .ok (.if_icmp .ge 26, 3) := by decide +kernel
theorem dX11_count_66 : decode cX11_count 66 = .ok (.iload_n 2, 1) := by decide +kernel
theorem dX11_count_67 : decode cX11_count 67 = .ok (.aload_n 0, 1) := by decide +kernel
theorem dX11_count_68 : decode cX11_count 68 = .ok (.getfield 101, 3) := by decide +kernel
theorem dX11_count_71 : decode cX11_count 71 = .ok (.iload_n 3, 1) := by decide +kernel
theorem dX11_count_72 : decode cX11_count 72 = .ok (.baload, 1) := by decide +kernel
theorem dX11_count_73 : decode cX11_count 73 = .ok (.ifCond .eq 7, 3) := by decide +kernel
theorem dX11_count_76 : decode cX11_count 76 = .ok (.iconst 1, 1) := by decide +kernel
theorem dX11_count_77 : decode cX11_count 77 = .ok (.goto 4, 3) := by decide +kernel
theorem dX11_count_80 : decode cX11_count 80 = .ok (.iconst 0, 1) := by decide +kernel
theorem dX11_count_81 : decode cX11_count 81 = .ok (.iadd, 1) := by decide +kernel
theorem dX11_count_82 : decode cX11_count 82 = .ok (.istore_n 2, 1) := by decide +kernel
theorem dX11_count_83 : decode cX11_count 83 = .ok (.iinc 3 1, 3) := by decide +kernel
theorem dX11_count_86 : decode cX11_count 86 = .ok (.goto (-28), 3) := by decide +kernel
theorem dX11_count_89 : decode cX11_count 89 = .ok (.iload_n 2, 1) := by decide +kernel
theorem dX11_count_90 : decode cX11_count 90 = .ok (.ireturn, 1) := by decide +kernel
theorem dX11_count_91 : decode cX11_count 91 = .ok (.aload_n 0, 1) := by decide +kernel
theorem dX11_count_92 : decode cX11_count 92 = .ok (.invokevirtual 344, 3) := by decide +kernel
theorem dX11_count_95 : decode cX11_count 95 = .ok (.ireturn, 1) := by decide +kernel
theorem dX11_count_96 : decode cX11_count 96 = .ok (.aload_n 0, 1) := by decide +kernel
theorem dX11_count_97 : decode cX11_count 97 = .ok (.getfield 32, 3) := by decide +kernel
theorem dX11_count_100 : decode cX11_count 100 = .ok (.iconst 0, 1) := by decide +kernel
theorem dX11_count_101 : decode cX11_count 101 = .ok (.iaload, 1) := by decide +kernel
theorem dX11_count_102 : decode cX11_count 102 = .ok (.ireturn, 1) := by decide +kernel
theorem dX11_count_103 : decode cX11_count 103 = .ok (.aload_n 0, 1) := by decide +kernel
theorem dX11_count_104 : decode cX11_count 104 = .ok (.getfield 26, 3) := by decide +kernel
