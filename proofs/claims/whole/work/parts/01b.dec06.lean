theorem dX7_best_92 : decode cX7_best 92 = .ok (.iconst 0, 1) := by decide +kernel
theorem dX7_best_93 : decode cX7_best 93 = .ok (.istore 4, 2) := by decide +kernel
theorem dX7_best_95 : decode cX7_best 95 = .ok (.iload 4, 2) := by decide +kernel
theorem dX7_best_97 : decode cX7_best 97 = .ok (.aload_n 0, 1) := by decide +kernel
theorem dX7_best_98 : decode cX7_best 98 = .ok (.getfield 74, 3) := by decide +kernel
theorem dX7_best_101 : decode cX7_best 101 = .ok (.if_icmp .ge 23, 3) := by decide +kernel
theorem dX7_best_104 : decode cX7_best 104 = .ok (.aload_n 0, 1) := by decide +kernel
theorem dX7_best_105 : decode cX7_best 105 = .ok (.getfield 71, 3) := by decide +kernel
theorem dX7_best_108 : decode cX7_best 108 = .ok (.iload 4, 2) := by decide +kernel
theorem dX7_best_110 : decode cX7_best 110 = .ok (.aload_n 0, 1) := by decide +kernel
theorem dX7_best_111 : decode cX7_best 111 = .ok (.getfield 44, 3) := by decide +kernel
theorem dX7_best_114 : decode cX7_best 114 = .ok (.iload 4, 2) := by decide +kernel
theorem dX7_best_116 : decode cX7_best 116 = .ok (.iaload, 1) := by decide +kernel
theorem dX7_best_117 : decode cX7_best 117 = .ok (.iastore, 1) := by decide +kernel
theorem dX7_best_118 : decode cX7_best 118 = .ok (.iinc 4 1, 3) := by decide +kernel
theorem dX7_best_121 : decode cX7_best 121 = .ok (.goto (-26), 3) := by decide +kernel
theorem dX7_best_124 : decode cX7_best 124 = .ok (.iload_n 2, 1) := by decide +kernel
theorem dX7_best_125 : decode cX7_best 125 = .ok (.aload_n 0, 1) := by decide +kernel
theorem dX7_best_126 : decode cX7_best 126 = .ok (.getfield 74, 3) := by decide +kernel
theorem dX7_best_129 : decode cX7_best 129 = .ok (.if_icmp .ne 10, 3) := by decide +kernel
theorem dX7_best_132 : decode cX7_best 132 = .ok (.aload_n 0, 1) := by decide +kernel
theorem dX7_best_133 : decode cX7_best 133 = .ok (.getfield 74, 3) := by decide +kernel
theorem dX7_best_136 : decode cX7_best 136 = .ok (.goto 9, 3) := by decide +kernel
theorem dX7_best_139 : decode cX7_best 139 = .ok (.aload_n 0, 1) := by decide +kernel
theorem dX7_best_140 : decode cX7_best 140 = .ok (.getfield 68, 3) := by decide +kernel
theorem dX7_best_143 : decode cX7_best 143 = .ok (.iload_n 2, 1) := by decide +kernel
theorem dX7_best_144 : decode cX7_best 144 = .ok (.iaload, 1) := by decide +kernel
theorem dX7_best_145 : decode cX7_best 145 = .ok (.istore_n 3, 1) := by decide +kernel
theorem dX7_best_146 : decode cX7_best 146 = .ok (.iload_n 3, 1) := by decide +kernel
theorem dX7_best_147 : decode cX7_best 147 = .ok (.aload_n 0, 1) := by decide +kernel
theorem dX7_best_148 : decode cX7_best 148 = .ok (.getfield 74, 3) := by decide +kernel
theorem dX7_best_151 : decode cX7_best 151 = .ok (.if_icmp .ne 25, 3) := by decide +kernel
theorem dX7_best_154 : decode cX7_best 154 = .ok (.iinc 2 (-1), 3) := by decide +kernel
theorem dX7_best_157 : decode cX7_best 157 = .ok (.iload_n 2, 1) := by decide +kernel
theorem dX7_best_158 : decode cX7_best 158 = .ok (.ifCond .lt (-95), 3) := by decide +kernel
theorem dX7_best_161 : decode cX7_best 161 = .ok (.aload_n 0, 1) := by decide +kernel
theorem dX7_best_162 : decode cX7_best 162 = .ok (.getfield 44, 3) := by decide +kernel
theorem dX7_best_165 : decode cX7_best 165 = .ok (.aload_n 0, 1) := by decide +kernel
theorem dX7_best_166 : decode cX7_best 166 = .ok (.getfield 65, 3) := by decide +kernel
theorem dX7_best_169 : decode cX7_best 169 = .ok (.iload_n 2, 1) := by decide +kernel
theorem dX7_best_170 : decode cX7_best 170 = .ok (.iaload, 1) := by decide +kernel
theorem dX7_best_171 : decode cX7_best 171 = .ok (.iconst (-1), 1) := by decide +kernel
theorem dX7_best_172 : decode cX7_best 172 = .ok (.iastore, 1) := by decide +kernel
theorem dX7_best_173 : decode cX7_best 173 = .ok (.goto (-110), 3) := by decide +kernel
theorem dX7_best_176 : decode cX7_best 176 = .ok (.aload_n 0, 1) := by decide +kernel
theorem dX7_best_177 : decode cX7_best 177 = .ok (.getfield 68, 3) := by decide +kernel
theorem dX7_best_180 : decode cX7_best 180 = .ok (.iload_n 2, 1) := by decide +kernel
theorem dX7_best_181 : decode cX7_best 181 = .ok (.dup2, 1) := by decide +kernel
theorem dX7_best_182 : decode cX7_best 182 = .ok (.iaload, 1) := by decide +kernel
theorem dX7_best_183 : decode cX7_best 183 = .ok (.iconst 1, 1) := by decide +kernel
theorem dX7_best_184 : decode cX7_best 184 = .ok (.iadd, 1) := by decide +kernel
theorem dX7_best_185 : decode cX7_best 185 = .ok (.iastore, 1) := by decide +kernel
theorem dX7_best_186 : decode cX7_best 186 = .ok (.aload_n 0, 1) := by decide +kernel
theorem dX7_best_187 : decode cX7_best 187 = .ok (.iload_n 3, 1) := by decide +kernel
theorem dX7_best_188 : decode cX7_best 188 = .ok (.invokevirtual 139, 3) := by decide +kernel
theorem dX7_best_191 : decode cX7_best 191 = .ok (.ifCond .ne 6, 3) := by decide +kernel
theorem dX7_best_194 : decode cX7_best 194 = .ok (.goto (-131), 3) := by decide +kernel
theorem dX7_best_197 : decode cX7_best 197 = .ok (.aload_n 0, 1) := by decide +kernel
theorem dX7_best_198 : decode cX7_best 198 = .ok (.iload_n 3, 1) := by decide +kernel
theorem dX7_best_199 : decode cX7_best 199 = .ok (.iconst 0, 1) := by decide +kernel
theorem dX7_best_200 : decode cX7_best 200 = .ok (.invokevirtual 142, 3) := by decide +kernel
theorem dX7_best_203 : decode cX7_best 203 = .ok (.istore 4, 2) := by decide +kernel
theorem dX7_best_205 : decode cX7_best 205 = .ok (.iload 4, 2) := by decide +kernel
theorem dX7_best_207 : decode cX7_best 207 = .ok (.iconst (-1), 1) := by decide +kernel
theorem dX7_best_208 : decode cX7_best 208 = .ok (.if_icmp .ne 6, 3) := by decide +kernel
theorem dX7_best_211 : decode cX7_best 211 = .ok (.goto (-148), 3) := by decide +kernel
theorem dX7_best_214 : decode cX7_best 214 = .ok (.aload_n 0, 1) := by decide +kernel
theorem dX7_best_215 : decode cX7_best 215 = .ok (.getfield 44, 3) := by decide +kernel
theorem dX7_best_218 : decode cX7_best 218 = .ok (.iload_n 3, 1) := by decide +kernel
theorem dX7_best_219 : decode cX7_best 219 = .ok (.iload 4, 2) := by decide +kernel
theorem dX7_best_221 : decode cX7_best 221 = .ok (.iastore, 1) := by decide +kernel
theorem dX7_best_222 : decode cX7_best 222 = .ok (.aload_n 0, 1) := by decide +kernel
theorem dX7_best_223 : decode cX7_best 223 = .ok (.getfield 65, 3) := by decide +kernel
theorem dX7_best_226 : decode cX7_best 226 = .ok (.iload_n 2, 1) := by decide +kernel
theorem dX7_best_227 : decode cX7_best 227 = .ok (.iload_n 3, 1) := by decide +kernel
theorem dX7_best_228 : decode cX7_best 228 = .ok (.iastore, 1) := by decide +kernel
theorem dX7_best_229 : decode cX7_best 229 = .ok (.iinc 2 1, 3) := by decide +kernel
theorem dX7_best_232 : decode cX7_best 232 = .ok (.aload_n 0, 1) := by decide +kernel
theorem dX7_best_233 : decode cX7_best 233 = .ok (.getfield 68, 3) := by decide +kernel
theorem dX7_best_236 : decode cX7_best 236 = .ok (.iload_n 2, 1) := by decide +kernel
theorem dX7_best_237 : decode cX7_best 237 = .ok (.iconst 0, 1) := by decide +kernel
theorem dX7_best_238 : decode cX7_best 238 = .ok (.iastore, 1) := by decide +kernel
theorem dX7_best_239 : decode cX7_best 239 = .ok (.goto (-176), 3) := by decide +kernel
theorem dX7_best_242 : decode cX7_best 242 = .ok (.iconst 0, 1) := by decide +kernel
theorem dX7_best_243 : decode cX7_best 243 = .ok (.istore_n 3, 1) := by decide +kernel
theorem dX7_best_244 : decode cX7_best 244 = .ok (.iload_n 3, 1) := by decide +kernel
theorem dX7_best_245 : decode cX7_best 245 = .ok (.aload_n 0, 1) := by decide +kernel
theorem dX7_best_246 : decode cX7_best 246 = .ok (.getfield 74, 3) := by decide +kernel
theorem dX7_best_249 : decode cX7_best 249 = .ok (.if_icmp .ge 26, 3) := by decide +kernel
theorem dX7_best_252 : decode cX7_best 252 = .ok (.iload_n 1, 1) := by decide +kernel
theorem dX7_best_253 : decode cX7_best 253 = .ok (.iconst (-1), 1) := by decide +kernel
theorem dX7_best_254 : decode cX7_best 254 = .ok (.if_icmp .eq 21, 3) := by decide +kernel
theorem dX7_best_257 : decode cX7_best 257 = .ok (.aload_n 0, 1) := by decide +kernel
theorem dX7_best_258 : decode cX7_best 258 = .ok (.getfield 44, 3) := by decide +kernel
theorem dX7_best_261 : decode cX7_best 261 = .ok (.iload_n 3, 1) := by decide +kernel
theorem dX7_best_262 : decode cX7_best 262 = .ok (.aload_n 0, 1) := by decide +kernel
theorem dX7_best_263 : decode cX7_best 263 = .ok (.getfield 71, 3) := by decide +kernel
theorem dX7_best_266 : decode cX7_best 266 = .ok (.iload_n 3, 1) := by decide +kernel
theorem dX7_best_267 : decode cX7_best 267 = .ok (.iaload, 1) := by decide +kernel
theorem dX7_best_268 : decode cX7_best 268 = .ok (.iastore, 1) := by decide +kernel
theorem dX7_best_269 : decode cX7_best 269 = .ok (.iinc 3 1, 3) := by decide +kernel
theorem dX7_best_272 : decode cX7_best 272 = .ok (.goto (-28), 3) := by decide +kernel
theorem dX7_best_275 : decode cX7_best 275 = .ok (.iload_n 1, 1) := by decide +kernel
theorem dX7_best_276 : decode cX7_best 276 = .ok (.ireturn, 1) := by decide +kernel
theorem dX7_go_0 : decode cX7_go 0 = .ok (.iload_n 1, 1) := by decide +kernel
theorem dX7_go_1 : decode cX7_go 1 = .ok (.iconst 0, 1) := by decide +kernel
theorem dX7_go_2 : decode cX7_go 2 = .ok (.sipush 400, 3) := by decide +kernel
theorem dX7_go_5 : decode cX7_go 5 = .ok (.invokestatic 78, 3) := by decide +kernel
theorem dX7_go_8 : decode cX7_go 8 = .ok (.ifCond .ne 5, 3) := by decide +kernel
theorem dX7_go_11 : decode cX7_go 11 = .ok (.iconst (-1), 1) := by decide +kernel
theorem dX7_go_12 : decode cX7_go 12 = .ok (.ireturn, 1) := by decide +kernel
theorem dX7_go_13 : decode cX7_go 13 = .ok (.aload_n 0, 1) := by decide +kernel
theorem dX7_go_14 : decode cX7_go 14 = .ok (.aload_n 0, 1) := by decide +kernel
theorem dX7_go_15 : decode cX7_go 15 = .ok (.getfield 93, 3) := by decide +kernel
theorem dX7_go_18 : decode cX7_go 18 = .ok (.iload_n 1, 1) := by decide +kernel
theorem dX7_go_19 : decode cX7_go 19 = .ok (.iadd, 1) := by decide +kernel
theorem dX7_go_20 : decode cX7_go 20 = .ok (.sipush 400, 3) := by decide +kernel
theorem dX7_go_23 : decode cX7_go 23 = .ok (.if_icmp .le 9, 3) := by decide +kernel
theorem dX7_go_26 : decode cX7_go 26 = .ok (.sipush 400, 3) := by decide +kernel
theorem dX7_go_29 : decode cX7_go 29 = .ok (.goto 9, 3) := by decide +kernel
theorem dX7_go_32 : decode cX7_go 32 = .ok (.aload_n 0, 1) := by decide +kernel
theorem dX7_go_33 : decode cX7_go 33 = .ok (.getfield 93, 3) := by decide +kernel
theorem dX7_go_36 : decode cX7_go 36 = .ok (.iload_n 1, 1) := by decide +kernel
theorem dX7_go_37 : decode cX7_go 37 = .ok (.iadd, 1) := by decide +kernel
theorem dX7_go_38 : decode cX7_go 38 = .ok (.putfield 93, 3) := by decide +kernel
theorem dX7_go_41 : decode cX7_go 41 = .ok (.aload_n 0, 1) := by decide +kernel
theorem dX7_go_42 : decode cX7_go 42 = .ok (.getfield 93, 3) := by decide +kernel
theorem dX7_go_45 : decode cX7_go 45 = .ok (.ireturn, 1) := by decide +kernel
theorem dX7_fail_0 : decode cX7_fail 0 = .ok (.aload_n 0, 1) := by decide +kernel
theorem dX7_fail_1 : decode cX7_fail 1 = .ok (.iload_n 1, 1) := by decide +kernel
theorem dX7_fail_2 : decode cX7_fail 2 = .ok (.invokevirtual 100, 3) := by decide +kernel
theorem dX7_fail_5 : decode cX7_fail 5 = .ok (.ifCond .eq 21, 3) := by decide +kernel
theorem dX7_fail_8 : decode cX7_fail 8 = .ok (.aload_n 0, 1) := by decide +kernel
theorem dX7_fail_9 : decode cX7_fail 9 = .ok (.getfield 38, 3) := by decide +kernel
theorem dX7_fail_12 : decode cX7_fail 12 = .ok (.iload_n 1, 1) := by decide +kernel
theorem dX7_fail_13 : decode cX7_fail 13 = .ok (.iaload, 1) := by decide +kernel
theorem dX7_fail_14 : decode cX7_fail 14 = .ok (.iconst 4, 1) := by decide +kernel
theorem dX7_fail_15 : decode cX7_fail 15 = .ok (.if_icmp .ne 11, 3) := by decide +kernel
theorem dX7_fail_18 : decode cX7_fail 18 = .ok (.aload_n 0, 1) := by decide +kernel
theorem dX7_fail_19 : decode cX7_fail 19 = .ok (.iload_n 1, 1) := by decide +kernel
theorem dX7_fail_20 : decode cX7_fail 20 = .ok (.invokevirtual 148, 3) := by decide +kernel
theorem dX7_fail_23 : decode cX7_fail 23 = .ok (.ifCond .ne 5, 3) := by decide +kernel
theorem dX7_fail_26 : decode cX7_fail 26 = .ok (.iconst (-1), 1) := by decide +kernel
theorem dX7_fail_27 : decode cX7_fail 27 = .ok (.ireturn, 1) := by decide +kernel
theorem dX7_fail_28 : decode cX7_fail 28 = .ok (.bipush 40, 2) := by decide +kernel
theorem dX7_fail_30 : decode cX7_fail 30 = .ok (.newarray .boolean, 2) := by decide +kernel
theorem dX7_fail_32 : decode cX7_fail 32 = .ok (.astore_n 2, 1) := by decide +kernel
theorem dX7_fail_33 : decode cX7_fail 33 = .ok (.iconst 0, 1) := by decide +kernel
theorem dX7_fail_34 : decode cX7_fail 34 = .ok (.istore_n 3, 1) := by decide +kernel
theorem dX7_fail_35 : decode cX7_fail 35 = .ok (.iload_n 3, 1) := by decide +kernel
theorem dX7_fail_36 : decode cX7_fail 36 = .ok (.aload_n 0, 1) := by decide +kernel
theorem dX7_fail_37 : decode cX7_fail 37 = .ok (.getfield 74, 3) := by decide +kernel
theorem dX7_fail_40 : decode cX7_fail 40 = .ok (.if_icmp .ge 44, 3) := by decide +kernel
theorem dX7_fail_43 : decode cX7_fail 43 = .ok (.aload_n 2, 1) := by decide +kernel
theorem dX7_fail_44 : decode cX7_fail 44 = .ok (.iload_n 3, 1) := by decide +kernel
theorem dX7_fail_45 : decode cX7_fail 45 = .ok (.aload_n 0, 1) := by decide +kernel
theorem dX7_fail_46 : decode cX7_fail 46 = .ok (.iload_n 3, 1) := by decide +kernel
theorem dX7_fail_47 : decode cX7_fail 47 = .ok (.invokevirtual 148, 3) := by decide +kernel
theorem dX7_fail_50 : decode cX7_fail 50 = .ok (.ifCond .eq 26, 3) := by decide +kernel
theorem dX7_fail_53 : decode cX7_fail 53 = .ok (.iload_n 3, 1) := by decide +kernel
theorem dX7_fail_54 : decode cX7_fail 54 = .ok (.iload_n 1, 1) := by decide +kernel
theorem dX7_fail_55 : decode cX7_fail 55 = .ok (.if_icmp .eq 17, 3) := by decide +kernel
theorem dX7_fail_58 : decode cX7_fail 58 = .ok (.aload_n 0, 1) := by decide +kernel
theorem dX7_fail_59 : decode cX7_fail 59 = .ok (.getfield 53, 3) := by decide +kernel
theorem dX7_fail_62 : decode cX7_fail 62 = .ok (.bipush 40, 2) := by decide +kernel
theorem dX7_fail_64 : decode cX7_fail 64 = .ok (.iload_n 1, 1) := by decide +kernel
theorem dX7_fail_65 : decode cX7_fail 65 = .ok (.imul, 1) := by decide +kernel
theorem dX7_fail_66 : decode cX7_fail 66 = .ok (.iload_n 3, 1) := by decide +kernel
theorem dX7_fail_67 : decode cX7_fail 67 = .ok (.iadd, 1) := by decide +kernel
theorem dX7_fail_68 : decode cX7_fail 68 = .ok (.baload, 1) := by decide +kernel
theorem dX7_fail_69 : decode cX7_fail 69 = .ok (.ifCond .eq 7, 3) := by decide +kernel
theorem dX7_fail_72 : decode cX7_fail 72 = .ok (.iconst 1, 1) := by decide +kernel
theorem dX7_fail_73 : decode cX7_fail 73 = .ok (.goto 4, 3) := by decide +kernel
theorem dX7_fail_76 : decode cX7_fail 76 = .ok (.iconst 0, 1) := by decide +kernel
theorem dX7_fail_77 : decode cX7_fail 77 = .ok (.bastore, 1) := by decide +kernel
theorem dX7_fail_78 : decode cX7_fail 78 = .ok (.iinc 3 1, 3) := by decide +kernel
theorem dX7_fail_81 : decode cX7_fail 81 = .ok (.goto (-46), 3) := by decide +kernel
theorem dX7_fail_84 : decode cX7_fail 84 = .ok (.iconst 1, 1) := by decide +kernel
theorem dX7_fail_85 : decode cX7_fail 85 = .ok (.istore_n 3, 1) := by decide +kernel
theorem dX7_fail_86 : decode cX7_fail 86 = .ok (.iload_n 3, 1) := by decide +kernel
theorem dX7_fail_87 : decode cX7_fail 87 = .ok (.ifCond .eq 93, 3) := by decide +kernel
theorem dX7_fail_90 : decode cX7_fail 90 = .ok (.iconst 0, 1) := by decide +kernel
theorem dX7_fail_91 : decode cX7_fail 91 = .ok (.istore_n 3, 1) := by decide +kernel
theorem dX7_fail_92 : decode cX7_fail 92 = .ok (.iconst 0, 1) := by decide +kernel
theorem dX7_fail_93 : decode cX7_fail 93 = .ok (.istore 4, 2) := by decide +kernel
theorem dX7_fail_95 : decode cX7_fail 95 = .ok (.iload 4, 2) := by decide +kernel
theorem dX7_fail_97 : decode cX7_fail 97 = .ok (.aload_n 0, 1) := by decide +kernel
theorem dX7_fail_98 : decode cX7_fail 98 = .ok (.getfield 74, 3) := by decide +kernel
theorem dX7_fail_101 : decode cX7_fail 101 = .ok (.if_icmp .ge 76, 3) := by decide +kernel
theorem dX7_fail_104 : decode cX7_fail 104 = .ok (.iconst 0, 1) := by decide +kernel
theorem dX7_fail_105 : decode cX7_fail 105 = .ok (.istore 5, 2) := by decide +kernel
theorem dX7_fail_107 : decode cX7_fail 107 = .ok (.iload 5, 2) := by decide +kernel
theorem dX7_fail_109 : decode cX7_fail 109 = .ok (.aload_n 0, 1) := by decide +kernel
theorem dX7_fail_110 : decode cX7_fail 110 = .ok (.getfield 74, 3) := by decide +kernel
theorem dX7_fail_113 : decode cX7_fail 113 = .ok (.if_icmp .ge 58, 3) := by decide +kernel
theorem dX7_fail_116 : decode cX7_fail 116 = .ok (.aload_n 2, 1) := by decide +kernel
theorem dX7_fail_117 : decode cX7_fail 117 = .ok (.iload 4, 2) := by decide +kernel
theorem dX7_fail_119 : decode cX7_fail 119 = .ok (.baload, 1) := by decide +kernel
theorem dX7_fail_120 : decode cX7_fail 120 = .ok (.ifCond .ne 51, 3) := by decide +kernel
theorem dX7_fail_123 : decode cX7_fail 123 = .ok (.aload_n 0, 1) := by decide +kernel
theorem dX7_fail_124 : decode cX7_fail 124 = .ok (.iload 4, 2) := by decide +kernel
theorem dX7_fail_126 : decode cX7_fail 126 = .ok (.invokevirtual 148, 3) := by decide +kernel
theorem dX7_fail_129 : decode cX7_fail 129 = .ok (.ifCond .eq 42, 3) := by decide +kernel
theorem dX7_fail_132 : decode cX7_fail 132 = .ok (.aload_n 2, 1) := by decide +kernel
theorem dX7_fail_133 : decode cX7_fail 133 = .ok (.iload 5, 2) := by decide +kernel
theorem dX7_fail_135 : decode cX7_fail 135 = .ok (.baload, 1) := by decide +kernel
theorem dX7_fail_136 : decode cX7_fail 136 = .ok (.ifCond .eq 29, 3) := by decide +kernel
theorem dX7_fail_139 : decode cX7_fail 139 = .ok (.aload_n 0, 1) := by decide +kernel
theorem dX7_fail_140 : decode cX7_fail 140 = .ok (.getfield 50, 3) := by decide +kernel
theorem dX7_fail_143 : decode cX7_fail 143 = .ok (.bipush 40, 2) := by decide +kernel
theorem dX7_fail_145 : decode cX7_fail 145 = .ok (.iload 4, 2) := by decide +kernel
theorem dX7_fail_147 : decode cX7_fail 147 = .ok (.imul, 1) := by decide +kernel
theorem dX7_fail_148 : decode cX7_fail 148 = .ok (.iload 5, 2) := by decide +kernel
theorem dX7_fail_150 : decode cX7_fail 150 = .ok (.iadd, 1) := by decide +kernel
theorem dX7_fail_151 : decode cX7_fail 151 = .ok (.baload, 1) := by decide +kernel
theorem dX7_fail_152 : decode cX7_fail 152 = .ok (.ifCond .ne 6, 3) := by decide +kernel
theorem dX7_fail_155 : decode cX7_fail 155 = .ok (.goto 10, 3) := by decide +kernel
theorem dX7_fail_158 : decode cX7_fail 158 = .ok (.aload_n 2, 1) := by decide +kernel
theorem dX7_fail_159 : decode cX7_fail 159 = .ok (.iload 4, 2) := by decide +kernel
theorem dX7_fail_161 : decode cX7_fail 161 = .ok (.iconst 1, 1) := by decide +kernel
theorem dX7_fail_162 : decode cX7_fail 162 = .ok (.bastore, 1) := by decide +kernel
theorem dX7_fail_163 : decode cX7_fail 163 = .ok (.iconst 1, 1) := by decide +kernel
theorem dX7_fail_164 : decode cX7_fail 164 = .ok (.istore_n 3, 1) := by decide +kernel
theorem dX7_fail_165 : decode cX7_fail 165 = .ok (.iinc 5 1, 3) := by decide +kernel
theorem dX7_fail_168 : decode cX7_fail 168 = .ok (.goto (-61), 3) := by decide +kernel
theorem dX7_fail_171 : decode cX7_fail 171 = .ok (.iinc 4 1, 3) := by decide +kernel
theorem dX7_fail_174 : decode cX7_fail 174 = .ok (.goto (-79), 3) := by decide +kernel
theorem dX7_fail_177 : decode cX7_fail 177 = .ok (.goto (-91), 3) := by decide +kernel
theorem dX7_fail_180 : decode cX7_fail 180 = .ok (.iconst 0, 1) := by decide +kernel
theorem dX7_fail_181 : decode cX7_fail 181 = .ok (.istore 4, 2) := by decide +kernel
theorem dX7_fail_183 : decode cX7_fail 183 = .ok (.iconst 0, 1) := by decide +kernel
theorem dX7_fail_184 : decode cX7_fail 184 = .ok (.istore 5, 2) := by decide +kernel
theorem dX7_fail_186 : decode cX7_fail 186 = .ok (.iload 5, 2) := by decide +kernel
theorem dX7_fail_188 : decode cX7_fail 188 = .ok (.aload_n 0, 1) := by decide +kernel
theorem dX7_fail_189 : decode cX7_fail 189 = .ok (.getfield 74, 3) := by decide +kernel
theorem dX7_fail_192 : decode cX7_fail 192 = .ok (.if_icmp .ge 41, 3) := by decide +kernel
theorem dX7_fail_195 : decode cX7_fail 195 = .ok (.aload_n 2, 1) := by decide +kernel
theorem dX7_fail_196 : decode cX7_fail 196 = .ok (.iload 5, 2) := by decide +kernel
theorem dX7_fail_198 : decode cX7_fail 198 = .ok (.baload, 1) := by decide +kernel
theorem dX7_fail_199 : decode cX7_fail 199 = .ok (.ifCond .ne 6, 3) := by decide +kernel
theorem dX7_fail_202 : decode cX7_fail 202 = .ok (.goto 25, 3) := by decide +kernel
theorem dX7_fail_205 : decode cX7_fail 205 = .ok (.aload_n 0, 1) := by decide +kernel
theorem dX7_fail_206 : decode cX7_fail 206 = .ok (.getfield 44, 3) := by decide +kernel
theorem dX7_fail_209 : decode cX7_fail 209 = .ok (.iload 5, 2) := by decide +kernel
theorem dX7_fail_211 : decode cX7_fail 211 = .ok (.iconst (-1), 1) := by decide +kernel
theorem dX7_fail_212 : decode cX7_fail 212 = .ok (.iastore, 1) := by decide +kernel
theorem dX7_fail_213 : decode cX7_fail 213 = .ok (.aload_n 0, 1) := by decide +kernel
theorem dX7_fail_214 : decode cX7_fail 214 = .ok (.getfield 47, 3) := by decide +kernel
theorem dX7_fail_217 : decode cX7_fail 217 = .ok (.iload 5, 2) := by decide +kernel
theorem dX7_fail_219 : decode cX7_fail 219 = .ok (.dup2, 1) := by decide +kernel
theorem dX7_fail_220 : decode cX7_fail 220 = .ok (.iaload, 1) := by decide +kernel
theorem dX7_fail_221 : decode cX7_fail 221 = .ok (.iconst 1, 1) := by decide +kernel
theorem dX7_fail_222 : decode cX7_fail 222 = .ok (.iadd, 1) := by decide +kernel
theorem dX7_fail_223 : decode cX7_fail 223 = .ok (.iastore, 1) := by decide +kernel
theorem dX7_fail_224 : decode cX7_fail 224 = .ok (.iinc 4 1, 3) := by decide +kernel
theorem dX7_fail_227 : decode cX7_fail 227 = .ok (.iinc 5 1, 3) := by decide +kernel
theorem dX7_fail_230 : decode cX7_fail 230 = .ok (.goto (-44), 3) := by decide +kernel
theorem dX7_fail_233 : decode cX7_fail 233 = .ok (.iload 4, 2) := by decide +kernel
theorem dX7_fail_235 : decode cX7_fail 235 = .ok (.ireturn, 1) := by decide +kernel
theorem dX7_more_0 : decode cX7_more 0 = .ok (.aload_n 0, 1) := by decide +kernel
theorem dX7_more_1 : decode cX7_more 1 = .ok (.iload_n 1, 1) := by decide +kernel
theorem dX7_more_2 : decode cX7_more 2 = .ok (.invokevirtual 100, 3) := by decide +kernel
theorem dX7_more_5 : decode cX7_more 5 = .ok (.ifCond .eq 55, 3) := by decide +kernel
theorem dX7_more_8 : decode cX7_more 8 = .ok (.aload_n 0, 1) := by decide +kernel
theorem dX7_more_9 : decode cX7_more 9 = .ok (.iload_n 1, 1) := by decide +kernel
theorem dX7_more_10 : decode cX7_more 10 = .ok (.invokevirtual 148, 3) := by decide +kernel
theorem dX7_more_13 : decode cX7_more 13 = .ok (.ifCond .ne 47, 3) := by decide +kernel
theorem dX7_more_16 : decode cX7_more 16 = .ok (.iload_n 2, 1) := by decide +kernel
theorem dX7_more_17 : decode cX7_more 17 = .ok (.iconst 1, 1) := by decide +kernel
theorem dX7_more_18 : decode cX7_more 18 = .ok (.bipush 40, 2) := by decide +kernel
theorem dX7_more_20 : decode cX7_more 20 = .ok (.invokestatic 78, 3) := by decide +kernel
theorem dX7_more_23 : decode cX7_more 23 = .ok (.ifCond .eq 37, 3) := by decide +kernel
theorem dX7_more_26 : decode cX7_more 26 = .ok (.aload_n 0, 1) := by decide +kernel
theorem dX7_more_27 : decode cX7_more 27 = .ok (.getfield 26, 3) := by decide +kernel
theorem dX7_more_30 : decode cX7_more 30 = .ok (.iload_n 1, 1) := by decide +kernel
theorem dX7_more_31 : decode cX7_more 31 = .ok (.iaload, 1) := by decide +kernel
theorem dX7_more_32 : decode cX7_more 32 = .ok (.iload_n 2, 1) := by decide +kernel
theorem dX7_more_33 : decode cX7_more 33 = .ok (.iadd, 1) := by decide +kernel
theorem dX7_more_34 : decode cX7_more 34 = .ok (.bipush 40, 2) := by decide +kernel
theorem dX7_more_36 : decode cX7_more 36 = .ok (.if_icmp .gt 24, 3) := by decide +kernel
theorem dX7_more_39 : decode cX7_more 39 = .ok (.aload_n 0, 1) := by decide +kernel
theorem dX7_more_40 : decode cX7_more 40 = .ok (.iload_n 1, 1) := by decide +kernel
theorem dX7_more_41 : decode cX7_more 41 = .ok (.invokevirtual 89, 3) := by decide +kernel
theorem dX7_more_44 : decode cX7_more 44 = .ok (.ifCond .eq 18, 3) := by decide +kernel
theorem dX7_more_47 : decode cX7_more 47 = .ok (.aload_n 0, 1) := by decide +kernel
theorem dX7_more_48 : decode cX7_more 48 = .ok (.iload_n 1, 1) := by decide +kernel
theorem dX7_more_49 : decode cX7_more 49 = .ok (.invokevirtual 96, 3) := by decide +kernel
theorem dX7_more_52 : decode cX7_more 52 = .ok (.iload_n 2, 1) := by decide +kernel
theorem dX7_more_53 : decode cX7_more 53 = .ok (.iadd, 1) := by decide +kernel
theorem dX7_more_54 : decode cX7_more 54 = .ok (.sipush 400, 3) := by decide +kernel
theorem dX7_more_57 : decode cX7_more 57 = .ok (.if_icmp .le 5, 3) := by decide +kernel
theorem dX7_more_60 : decode cX7_more 60 = .ok (.iconst (-1), 1) := by decide +kernel
theorem dX7_more_61 : decode cX7_more 61 = .ok (.ireturn, 1) := by decide +kernel
theorem dX7_more_62 : decode cX7_more 62 = .ok (.aload_n 0, 1) := by decide +kernel
theorem dX7_more_63 : decode cX7_more 63 = .ok (.getfield 26, 3) := by decide +kernel
theorem dX7_more_66 : decode cX7_more 66 = .ok (.iload_n 1, 1) := by decide +kernel
theorem dX7_more_67 : decode cX7_more 67 = .ok (.dup2, 1) := by decide +kernel
theorem dX7_more_68 : decode cX7_more 68 = .ok (.iaload, 1) := by decide +kernel
theorem dX7_more_69 : decode cX7_more 69 = .ok (.iload_n 2, 1) := by decide +kernel
theorem dX7_more_70 : decode cX7_more 70 = .ok (.iadd, 1) := by decide +kernel
theorem dX7_more_71 : decode cX7_more 71 = .ok (.iastore, 1) := by decide +kernel
theorem dX7_more_72 : decode cX7_more 72 = .ok (.aload_n 0, 1) := by decide +kernel
theorem dX7_more_73 : decode cX7_more 73 = .ok (.getfield 26, 3) := by decide +kernel
theorem dX7_more_76 : decode cX7_more 76 = .ok (.iload_n 1, 1) := by decide +kernel
theorem dX7_more_77 : decode cX7_more 77 = .ok (.iaload, 1) := by decide +kernel
theorem dX7_more_78 : decode cX7_more 78 = .ok (.ireturn, 1) := by decide +kernel
theorem dX7_stateOf_0 : decode cX7_stateOf 0 = .ok (.aload_n 0, 1) := by decide +kernel
theorem dX7_stateOf_1 : decode cX7_stateOf 1 = .ok (.iload_n 1, 1) := by decide +kernel
theorem dX7_stateOf_2 : decode cX7_stateOf 2 = .ok (.invokevirtual 89, 3) := by decide +kernel
theorem dX7_stateOf_5 : decode cX7_stateOf 5 = .ok (.ifCond .ne 7, 3) := by decide +kernel
theorem dX7_stateOf_8 : decode cX7_stateOf 8 = .ok (.iconst 0, 1) := by decide +kernel
theorem dX7_stateOf_9 : decode cX7_stateOf 9 = .ok (.goto 28, 3) := by decide +kernel
theorem dX7_stateOf_12 : decode cX7_stateOf 12 = .ok (.aload_n 0, 1) := by decide +kernel
theorem dX7_stateOf_13 : decode cX7_stateOf 13 = .ok (.iload_n 1, 1) := by decide +kernel
theorem dX7_stateOf_14 : decode cX7_stateOf 14 = .ok (.invokevirtual 148, 3) := by decide +kernel
theorem dX7_stateOf_17 : decode cX7_stateOf 17 = .ok (.ifCond .eq 7, 3) := by decide +kernel
theorem dX7_stateOf_20 : decode cX7_stateOf 20 = .ok (.iconst 3, 1) := by decide +kernel
theorem dX7_stateOf_21 : decode cX7_stateOf 21 = .ok (.goto 16, 3) := by decide +kernel
theorem dX7_stateOf_24 : decode cX7_stateOf 24 = .ok (.aload_n 0, 1) := by decide +kernel
theorem dX7_stateOf_25 : decode cX7_stateOf 25 = .ok (.iload_n 1, 1) := by decide +kernel
theorem dX7_stateOf_26 : decode cX7_stateOf 26 = .ok (.invokevirtual 103, 3) := by decide +kernel
theorem dX7_stateOf_29 : decode cX7_stateOf 29 = .ok (.ifCond .eq 7, 3) := by decide +kernel
theorem dX7_stateOf_32 : decode cX7_stateOf 32 = .ok (.iconst 2, 1) := by decide +kernel
theorem dX7_stateOf_33 : decode cX7_stateOf 33 = .ok (.goto 4, 3) := by decide +kernel
theorem dX7_stateOf_36 : decode cX7_stateOf 36 = .ok (.iconst 1, 1) := by decide +kernel
theorem dX7_stateOf_37 : decode cX7_stateOf 37 = .ok (.ireturn, 1) := by decide +kernel
theorem dX7_told_0 : decode cX7_told 0 = .ok (.aload_n 0, 1) := by decide +kernel
theorem dX7_told_1 : decode cX7_told 1 = .ok (.iload_n 1, 1) := by decide +kernel
theorem dX7_told_2 : decode cX7_told 2 = .ok (.invokevirtual 100, 3) := by decide +kernel
theorem dX7_told_5 : decode cX7_told 5 = .ok (.ifCond .ne 5, 3) := by decide +kernel
theorem dX7_told_8 : decode cX7_told 8 = .ok (.iconst (-1), 1) := by decide +kernel
theorem dX7_told_9 : decode cX7_told 9 = .ok (.ireturn, 1) := by decide +kernel
theorem dX7_told_10 : decode cX7_told 10 = .ok (.iconst 0, 1) := by decide +kernel
theorem dX7_told_11 : decode cX7_told 11 = .ok (.istore_n 3, 1) := by decide +kernel
theorem dX7_told_12 : decode cX7_told 12 = .ok (.iload_n 2, 1) := by decide +kernel
theorem dX7_told_13 : decode cX7_told 13 = .ok (.bipush 8, 2) := by decide +kernel
theorem dX7_told_15 : decode cX7_told 15 = .ok (.if_icmp .lt 16, 3) := by decide +kernel
theorem dX7_told_18 : decode cX7_told 18 = .ok (.iload_n 2, 1) := by decide +kernel
theorem dX7_told_19 : decode cX7_told 19 = .ok (.bipush 10, 2) := by decide +kernel
theorem dX7_told_21 : decode cX7_told 21 = .ok (.if_icmp .gt 10, 3) := by decide +kernel
theorem dX7_told_24 : decode cX7_told 24 = .ok (.aload_n 0, 1) := by decide +kernel
theorem dX7_told_25 : decode cX7_told 25 = .ok (.invokevirtual 132, 3) := by decide +kernel
theorem dX7_told_28 : decode cX7_told 28 = .ok (.goto 4, 3) := by decide +kernel
theorem dX7_told_31 : decode cX7_told 31 = .ok (.iconst 0, 1) := by decide +kernel
theorem dX7_told_32 : decode cX7_told 32 = .ok (.istore 4, 2) := by decide +kernel
theorem dX7_told_34 : decode cX7_told 34 = .ok (.iload_n 2, 1) := by decide +kernel
theorem dX7_told_35 : decode cX7_told 35 = .ok (.tableswitch 192 0 12 #[65, 72, 79, 86, 93, 100, 107, 113, 120, 127, 134, 142, 185], 65) := by decide +kernel
theorem dX7_told_100 : decode cX7_told 100 = .ok (.aload_n 0, 1) := by decide +kernel
theorem dX7_told_101 : decode cX7_told 101 = .ok (.getfield 26, 3) := by decide +kernel
theorem dX7_told_104 : decode cX7_told 104 = .ok (.iload_n 1, 1) := by decide +kernel
theorem dX7_told_105 : decode cX7_told 105 = .ok (.iaload, 1) := by decide +kernel
theorem dX7_told_106 : decode cX7_told 106 = .ok (.ireturn, 1) := by decide +kernel
theorem dX7_told_107 : decode cX7_told 107 = .ok (.aload_n 0, 1) := by decide +kernel
theorem dX7_told_108 : decode cX7_told 108 = .ok (.getfield 29, 3) := by decide +kernel
theorem dX7_told_111 : decode cX7_told 111 = .ok (.iload_n 1, 1) := by decide +kernel
theorem dX7_told_112 : decode cX7_told 112 = .ok (.iaload, 1) := by decide +kernel
theorem dX7_told_113 : decode cX7_told 113 = .ok (.ireturn, 1) := by decide +kernel
theorem dX7_told_114 : decode cX7_told 114 = .ok (.aload_n 0, 1) := by decide +kernel
theorem dX7_told_115 : decode cX7_told 115 = .ok (.getfield 32, 3) := by decide +kernel
theorem dX7_told_118 : decode cX7_told 118 = .ok (.iload_n 1, 1) := by decide +kernel
theorem dX7_told_119 : decode cX7_told 119 = .ok (.iaload, 1) := by decide +kernel
theorem dX7_told_120 : decode cX7_told 120 = .ok (.ireturn, 1) := by decide +kernel
theorem dX7_told_121 : decode cX7_told 121 = .ok (.aload_n 0, 1) := by decide +kernel
theorem dX7_told_122 : decode cX7_told 122 = .ok (.getfield 35, 3) := by decide +kernel
theorem dX7_told_125 : decode cX7_told 125 = .ok (.iload_n 1, 1) := by decide +kernel
theorem dX7_told_126 : decode cX7_told 126 = .ok (.iaload, 1) := by decide +kernel
theorem dX7_told_127 : decode cX7_told 127 = .ok (.ireturn, 1) := by decide +kernel
theorem dX7_told_128 : decode cX7_told 128 = .ok (.aload_n 0, 1) := by decide +kernel
theorem dX7_told_129 : decode cX7_told 129 = .ok (.getfield 38, 3) := by decide +kernel
theorem dX7_told_132 : decode cX7_told 132 = .ok (.iload_n 1, 1) := by decide +kernel
theorem dX7_told_133 : decode cX7_told 133 = .ok (.iaload, 1) := by decide +kernel
theorem dX7_told_134 : decode cX7_told 134 = .ok (.ireturn, 1) := by decide +kernel
theorem dX7_told_135 : decode cX7_told 135 = .ok (.aload_n 0, 1) := by decide +kernel
theorem dX7_told_136 : decode cX7_told 136 = .ok (.getfield 41, 3) := by decide +kernel
theorem dX7_told_139 : decode cX7_told 139 = .ok (.iload_n 1, 1) := by decide +kernel
theorem dX7_told_140 : decode cX7_told 140 = .ok (.iaload, 1) := by decide +kernel
theorem dX7_told_141 : decode cX7_told 141 = .ok (.ireturn, 1) := by decide +kernel
theorem dX7_told_142 : decode cX7_told 142 = .ok (.aload_n 0, 1) := by decide +kernel
theorem dX7_told_143 : decode cX7_told 143 = .ok (.iload_n 1, 1) := by decide +kernel
theorem dX7_told_144 : decode cX7_told 144 = .ok (.invokevirtual 151, 3) := by decide +kernel
theorem dX7_told_147 : decode cX7_told 147 = .ok (.ireturn, 1) := by decide +kernel
theorem dX7_told_148 : decode cX7_told 148 = .ok (.aload_n 0, 1) := by decide +kernel
theorem dX7_told_149 : decode cX7_told 149 = .ok (.getfield 44, 3) := by decide +kernel
theorem dX7_told_152 : decode cX7_told 152 = .ok (.iload_n 1, 1) := by decide +kernel
theorem dX7_told_153 : decode cX7_told 153 = .ok (.iaload, 1) := by decide +kernel
theorem dX7_told_154 : decode cX7_told 154 = .ok (.ireturn, 1) := by decide +kernel
theorem dX7_told_155 : decode cX7_told 155 = .ok (.aload_n 0, 1) := by decide +kernel
theorem dX7_told_156 : decode cX7_told 156 = .ok (.getfield 59, 3) := by decide +kernel
theorem dX7_told_159 : decode cX7_told 159 = .ok (.iload_n 1, 1) := by decide +kernel
theorem dX7_told_160 : decode cX7_told 160 = .ok (.iaload, 1) := by decide +kernel
theorem dX7_told_161 : decode cX7_told 161 = .ok (.ireturn, 1) := by decide +kernel
theorem dX7_told_162 : decode cX7_told 162 = .ok (.aload_n 0, 1) := by decide +kernel
theorem dX7_told_163 : decode cX7_told 163 = .ok (.getfield 62, 3) := by decide +kernel
theorem dX7_told_166 : decode cX7_told 166 = .ok (.iload_n 1, 1) := by decide +kernel
theorem dX7_told_167 : decode cX7_told 167 = .ok (.iaload, 1) := by decide +kernel
theorem dX7_told_168 : decode cX7_told 168 = .ok (.ireturn, 1) := by decide +kernel
theorem dX7_told_169 : decode cX7_told 169 = .ok (.aload_n 0, 1) := by decide +kernel
theorem dX7_told_170 : decode cX7_told 170 = .ok (.iload 4, 2) := by decide +kernel
theorem dX7_told_172 : decode cX7_told 172 = .ok (.iload_n 1, 1) := by decide +kernel
theorem dX7_told_173 : decode cX7_told 173 = .ok (.invokevirtual 136, 3) := by decide +kernel
theorem dX7_told_176 : decode cX7_told 176 = .ok (.ireturn, 1) := by decide +kernel
theorem dX7_told_177 : decode cX7_told 177 = .ok (.iconst 0, 1) := by decide +kernel
theorem dX7_told_178 : decode cX7_told 178 = .ok (.istore 5, 2) := by decide +kernel
theorem dX7_told_180 : decode cX7_told 180 = .ok (.iload 5, 2) := by decide +kernel
theorem dX7_told_182 : decode cX7_told 182 = .ok (.aload_n 0, 1) := by decide +kernel
theorem dX7_told_183 : decode cX7_told 183 = .ok (.getfield 74, 3) := by decide +kernel
theorem dX7_told_186 : decode cX7_told 186 = .ok (.if_icmp .ge 32, 3) := by decide +kernel
theorem dX7_told_189 : decode cX7_told 189 = .ok (.iload_n 3, 1) := by decide +kernel
theorem dX7_told_190 : decode cX7_told 190 = .ok (.aload_n 0, 1) := by decide +kernel
theorem dX7_told_191 : decode cX7_told 191 = .ok (.getfield 50, 3) := by decide +kernel
theorem dX7_told_194 : decode cX7_told 194 = .ok (.bipush 40, 2) := by decide +kernel
theorem dX7_told_196 : decode cX7_told 196 = .ok (.iload_n 1, 1) := by decide +kernel
theorem dX7_told_197 : decode cX7_told 197 = .ok (.imul, 1) := by decide +kernel
theorem dX7_told_198 : decode cX7_told 198 = .ok (.iload 5, 2) := by decide +kernel
theorem dX7_told_200 : decode cX7_told 200 = .ok (.iadd, 1) := by decide +kernel
theorem dX7_told_201 : decode cX7_told 201 = .ok (.baload, 1) := by decide +kernel
theorem dX7_told_202 : decode cX7_told 202 = .ok (.ifCond .eq 7, 3) := by decide +kernel
theorem dX7_told_205 : decode cX7_told 205 = .ok (.iconst 1, 1) := by decide +kernel
theorem dX7_told_206 : decode cX7_told 206 = .ok (.goto 4, 3) := by decide +kernel
theorem dX7_told_209 : decode cX7_told 209 = .ok (.iconst 0, 1) := by decide +kernel
theorem dX7_told_210 : decode cX7_told 210 = .ok (.iadd, 1) := by decide +kernel
theorem dX7_told_211 : decode cX7_told 211 = .ok (.istore_n 3, 1) := by decide +kernel
theorem dX7_told_212 : decode cX7_told 212 = .ok (.iinc 5 1, 3) := by decide +kernel
theorem dX7_told_215 : decode cX7_told 215 = .ok (.goto (-35), 3) := by decide +kernel
theorem dX7_told_218 : decode cX7_told 218 = .ok (.iload_n 3, 1) := by decide +kernel
theorem dX7_told_219 : decode cX7_told 219 = .ok (.ireturn, 1) := by decide +kernel
theorem dX7_told_220 : decode cX7_told 220 = .ok (.aload_n 0, 1) := by decide +kernel
theorem dX7_told_221 : decode cX7_told 221 = .ok (.getfield 47, 3) := by decide +kernel
theorem dX7_told_224 : decode cX7_told 224 = .ok (.iload_n 1, 1) := by decide +kernel
theorem dX7_told_225 : decode cX7_told 225 = .ok (.iaload, 1) := by decide +kernel
theorem dX7_told_226 : decode cX7_told 226 = .ok (.ireturn, 1) := by decide +kernel
theorem dX7_told_227 : decode cX7_told 227 = .ok (.iconst (-1), 1) := by decide +kernel
theorem dX7_told_228 : decode cX7_told 228 = .ok (.ireturn, 1) := by decide +kernel
theorem dX7_load_0 : decode cX7_load 0 = .ok (.iload_n 1, 1) := by decide +kernel
theorem dX7_load_1 : decode cX7_load 1 = .ok (.iconst 0, 1) := by decide +kernel
theorem dX7_load_2 : decode cX7_load 2 = .ok (.sipush 399, 3) := by decide +kernel
theorem dX7_load_5 : decode cX7_load 5 = .ok (.invokestatic 78, 3) := by decide +kernel
theorem dX7_load_8 : decode cX7_load 8 = .ok (.ifCond .eq 13, 3) := by decide +kernel
theorem dX7_load_11 : decode cX7_load 11 = .ok (.iload_n 2, 1) := by decide +kernel
theorem dX7_load_12 : decode cX7_load 12 = .ok (.iconst 0, 1) := by decide +kernel
theorem dX7_load_13 : decode cX7_load 13 = .ok (.bipush 8, 2) := by decide +kernel
theorem dX7_load_15 : decode cX7_load 15 = .ok (.invokestatic 78, 3) := by decide +kernel
theorem dX7_load_18 : decode cX7_load 18 = .ok (.ifCond .ne 5, 3) := by decide +kernel
theorem dX7_load_21 : decode cX7_load 21 = .ok (.iconst (-1), 1) := by decide +kernel
theorem dX7_load_22 : decode cX7_load 22 = .ok (.ireturn, 1) := by decide +kernel
theorem dX7_load_23 : decode cX7_load 23 = .ok (.iconst 0, 1) := by decide +kernel
theorem dX7_load_24 : decode cX7_load 24 = .ok (.istore_n 3, 1) := by decide +kernel
theorem dX7_load_25 : decode cX7_load 25 = .ok (.iconst 0, 1) := by decide +kernel
theorem dX7_load_26 : decode cX7_load 26 = .ok (.istore 4, 2) := by decide +kernel
theorem dX7_load_28 : decode cX7_load 28 = .ok (.iload 4, 2) := by decide +kernel
theorem dX7_load_30 : decode cX7_load 30 = .ok (.aload_n 0, 1) := by decide +kernel
theorem dX7_load_31 : decode cX7_load 31 = .ok (.getfield 74, 3) := by decide +kernel
theorem dX7_load_34 : decode cX7_load 34 = .ok (.if_icmp .ge 88, 3) := by decide +kernel
theorem dX7_load_37 : decode cX7_load 37 = .ok (.aload_n 0, 1) := by decide +kernel
theorem dX7_load_38 : decode cX7_load 38 = .ok (.iload 4, 2) := by decide +kernel
theorem dX7_load_40 : decode cX7_load 40 = .ok (.iload_n 1, 1) := by decide +kernel
theorem dX7_load_41 : decode cX7_load 41 = .ok (.invokevirtual 116, 3) := by decide +kernel
theorem dX7_load_44 : decode cX7_load 44 = .ok (.ifCond .ne 6, 3) := by decide +kernel
theorem dX7_load_47 : decode cX7_load 47 = .ok (.goto 69, 3) := by decide +kernel
theorem dX7_load_50 : decode cX7_load 50 = .ok (.iload_n 2, 1) := by decide +kernel
theorem dX7_load_51 : decode cX7_load 51 = .ok (.iconst 4, 1) := by decide +kernel
theorem dX7_load_52 : decode cX7_load 52 = .ok (.if_icmp .ge 31, 3) := by decide +kernel
theorem dX7_load_55 : decode cX7_load 55 = .ok (.iload_n 3, 1) := by decide +kernel
theorem dX7_load_56 : decode cX7_load 56 = .ok (.aload_n 0, 1) := by decide +kernel
theorem dX7_load_57 : decode cX7_load 57 = .ok (.getfield 29, 3) := by decide +kernel
theorem dX7_load_60 : decode cX7_load 60 = .ok (.iload 4, 2) := by decide +kernel
theorem dX7_load_62 : decode cX7_load 62 = .ok (.iaload, 1) := by decide +kernel
theorem dX7_load_63 : decode cX7_load 63 = .ok (.iload_n 2, 1) := by decide +kernel
theorem dX7_load_64 : decode cX7_load 64 = .ok (.if_icmp .ne 13, 3) := by decide +kernel
theorem dX7_load_67 : decode cX7_load 67 = .ok (.aload_n 0, 1) := by decide +kernel
theorem dX7_load_68 : decode cX7_load 68 = .ok (.getfield 32, 3) := by decide +kernel
theorem dX7_load_71 : decode cX7_load 71 = .ok (.iload 4, 2) := by decide +kernel
theorem dX7_load_73 : decode cX7_load 73 = .ok (.iaload, 1) := by decide +kernel
theorem dX7_load_74 : decode cX7_load 74 = .ok (.goto 4, 3) := by decide +kernel
theorem dX7_load_77 : decode cX7_load 77 = .ok (.iconst 0, 1) := by decide +kernel
theorem dX7_load_78 : decode cX7_load 78 = .ok (.iadd, 1) := by decide +kernel
theorem dX7_load_79 : decode cX7_load 79 = .ok (.istore_n 3, 1) := by decide +kernel
theorem dX7_load_80 : decode cX7_load 80 = .ok (.goto 36, 3) := by decide +kernel
theorem dX7_load_83 : decode cX7_load 83 = .ok (.iload_n 2, 1) := by decide +kernel
theorem dX7_load_84 : decode cX7_load 84 = .ok (.bipush 8, 2) := by decide +kernel
theorem dX7_load_86 : decode cX7_load 86 = .ok (.if_icmp .ge 27, 3) := by decide +kernel
theorem dX7_load_89 : decode cX7_load 89 = .ok (.iload_n 3, 1) := by decide +kernel
theorem dX7_load_90 : decode cX7_load 90 = .ok (.aload_n 0, 1) := by decide +kernel
theorem dX7_load_91 : decode cX7_load 91 = .ok (.getfield 41, 3) := by decide +kernel
theorem dX7_load_94 : decode cX7_load 94 = .ok (.iload 4, 2) := by decide +kernel
theorem dX7_load_96 : decode cX7_load 96 = .ok (.iaload, 1) := by decide +kernel
theorem dX7_load_97 : decode cX7_load 97 = .ok (.iload_n 2, 1) := by decide +kernel
theorem dX7_load_98 : decode cX7_load 98 = .ok (.iconst 4, 1) := by decide +kernel
theorem dX7_load_99 : decode cX7_load 99 = .ok (.isub, 1) := by decide +kernel
theorem dX7_load_100 : decode cX7_load 100 = .ok (.if_icmp .ne 7, 3) := by decide +kernel
theorem dX7_load_103 : decode cX7_load 103 = .ok (.iconst 1, 1) := by decide +kernel
theorem dX7_load_104 : decode cX7_load 104 = .ok (.goto 4, 3) := by decide +kernel
theorem dX7_load_107 : decode cX7_load 107 = .ok (.iconst 0, 1) := by decide +kernel
theorem dX7_load_108 : decode cX7_load 108 = .ok (.iadd, 1) := by decide +kernel
theorem dX7_load_109 : decode cX7_load 109 = .ok (.istore_n 3, 1) := by decide +kernel
theorem dX7_load_110 : decode cX7_load 110 = .ok (.goto 6, 3) := by decide +kernel
theorem dX7_load_113 : decode cX7_load 113 = .ok (.iinc 3 1, 3) := by decide +kernel
theorem dX7_load_116 : decode cX7_load 116 = .ok (.iinc 4 1, 3) := by decide +kernel
theorem dX7_load_119 : decode cX7_load 119 = .ok (.goto (-91), 3) := by decide +kernel
theorem dX7_load_122 : decode cX7_load 122 = .ok (.iload_n 3, 1) := by decide +kernel
theorem dX7_load_123 : decode cX7_load 123 = .ok (.ireturn, 1) := by decide +kernel
theorem dX7_count_0 : decode cX7_count 0 = .ok (.iconst 0, 1) := by decide +kernel
theorem dX7_count_1 : decode cX7_count 1 = .ok (.istore_n 2, 1) := by decide +kernel
theorem dX7_count_2 : decode cX7_count 2 = .ok (.iload_n 1, 1) := by decide +kernel
theorem dX7_count_3 : decode cX7_count 3 = .ok (.tableswitch 134 0 6 #[41, 46, 51, 56, 90, 124, 129], 41) := by decide +kernel
theorem dX7_count_44 : decode cX7_count 44 = .ok (.aload_n 0, 1) := by decide +kernel
theorem dX7_count_45 : decode cX7_count 45 = .ok (.getfield 93, 3) := by decide +kernel
theorem dX7_count_48 : decode cX7_count 48 = .ok (.ireturn, 1) := by decide +kernel
theorem dX7_count_49 : decode cX7_count 49 = .ok (.aload_n 0, 1) := by decide +kernel
theorem dX7_count_50 : decode cX7_count 50 = .ok (.getfield 82, 3) := by decide +kernel
theorem dX7_count_53 : decode cX7_count 53 = .ok (.ireturn, 1) := by decide +kernel
theorem dX7_count_54 : decode cX7_count 54 = .ok (.aload_n 0, 1) := by decide +kernel
theorem dX7_count_55 : decode cX7_count 55 = .ok (.getfield 74, 3) := by decide +kernel
theorem dX7_count_58 : decode cX7_count 58 = .ok (.ireturn, 1) := by decide +kernel
theorem dX7_count_59 : decode cX7_count 59 = .ok (.iconst 0, 1) := by decide +kernel
theorem dX7_count_60 : decode cX7_count 60 = .ok (.istore_n 3, 1) := by decide +kernel
theorem dX7_count_61 : decode cX7_count 61 = .ok (.iload_n 3, 1) := by decide +kernel
theorem dX7_count_62 : decode cX7_count 62 = .ok (.aload_n 0, 1) := by decide +kernel
theorem dX7_count_63 : decode cX7_count 63 = .ok (.getfield 74, 3) := by decide +kernel
theorem dX7_count_66 : decode cX7_count 66 = .ok (.if_icmp .ge 25, 3) := by decide +kernel
theorem dX7_count_69 : decode cX7_count 69 = .ok (.iload_n 2, 1) := by decide +kernel
theorem dX7_count_70 : decode cX7_count 70 = .ok (.aload_n 0, 1) := by decide +kernel
theorem dX7_count_71 : decode cX7_count 71 = .ok (.iload_n 3, 1) := by decide +kernel
theorem dX7_count_72 : decode cX7_count 72 = .ok (.invokevirtual 89, 3) := by decide +kernel
theorem dX7_count_75 : decode cX7_count 75 = .ok (.ifCond .eq 7, 3) := by decide +kernel
theorem dX7_count_78 : decode cX7_count 78 = .ok (.iconst 0, 1) := by decide +kernel
theorem dX7_count_79 : decode cX7_count 79 = .ok (.goto 4, 3) := by decide +kernel
theorem dX7_count_82 : decode cX7_count 82 = .ok (.iconst 1, 1) := by decide +kernel
theorem dX7_count_83 : decode cX7_count 83 = .ok (.iadd, 1) := by decide +kernel
theorem dX7_count_84 : decode cX7_count 84 = .ok (.istore_n 2, 1) := by decide +kernel
theorem dX7_count_85 : decode cX7_count 85 = .ok (.iinc 3 1, 3) := by decide +kernel
theorem dX7_count_88 : decode cX7_count 88 = .ok (.goto (-27), 3) := by decide +kernel
theorem dX7_count_91 : decode cX7_count 91 = .ok (.iload_n 2, 1) := by decide +kernel
theorem dX7_count_92 : decode cX7_count 92 = .ok (.ireturn, 1) := by decide +kernel
theorem dX7_count_93 : decode cX7_count 93 = .ok (.iconst 0, 1) := by decide +kernel
theorem dX7_count_94 : decode cX7_count 94 = .ok (.istore_n 3, 1) := by decide +kernel
theorem dX7_count_95 : decode cX7_count 95 = .ok (.iload_n 3, 1) := by decide +kernel
theorem dX7_count_96 : decode cX7_count 96 = .ok (.aload_n 0, 1) := by decide +kernel
theorem dX7_count_97 : decode cX7_count 97 = .ok (.getfield 74, 3) := by decide +kernel
theorem dX7_count_100 : decode cX7_count 100 = .ok (.if_icmp .ge 25, 3) := by decide +kernel
theorem dX7_count_103 : decode cX7_count 103 = .ok (.iload_n 2, 1) := by decide +kernel
theorem dX7_count_104 : decode cX7_count 104 = .ok (.aload_n 0, 1) := by decide +kernel
theorem dX7_count_105 : decode cX7_count 105 = .ok (.iload_n 3, 1) := by decide +kernel
theorem dX7_count_106 : decode cX7_count 106 = .ok (.invokevirtual 148, 3) := by decide +kernel
theorem dX7_count_109 : decode cX7_count 109 = .ok (.ifCond .eq 7, 3) := by decide +kernel
theorem dX7_count_112 : decode cX7_count 112 = .ok (.iconst 1, 1) := by decide +kernel
theorem dX7_count_113 : decode cX7_count 113 = .ok (.goto 4, 3) := by decide +kernel
theorem dX7_count_116 : decode cX7_count 116 = .ok (.iconst 0, 1) := by decide +kernel
theorem dX7_count_117 : decode cX7_count 117 = .ok (.iadd, 1) := by decide +kernel
theorem dX7_count_118 : decode cX7_count 118 = .ok (.istore_n 2, 1) := by decide +kernel
theorem dX7_count_119 : decode cX7_count 119 = .ok (.iinc 3 1, 3) := by decide +kernel
theorem dX7_count_122 : decode cX7_count 122 = .ok (.goto (-27), 3) := by decide +kernel
theorem dX7_count_125 : decode cX7_count 125 = .ok (.iload_n 2, 1) := by decide +kernel
theorem dX7_count_126 : decode cX7_count 126 = .ok (.ireturn, 1) := by decide +kernel
theorem dX7_count_127 : decode cX7_count 127 = .ok (.aload_n 0, 1) := by decide +kernel
theorem dX7_count_128 : decode cX7_count 128 = .ok (.getfield 85, 3) := by decide +kernel
theorem dX7_count_131 : decode cX7_count 131 = .ok (.ireturn, 1) := by decide +kernel
theorem dX7_count_132 : decode cX7_count 132 = .ok (.aload_n 0, 1) := by decide +kernel
theorem dX7_count_133 : decode cX7_count 133 = .ok (.invokevirtual 132, 3) := by decide +kernel
theorem dX7_count_136 : decode cX7_count 136 = .ok (.ireturn, 1) := by decide +kernel
theorem dX7_count_137 : decode cX7_count 137 = .ok (.iconst (-1), 1) := by decide +kernel
theorem dX7_count_138 : decode cX7_count 138 = .ok (.ireturn, 1) := by decide +kernel
theorem dJ13_bitCount_95d88_0 : decode cJ13_bitCount_95d88 0 = .ok (.lload_n 0, 1) := by decide +kernel
theorem dJ13_bitCount_95d88_1 : decode cJ13_bitCount_95d88 1 = .ok (.lload_n 0, 1) := by decide +kernel
theorem dJ13_bitCount_95d88_2 : decode cJ13_bitCount_95d88 2 = .ok (.iconst 1, 1) := by decide +kernel
theorem dJ13_bitCount_95d88_3 : decode cJ13_bitCount_95d88 3 = .ok (.lushr, 1) := by decide +kernel
theorem dJ13_bitCount_95d88_4 : decode cJ13_bitCount_95d88 4 = .ok (.ldc2_w 314, 3) := by decide +kernel
theorem dJ13_bitCount_95d88_7 : decode cJ13_bitCount_95d88 7 = .ok (.land, 1) := by decide +kernel
theorem dJ13_bitCount_95d88_8 : decode cJ13_bitCount_95d88 8 = .ok (.lsub, 1) := by decide +kernel
theorem dJ13_bitCount_95d88_9 : decode cJ13_bitCount_95d88 9 = .ok (.lstore_n 0, 1) := by decide +kernel
theorem dJ13_bitCount_95d88_10 : decode cJ13_bitCount_95d88 10 = .ok (.lload_n 0, 1) := by decide +kernel
theorem dJ13_bitCount_95d88_11 : decode cJ13_bitCount_95d88 11 = .ok (.ldc2_w 316, 3) := by decide +kernel
theorem dJ13_bitCount_95d88_14 : decode cJ13_bitCount_95d88 14 = .ok (.land, 1) := by decide +kernel
theorem dJ13_bitCount_95d88_15 : decode cJ13_bitCount_95d88 15 = .ok (.lload_n 0, 1) := by decide +kernel
theorem dJ13_bitCount_95d88_16 : decode cJ13_bitCount_95d88 16 = .ok (.iconst 2, 1) := by decide +kernel
theorem dJ13_bitCount_95d88_17 : decode cJ13_bitCount_95d88 17 = .ok (.lushr, 1) := by decide +kernel
theorem dJ13_bitCount_95d88_18 : decode cJ13_bitCount_95d88 18 = .ok (.ldc2_w 316, 3) := by decide +kernel
theorem dJ13_bitCount_95d88_21 : decode cJ13_bitCount_95d88 21 = .ok (.land, 1) := by decide +kernel
theorem dJ13_bitCount_95d88_22 : decode cJ13_bitCount_95d88 22 = .ok (.ladd, 1) := by decide +kernel
theorem dJ13_bitCount_95d88_23 : decode cJ13_bitCount_95d88 23 = .ok (.lstore_n 0, 1) := by decide +kernel
theorem dJ13_bitCount_95d88_24 : decode cJ13_bitCount_95d88 24 = .ok (.lload_n 0, 1) := by decide +kernel
theorem dJ13_bitCount_95d88_25 : decode cJ13_bitCount_95d88 25 = .ok (.lload_n 0, 1) := by decide +kernel
theorem dJ13_bitCount_95d88_26 : decode cJ13_bitCount_95d88 26 = .ok (.iconst 4, 1) := by decide +kernel
theorem dJ13_bitCount_95d88_27 : decode cJ13_bitCount_95d88 27 = .ok (.lushr, 1) := by decide +kernel
theorem dJ13_bitCount_95d88_28 : decode cJ13_bitCount_95d88 28 = .ok (.ladd, 1) := by decide +kernel
theorem dJ13_bitCount_95d88_29 : decode cJ13_bitCount_95d88 29 = .ok (.ldc2_w 318, 3) := by decide +kernel
theorem dJ13_bitCount_95d88_32 : decode cJ13_bitCount_95d88 32 = .ok (.land, 1) := by decide +kernel
theorem dJ13_bitCount_95d88_33 : decode cJ13_bitCount_95d88 33 = .ok (.lstore_n 0, 1) := by decide +kernel
theorem dJ13_bitCount_95d88_34 : decode cJ13_bitCount_95d88 34 = .ok (.lload_n 0, 1) := by decide +kernel
theorem dJ13_bitCount_95d88_35 : decode cJ13_bitCount_95d88 35 = .ok (.lload_n 0, 1) := by decide +kernel
theorem dJ13_bitCount_95d88_36 : decode cJ13_bitCount_95d88 36 = .ok (.bipush 8, 2) := by decide +kernel
theorem dJ13_bitCount_95d88_38 : decode cJ13_bitCount_95d88 38 = .ok (.lushr, 1) := by decide +kernel
theorem dJ13_bitCount_95d88_39 : decode cJ13_bitCount_95d88 39 = .ok (.ladd, 1) := by decide +kernel
theorem dJ13_bitCount_95d88_40 : decode cJ13_bitCount_95d88 40 = .ok (.lstore_n 0, 1) := by decide +kernel
theorem dJ13_bitCount_95d88_41 : decode cJ13_bitCount_95d88 41 = .ok (.lload_n 0, 1) := by decide +kernel
theorem dJ13_bitCount_95d88_42 : decode cJ13_bitCount_95d88 42 = .ok (.lload_n 0, 1) := by decide +kernel
theorem dJ13_bitCount_95d88_43 : decode cJ13_bitCount_95d88 43 = .ok (.bipush 16, 2) := by decide +kernel
theorem dJ13_bitCount_95d88_45 : decode cJ13_bitCount_95d88 45 = .ok (.lushr, 1) := by decide +kernel
theorem dJ13_bitCount_95d88_46 : decode cJ13_bitCount_95d88 46 = .ok (.ladd, 1) := by decide +kernel
theorem dJ13_bitCount_95d88_47 : decode cJ13_bitCount_95d88 47 = .ok (.lstore_n 0, 1) := by decide +kernel
theorem dJ13_bitCount_95d88_48 : decode cJ13_bitCount_95d88 48 = .ok (.lload_n 0, 1) := by decide +kernel
theorem dJ13_bitCount_95d88_49 : decode cJ13_bitCount_95d88 49 = .ok (.lload_n 0, 1) := by decide +kernel
theorem dJ13_bitCount_95d88_50 : decode cJ13_bitCount_95d88 50 = .ok (.bipush 32, 2) := by decide +kernel
theorem dJ13_bitCount_95d88_52 : decode cJ13_bitCount_95d88 52 = .ok (.lushr, 1) := by decide +kernel
theorem dJ13_bitCount_95d88_53 : decode cJ13_bitCount_95d88 53 = .ok (.ladd, 1) := by decide +kernel
theorem dJ13_bitCount_95d88_54 : decode cJ13_bitCount_95d88 54 = .ok (.lstore_n 0, 1) := by decide +kernel
theorem dJ13_bitCount_95d88_55 : decode cJ13_bitCount_95d88 55 = .ok (.lload_n 0, 1) := by decide +kernel
theorem dJ13_bitCount_95d88_56 : decode cJ13_bitCount_95d88 56 = .ok (.l2i, 1) := by decide +kernel
theorem dJ13_bitCount_95d88_57 : decode cJ13_bitCount_95d88 57 = .ok (.bipush 127, 2) := by decide +kernel
theorem dJ13_bitCount_95d88_59 : decode cJ13_bitCount_95d88 59 = .ok (.iand, 1) := by decide +kernel
theorem dJ13_bitCount_95d88_60 : decode cJ13_bitCount_95d88 60 = .ok (.ireturn, 1) := by decide +kernel
theorem dJ9_max_7cf53_0 : decode cJ9_max_7cf53 0 = .ok (.iload_n 0, 1) := by decide +kernel
theorem dJ9_max_7cf53_1 : decode cJ9_max_7cf53 1 = .ok (.iload_n 1, 1) := by decide +kernel
theorem dJ9_max_7cf53_2 : decode cJ9_max_7cf53 2 = .ok (.if_icmp .lt 7, 3) := by decide +kernel
theorem dJ9_max_7cf53_5 : decode cJ9_max_7cf53 5 = .ok (.iload_n 0, 1) := by decide +kernel
theorem dJ9_max_7cf53_6 : decode cJ9_max_7cf53 6 = .ok (.goto 4, 3) := by decide +kernel
theorem dJ9_max_7cf53_9 : decode cJ9_max_7cf53 9 = .ok (.iload_n 1, 1) := by decide +kernel
theorem dJ9_max_7cf53_10 : decode cJ9_max_7cf53 10 = .ok (.ireturn, 1) := by decide +kernel
theorem dJ9_min_7cf53_0 : decode cJ9_min_7cf53 0 = .ok (.iload_n 0, 1) := by decide +kernel
theorem dJ9_min_7cf53_1 : decode cJ9_min_7cf53 1 = .ok (.iload_n 1, 1) := by decide +kernel
theorem dJ9_min_7cf53_2 : decode cJ9_min_7cf53 2 = .ok (.if_icmp .gt 7, 3) := by decide +kernel
theorem dJ9_min_7cf53_5 : decode cJ9_min_7cf53 5 = .ok (.iload_n 0, 1) := by decide +kernel
theorem dJ9_min_7cf53_6 : decode cJ9_min_7cf53 6 = .ok (.goto 4, 3) := by decide +kernel
theorem dJ9_min_7cf53_9 : decode cJ9_min_7cf53 9 = .ok (.iload_n 1, 1) := by decide +kernel
theorem dJ9_min_7cf53_10 : decode cJ9_min_7cf53 10 = .ok (.ireturn, 1) := by decide +kernel
theorem dL_law_0 : decode cL_law 0 = .ok (.new 7, 3) := by decide +kernel
theorem dL_law_3 : decode cL_law 3 = .ok (.dup, 1) := by decide +kernel
theorem dL_law_4 : decode cL_law 4 = .ok (.invokespecial 9, 3) := by decide +kernel
theorem dL_law_7 : decode cL_law 7 = .ok (.astore_n 1, 1) := by decide +kernel
theorem dL_law_8 : decode cL_law 8 = .ok (.new 10, 3) := by decide +kernel
theorem dL_law_11 : decode cL_law 11 = .ok (.dup, 1) := by decide +kernel
theorem dL_law_12 : decode cL_law 12 = .ok (.invokespecial 12, 3) := by decide +kernel
theorem dL_law_15 : decode cL_law 15 = .ok (.astore_n 2, 1) := by decide +kernel
theorem dL_law_16 : decode cL_law 16 = .ok (.iconst 0, 1) := by decide +kernel
theorem dL_law_17 : decode cL_law 17 = .ok (.istore_n 3, 1) := by decide +kernel
theorem dL_law_18 : decode cL_law 18 = .ok (.iload_n 3, 1) := by decide +kernel
theorem dL_law_19 : decode cL_law 19 = .ok (.aload_n 0, 1) := by decide +kernel
theorem dL_law_20 : decode cL_law 20 = .ok (.arraylength, 1) := by decide +kernel
theorem dL_law_21 : decode cL_law 21 = .ok (.iconst 4, 1) := by decide +kernel
theorem dL_law_22 : decode cL_law 22 = .ok (.isub, 1) := by decide +kernel
theorem dL_law_23 : decode cL_law 23 = .ok (.if_icmp .gt 752, 3) := by decide +kernel
theorem dL_law_26 : decode cL_law 26 = .ok (.aload_n 0, 1) := by decide +kernel
theorem dL_law_27 : decode cL_law 27 = .ok (.iload_n 3, 1) := by decide +kernel
theorem dL_law_28 : decode cL_law 28 = .ok (.iaload, 1) := by decide +kernel
theorem dL_law_29 : decode cL_law 29 = .ok (.bipush 31, 2) := by decide +kernel
theorem dL_law_31 : decode cL_law 31 = .ok (.iand, 1) := by decide +kernel
theorem dL_law_32 : decode cL_law 32 = .ok (.tableswitch 737 0 22 #[108, 131, 164, 197, 230, 273, 306, 339, 372, 405, 428, 461, 494, 517, 550, 583, 596, 609, 622, 635, 658, 681, 714], 108) := by decide +kernel
theorem dL_law_140 : decode cL_law 140 = .ok (.aload_n 1, 1) := by decide +kernel
theorem dL_law_141 : decode cL_law 141 = .ok (.aload_n 0, 1) := by decide +kernel
theorem dL_law_142 : decode cL_law 142 = .ok (.iload_n 3, 1) := by decide +kernel
theorem dL_law_143 : decode cL_law 143 = .ok (.iconst 1, 1) := by decide +kernel
theorem dL_law_144 : decode cL_law 144 = .ok (.iadd, 1) := by decide +kernel
theorem dL_law_145 : decode cL_law 145 = .ok (.iaload, 1) := by decide +kernel
theorem dL_law_146 : decode cL_law 146 = .ok (.invokevirtual 13, 3) := by decide +kernel
theorem dL_law_149 : decode cL_law 149 = .ok (.aload_n 2, 1) := by decide +kernel
theorem dL_law_150 : decode cL_law 150 = .ok (.aload_n 0, 1) := by decide +kernel
theorem dL_law_151 : decode cL_law 151 = .ok (.iload_n 3, 1) := by decide +kernel
theorem dL_law_152 : decode cL_law 152 = .ok (.iconst 1, 1) := by decide +kernel
theorem dL_law_153 : decode cL_law 153 = .ok (.iadd, 1) := by decide +kernel
theorem dL_law_154 : decode cL_law 154 = .ok (.iaload, 1) := by decide +kernel
theorem dL_law_155 : decode cL_law 155 = .ok (.invokevirtual 17, 3) := by decide +kernel
theorem dL_law_158 : decode cL_law 158 = .ok (.if_icmp .eq 611, 3) := by decide +kernel
theorem dL_law_161 : decode cL_law 161 = .ok (.iconst 0, 1) := by decide +kernel
theorem dL_law_162 : decode cL_law 162 = .ok (.ireturn, 1) := by decide +kernel
theorem dL_law_163 : decode cL_law 163 = .ok (.aload_n 1, 1) := by decide +kernel
theorem dL_law_164 : decode cL_law 164 = .ok (.aload_n 0, 1) := by decide +kernel
theorem dL_law_165 : decode cL_law 165 = .ok (.iload_n 3, 1) := by decide +kernel
theorem dL_law_166 : decode cL_law 166 = .ok (.iconst 1, 1) := by decide +kernel
theorem dL_law_167 : decode cL_law 167 = .ok (.iadd, 1) := by decide +kernel
theorem dL_law_168 : decode cL_law 168 = .ok (.iaload, 1) := by decide +kernel
theorem dL_law_169 : decode cL_law 169 = .ok (.aload_n 0, 1) := by decide +kernel
theorem dL_law_170 : decode cL_law 170 = .ok (.iload_n 3, 1) := by decide +kernel
theorem dL_law_171 : decode cL_law 171 = .ok (.iconst 2, 1) := by decide +kernel
theorem dL_law_172 : decode cL_law 172 = .ok (.iadd, 1) := by decide +kernel
theorem dL_law_173 : decode cL_law 173 = .ok (.iaload, 1) := by decide +kernel
theorem dL_law_174 : decode cL_law 174 = .ok (.invokevirtual 18, 3) := by decide +kernel
theorem dL_law_177 : decode cL_law 177 = .ok (.aload_n 2, 1) := by decide +kernel
theorem dL_law_178 : decode cL_law 178 = .ok (.aload_n 0, 1) := by decide +kernel
theorem dL_law_179 : decode cL_law 179 = .ok (.iload_n 3, 1) := by decide +kernel
theorem dL_law_180 : decode cL_law 180 = .ok (.iconst 1, 1) := by decide +kernel
theorem dL_law_181 : decode cL_law 181 = .ok (.iadd, 1) := by decide +kernel
theorem dL_law_182 : decode cL_law 182 = .ok (.iaload, 1) := by decide +kernel
theorem dL_law_183 : decode cL_law 183 = .ok (.aload_n 0, 1) := by decide +kernel
theorem dL_law_184 : decode cL_law 184 = .ok (.iload_n 3, 1) := by decide +kernel
theorem dL_law_185 : decode cL_law 185 = .ok (.iconst 2, 1) := by decide +kernel
theorem dL_law_186 : decode cL_law 186 = .ok (.iadd, 1) := by decide +kernel
theorem dL_law_187 : decode cL_law 187 = .ok (.iaload, 1) := by decide +kernel
theorem dL_law_188 : decode cL_law 188 = .ok (.invokevirtual 22, 3) := by decide +kernel
theorem dL_law_191 : decode cL_law 191 = .ok (.if_icmp .eq 578, 3) := by decide +kernel
theorem dL_law_194 : decode cL_law 194 = .ok (.iconst 0, 1) := by decide +kernel
theorem dL_law_195 : decode cL_law 195 = .ok (.ireturn, 1) := by decide +kernel
theorem dL_law_196 : decode cL_law 196 = .ok (.aload_n 1, 1) := by decide +kernel
theorem dL_law_197 : decode cL_law 197 = .ok (.aload_n 0, 1) := by decide +kernel
theorem dL_law_198 : decode cL_law 198 = .ok (.iload_n 3, 1) := by decide +kernel
theorem dL_law_199 : decode cL_law 199 = .ok (.iconst 1, 1) := by decide +kernel
theorem dL_law_200 : decode cL_law 200 = .ok (.iadd, 1) := by decide +kernel
theorem dL_law_201 : decode cL_law 201 = .ok (.iaload, 1) := by decide +kernel
theorem dL_law_202 : decode cL_law 202 = .ok (.aload_n 0, 1) := by decide +kernel
theorem dL_law_203 : decode cL_law 203 = .ok (.iload_n 3, 1) := by decide +kernel
theorem dL_law_204 : decode cL_law 204 = .ok (.iconst 2, 1) := by decide +kernel
