theorem dX10_letters_26 : decode cX10_letters 26 = .ok (.bipush 80, 2) := by decide +kernel
theorem dX10_letters_28 : decode cX10_letters 28 = .ok (.invokestatic 123, 3) := by decide +kernel
theorem dX10_letters_31 : decode cX10_letters 31 = .ok (.ifCond .ne 5, 3) := by decide +kernel
theorem dX10_letters_34 : decode cX10_letters 34 = .ok (.iconst (-1), 1) := by decide +kernel
theorem dX10_letters_35 : decode cX10_letters 35 = .ok (.ireturn, 1) := by decide +kernel
theorem dX10_letters_36 : decode cX10_letters 36 = .ok (.aload_n 0, 1) := by decide +kernel
theorem dX10_letters_37 : decode cX10_letters 37 = .ok (.getfield 41, 3) := by decide +kernel
theorem dX10_letters_40 : decode cX10_letters 40 = .ok (.iload_n 2, 1) := by decide +kernel
theorem dX10_letters_41 : decode cX10_letters 41 = .ok (.iaload, 1) := by decide +kernel
theorem dX10_letters_42 : decode cX10_letters 42 = .ok (.ifCond .ge 6, 3) := by decide +kernel
theorem dX10_letters_45 : decode cX10_letters 45 = .ok (.bipush (-11), 2) := by decide +kernel
theorem dX10_letters_47 : decode cX10_letters 47 = .ok (.ireturn, 1) := by decide +kernel
theorem dX10_letters_48 : decode cX10_letters 48 = .ok (.aload_n 0, 1) := by decide +kernel
theorem dX10_letters_49 : decode cX10_letters 49 = .ok (.getfield 41, 3) := by decide +kernel
theorem dX10_letters_52 : decode cX10_letters 52 = .ok (.iload_n 2, 1) := by decide +kernel
theorem dX10_letters_53 : decode cX10_letters 53 = .ok (.iaload, 1) := by decide +kernel
theorem dX10_letters_54 : decode cX10_letters 54 = .ok (.iload_n 3, 1) := by decide +kernel
theorem dX10_letters_55 : decode cX10_letters 55 = .ok (.if_icmp .eq 6, 3) := by decide +kernel
theorem dX10_letters_58 : decode cX10_letters 58 = .ok (.bipush (-12), 2) := by decide +kernel
theorem dX10_letters_60 : decode cX10_letters 60 = .ok (.ireturn, 1) := by decide +kernel
theorem dX10_letters_61 : decode cX10_letters 61 = .ok (.aload_n 0, 1) := by decide +kernel
theorem dX10_letters_62 : decode cX10_letters 62 = .ok (.iload_n 2, 1) := by decide +kernel
theorem dX10_letters_63 : decode cX10_letters 63 = .ok (.iload 4, 2) := by decide +kernel
theorem dX10_letters_65 : decode cX10_letters 65 = .ok (.iconst 2, 1) := by decide +kernel
theorem dX10_letters_66 : decode cX10_letters 66 = .ok (.iload 5, 2) := by decide +kernel
theorem dX10_letters_68 : decode cX10_letters 68 = .ok (.imul, 1) := by decide +kernel
theorem dX10_letters_69 : decode cX10_letters 69 = .ok (.invokevirtual 138, 3) := by decide +kernel
theorem dX10_letters_72 : decode cX10_letters 72 = .ok (.ifCond .ne 6, 3) := by decide +kernel
theorem dX10_letters_75 : decode cX10_letters 75 = .ok (.bipush (-13), 2) := by decide +kernel
theorem dX10_letters_77 : decode cX10_letters 77 = .ok (.ireturn, 1) := by decide +kernel
theorem dX10_letters_78 : decode cX10_letters 78 = .ok (.aload_n 0, 1) := by decide +kernel
theorem dX10_letters_79 : decode cX10_letters 79 = .ok (.getfield 53, 3) := by decide +kernel
theorem dX10_letters_82 : decode cX10_letters 82 = .ok (.iload_n 1, 1) := by decide +kernel
theorem dX10_letters_83 : decode cX10_letters 83 = .ok (.iaload, 1) := by decide +kernel
theorem dX10_letters_84 : decode cX10_letters 84 = .ok (.ifCond .ne 7, 3) := by decide +kernel
theorem dX10_letters_87 : decode cX10_letters 87 = .ok (.iconst 0, 1) := by decide +kernel
theorem dX10_letters_88 : decode cX10_letters 88 = .ok (.goto 21, 3) := by decide +kernel
theorem dX10_letters_91 : decode cX10_letters 91 = .ok (.aload_n 0, 1) := by decide +kernel
theorem dX10_letters_92 : decode cX10_letters 92 = .ok (.getfield 56, 3) := by decide +kernel
theorem dX10_letters_95 : decode cX10_letters 95 = .ok (.bipush 80, 2) := by decide +kernel
theorem dX10_letters_97 : decode cX10_letters 97 = .ok (.iload_n 1, 1) := by decide +kernel
theorem dX10_letters_98 : decode cX10_letters 98 = .ok (.imul, 1) := by decide +kernel
theorem dX10_letters_99 : decode cX10_letters 99 = .ok (.aload_n 0, 1) := by decide +kernel
theorem dX10_letters_100 : decode cX10_letters 100 = .ok (.getfield 53, 3) := by decide +kernel
theorem dX10_letters_103 : decode cX10_letters 103 = .ok (.iload_n 1, 1) := by decide +kernel
theorem dX10_letters_104 : decode cX10_letters 104 = .ok (.iaload, 1) := by decide +kernel
theorem dX10_letters_105 : decode cX10_letters 105 = .ok (.iadd, 1) := by decide +kernel
theorem dX10_letters_106 : decode cX10_letters 106 = .ok (.iconst 1, 1) := by decide +kernel
theorem dX10_letters_107 : decode cX10_letters 107 = .ok (.isub, 1) := by decide +kernel
theorem dX10_letters_108 : decode cX10_letters 108 = .ok (.iaload, 1) := by decide +kernel
theorem dX10_letters_109 : decode cX10_letters 109 = .ok (.istore 6, 2) := by decide +kernel
theorem dX10_letters_111 : decode cX10_letters 111 = .ok (.iconst 0, 1) := by decide +kernel
theorem dX10_letters_112 : decode cX10_letters 112 = .ok (.istore 7, 2) := by decide +kernel
theorem dX10_letters_114 : decode cX10_letters 114 = .ok (.iload 7, 2) := by decide +kernel
theorem dX10_letters_116 : decode cX10_letters 116 = .ok (.iload 5, 2) := by decide +kernel
theorem dX10_letters_118 : decode cX10_letters 118 = .ok (.if_icmp .ge 75, 3) := by decide +kernel
theorem dX10_letters_121 : decode cX10_letters 121 = .ok (.aload_n 0, 1) := by decide +kernel
theorem dX10_letters_122 : decode cX10_letters 122 = .ok (.getfield 47, 3) := by decide +kernel
theorem dX10_letters_125 : decode cX10_letters 125 = .ok (.sipush 160, 3) := by decide +kernel
theorem dX10_letters_128 : decode cX10_letters 128 = .ok (.iload_n 2, 1) := by decide +kernel
theorem dX10_letters_129 : decode cX10_letters 129 = .ok (.imul, 1) := by decide +kernel
theorem dX10_letters_130 : decode cX10_letters 130 = .ok (.iload 4, 2) := by decide +kernel
theorem dX10_letters_132 : decode cX10_letters 132 = .ok (.iadd, 1) := by decide +kernel
theorem dX10_letters_133 : decode cX10_letters 133 = .ok (.iconst 2, 1) := by decide +kernel
theorem dX10_letters_134 : decode cX10_letters 134 = .ok (.iload 7, 2) := by decide +kernel
theorem dX10_letters_136 : decode cX10_letters 136 = .ok (.imul, 1) := by decide +kernel
theorem dX10_letters_137 : decode cX10_letters 137 = .ok (.iadd, 1) := by decide +kernel
theorem dX10_letters_138 : decode cX10_letters 138 = .ok (.iaload, 1) := by decide +kernel
theorem dX10_letters_139 : decode cX10_letters 139 = .ok (.istore 8, 2) := by decide +kernel
theorem dX10_letters_141 : decode cX10_letters 141 = .ok (.iload 8, 2) := by decide +kernel
theorem dX10_letters_143 : decode cX10_letters 143 = .ok (.iload 6, 2) := by decide +kernel
theorem dX10_letters_145 : decode cX10_letters 145 = .ok (.bipush 39, 2) := by decide +kernel
theorem dX10_letters_147 : decode cX10_letters 147 = .ok (.invokestatic 123, 3) := by decide +kernel
theorem dX10_letters_150 : decode cX10_letters 150 = .ok (.ifCond .eq 30, 3) := by decide +kernel
theorem dX10_letters_153 : decode cX10_letters 153 = .ok (.aload_n 0, 1) := by decide +kernel
theorem dX10_letters_154 : decode cX10_letters 154 = .ok (.aload_n 0, 1) := by decide +kernel
theorem dX10_letters_155 : decode cX10_letters 155 = .ok (.getfield 47, 3) := by decide +kernel
theorem dX10_letters_158 : decode cX10_letters 158 = .ok (.sipush 160, 3) := by decide +kernel
theorem dX10_letters_161 : decode cX10_letters 161 = .ok (.iload_n 2, 1) := by decide +kernel
theorem dX10_letters_162 : decode cX10_letters 162 = .ok (.imul, 1) := by decide +kernel
theorem dX10_letters_163 : decode cX10_letters 163 = .ok (.iload 4, 2) := by decide +kernel
theorem dX10_letters_165 : decode cX10_letters 165 = .ok (.iadd, 1) := by decide +kernel
theorem dX10_letters_166 : decode cX10_letters 166 = .ok (.iconst 2, 1) := by decide +kernel
theorem dX10_letters_167 : decode cX10_letters 167 = .ok (.iload 7, 2) := by decide +kernel
theorem dX10_letters_169 : decode cX10_letters 169 = .ok (.imul, 1) := by decide +kernel
theorem dX10_letters_170 : decode cX10_letters 170 = .ok (.iadd, 1) := by decide +kernel
theorem dX10_letters_171 : decode cX10_letters 171 = .ok (.iconst 1, 1) := by decide +kernel
theorem dX10_letters_172 : decode cX10_letters 172 = .ok (.iadd, 1) := by decide +kernel
theorem dX10_letters_173 : decode cX10_letters 173 = .ok (.iaload, 1) := by decide +kernel
theorem dX10_letters_174 : decode cX10_letters 174 = .ok (.invokevirtual 131, 3) := by decide +kernel
theorem dX10_letters_177 : decode cX10_letters 177 = .ok (.ifCond .ne 6, 3) := by decide +kernel
theorem dX10_letters_180 : decode cX10_letters 180 = .ok (.bipush (-2), 2) := by decide +kernel
theorem dX10_letters_182 : decode cX10_letters 182 = .ok (.ireturn, 1) := by decide +kernel
theorem dX10_letters_183 : decode cX10_letters 183 = .ok (.iload 8, 2) := by decide +kernel
theorem dX10_letters_185 : decode cX10_letters 185 = .ok (.istore 6, 2) := by decide +kernel
theorem dX10_letters_187 : decode cX10_letters 187 = .ok (.iinc 7 1, 3) := by decide +kernel
theorem dX10_letters_190 : decode cX10_letters 190 = .ok (.goto (-76), 3) := by decide +kernel
theorem dX10_letters_193 : decode cX10_letters 193 = .ok (.aload_n 0, 1) := by decide +kernel
theorem dX10_letters_194 : decode cX10_letters 194 = .ok (.getfield 53, 3) := by decide +kernel
theorem dX10_letters_197 : decode cX10_letters 197 = .ok (.iload_n 1, 1) := by decide +kernel
theorem dX10_letters_198 : decode cX10_letters 198 = .ok (.iaload, 1) := by decide +kernel
theorem dX10_letters_199 : decode cX10_letters 199 = .ok (.iload 5, 2) := by decide +kernel
theorem dX10_letters_201 : decode cX10_letters 201 = .ok (.iadd, 1) := by decide +kernel
theorem dX10_letters_202 : decode cX10_letters 202 = .ok (.bipush 80, 2) := by decide +kernel
theorem dX10_letters_204 : decode cX10_letters 204 = .ok (.if_icmp .le 6, 3) := by decide +kernel
theorem dX10_letters_207 : decode cX10_letters 207 = .ok (.bipush (-3), 2) := by decide +kernel
theorem dX10_letters_209 : decode cX10_letters 209 = .ok (.ireturn, 1) := by decide +kernel
theorem dX10_letters_210 : decode cX10_letters 210 = .ok (.iconst 0, 1) := by decide +kernel
theorem dX10_letters_211 : decode cX10_letters 211 = .ok (.istore 7, 2) := by decide +kernel
theorem dX10_letters_213 : decode cX10_letters 213 = .ok (.iload 7, 2) := by decide +kernel
theorem dX10_letters_215 : decode cX10_letters 215 = .ok (.iload 5, 2) := by decide +kernel
theorem dX10_letters_217 : decode cX10_letters 217 = .ok (.if_icmp .ge 89, 3) := by decide +kernel
theorem dX10_letters_220 : decode cX10_letters 220 = .ok (.aload_n 0, 1) := by decide +kernel
theorem dX10_letters_221 : decode cX10_letters 221 = .ok (.getfield 56, 3) := by decide +kernel
theorem dX10_letters_224 : decode cX10_letters 224 = .ok (.bipush 80, 2) := by decide +kernel
theorem dX10_letters_226 : decode cX10_letters 226 = .ok (.iload_n 1, 1) := by decide +kernel
theorem dX10_letters_227 : decode cX10_letters 227 = .ok (.imul, 1) := by decide +kernel
theorem dX10_letters_228 : decode cX10_letters 228 = .ok (.aload_n 0, 1) := by decide +kernel
theorem dX10_letters_229 : decode cX10_letters 229 = .ok (.getfield 53, 3) := by decide +kernel
theorem dX10_letters_232 : decode cX10_letters 232 = .ok (.iload_n 1, 1) := by decide +kernel
theorem dX10_letters_233 : decode cX10_letters 233 = .ok (.iaload, 1) := by decide +kernel
theorem dX10_letters_234 : decode cX10_letters 234 = .ok (.iadd, 1) := by decide +kernel
theorem dX10_letters_235 : decode cX10_letters 235 = .ok (.aload_n 0, 1) := by decide +kernel
theorem dX10_letters_236 : decode cX10_letters 236 = .ok (.getfield 47, 3) := by decide +kernel
theorem dX10_letters_239 : decode cX10_letters 239 = .ok (.sipush 160, 3) := by decide +kernel
theorem dX10_letters_242 : decode cX10_letters 242 = .ok (.iload_n 2, 1) := by decide +kernel
theorem dX10_letters_243 : decode cX10_letters 243 = .ok (.imul, 1) := by decide +kernel
theorem dX10_letters_244 : decode cX10_letters 244 = .ok (.iload 4, 2) := by decide +kernel
theorem dX10_letters_246 : decode cX10_letters 246 = .ok (.iadd, 1) := by decide +kernel
theorem dX10_letters_247 : decode cX10_letters 247 = .ok (.iconst 2, 1) := by decide +kernel
theorem dX10_letters_248 : decode cX10_letters 248 = .ok (.iload 7, 2) := by decide +kernel
theorem dX10_letters_250 : decode cX10_letters 250 = .ok (.imul, 1) := by decide +kernel
theorem dX10_letters_251 : decode cX10_letters 251 = .ok (.iadd, 1) := by decide +kernel
theorem dX10_letters_252 : decode cX10_letters 252 = .ok (.iaload, 1) := by decide +kernel
theorem dX10_letters_253 : decode cX10_letters 253 = .ok (.iastore, 1) := by decide +kernel
theorem dX10_letters_254 : decode cX10_letters 254 = .ok (.aload_n 0, 1) := by decide +kernel
theorem dX10_letters_255 : decode cX10_letters 255 = .ok (.getfield 59, 3) := by decide +kernel
theorem dX10_letters_258 : decode cX10_letters 258 = .ok (.bipush 80, 2) := by decide +kernel
theorem dX10_letters_260 : decode cX10_letters 260 = .ok (.iload_n 1, 1) := by decide +kernel
theorem dX10_letters_261 : decode cX10_letters 261 = .ok (.imul, 1) := by decide +kernel
theorem dX10_letters_262 : decode cX10_letters 262 = .ok (.aload_n 0, 1) := by decide +kernel
theorem dX10_letters_263 : decode cX10_letters 263 = .ok (.getfield 53, 3) := by decide +kernel
theorem dX10_letters_266 : decode cX10_letters 266 = .ok (.iload_n 1, 1) := by decide +kernel
theorem dX10_letters_267 : decode cX10_letters 267 = .ok (.iaload, 1) := by decide +kernel
theorem dX10_letters_268 : decode cX10_letters 268 = .ok (.iadd, 1) := by decide +kernel
theorem dX10_letters_269 : decode cX10_letters 269 = .ok (.aload_n 0, 1) := by decide +kernel
theorem dX10_letters_270 : decode cX10_letters 270 = .ok (.getfield 47, 3) := by decide +kernel
theorem dX10_letters_273 : decode cX10_letters 273 = .ok (.sipush 160, 3) := by decide +kernel
theorem dX10_letters_276 : decode cX10_letters 276 = .ok (.iload_n 2, 1) := by decide +kernel
theorem dX10_letters_277 : decode cX10_letters 277 = .ok (.imul, 1) := by decide +kernel
theorem dX10_letters_278 : decode cX10_letters 278 = .ok (.iload 4, 2) := by decide +kernel
theorem dX10_letters_280 : decode cX10_letters 280 = .ok (.iadd, 1) := by decide +kernel
theorem dX10_letters_281 : decode cX10_letters 281 = .ok (.iconst 2, 1) := by decide +kernel
theorem dX10_letters_282 : decode cX10_letters 282 = .ok (.iload 7, 2) := by decide +kernel
theorem dX10_letters_284 : decode cX10_letters 284 = .ok (.imul, 1) := by decide +kernel
theorem dX10_letters_285 : decode cX10_letters 285 = .ok (.iadd, 1) := by decide +kernel
theorem dX10_letters_286 : decode cX10_letters 286 = .ok (.iconst 1, 1) := by decide +kernel
theorem dX10_letters_287 : decode cX10_letters 287 = .ok (.iadd, 1) := by decide +kernel
theorem dX10_letters_288 : decode cX10_letters 288 = .ok (.iaload, 1) := by decide +kernel
theorem dX10_letters_289 : decode cX10_letters 289 = .ok (.iastore, 1) := by decide +kernel
theorem dX10_letters_290 : decode cX10_letters 290 = .ok (.aload_n 0, 1) := by decide +kernel
theorem dX10_letters_291 : decode cX10_letters 291 = .ok (.getfield 53, 3) := by decide +kernel
theorem dX10_letters_294 : decode cX10_letters 294 = .ok (.iload_n 1, 1) := by decide +kernel
theorem dX10_letters_295 : decode cX10_letters 295 = .ok (.dup2, 1) := by decide +kernel
theorem dX10_letters_296 : decode cX10_letters 296 = .ok (.iaload, 1) := by decide +kernel
theorem dX10_letters_297 : decode cX10_letters 297 = .ok (.iconst 1, 1) := by decide +kernel
theorem dX10_letters_298 : decode cX10_letters 298 = .ok (.iadd, 1) := by decide +kernel
theorem dX10_letters_299 : decode cX10_letters 299 = .ok (.iastore, 1) := by decide +kernel
theorem dX10_letters_300 : decode cX10_letters 300 = .ok (.iinc 7 1, 3) := by decide +kernel
theorem dX10_letters_303 : decode cX10_letters 303 = .ok (.goto (-90), 3) := by decide +kernel
theorem dX10_letters_306 : decode cX10_letters 306 = .ok (.aload_n 0, 1) := by decide +kernel
theorem dX10_letters_307 : decode cX10_letters 307 = .ok (.getfield 53, 3) := by decide +kernel
theorem dX10_letters_310 : decode cX10_letters 310 = .ok (.iload_n 1, 1) := by decide +kernel
theorem dX10_letters_311 : decode cX10_letters 311 = .ok (.iaload, 1) := by decide +kernel
theorem dX10_letters_312 : decode cX10_letters 312 = .ok (.ireturn, 1) := by decide +kernel
theorem dX10_clear_0 : decode cX10_clear 0 = .ok (.iload_n 1, 1) := by decide +kernel
theorem dX10_clear_1 : decode cX10_clear 1 = .ok (.invokestatic 141, 3) := by decide +kernel
theorem dX10_clear_4 : decode cX10_clear 4 = .ok (.ifCond .ne 5, 3) := by decide +kernel
theorem dX10_clear_7 : decode cX10_clear 7 = .ok (.iconst (-1), 1) := by decide +kernel
theorem dX10_clear_8 : decode cX10_clear 8 = .ok (.ireturn, 1) := by decide +kernel
theorem dX10_clear_9 : decode cX10_clear 9 = .ok (.aload_n 0, 1) := by decide +kernel
theorem dX10_clear_10 : decode cX10_clear 10 = .ok (.getfield 53, 3) := by decide +kernel
theorem dX10_clear_13 : decode cX10_clear 13 = .ok (.iload_n 1, 1) := by decide +kernel
theorem dX10_clear_14 : decode cX10_clear 14 = .ok (.iaload, 1) := by decide +kernel
theorem dX10_clear_15 : decode cX10_clear 15 = .ok (.istore_n 2, 1) := by decide +kernel
theorem dX10_clear_16 : decode cX10_clear 16 = .ok (.aload_n 0, 1) := by decide +kernel
theorem dX10_clear_17 : decode cX10_clear 17 = .ok (.getfield 53, 3) := by decide +kernel
theorem dX10_clear_20 : decode cX10_clear 20 = .ok (.iload_n 1, 1) := by decide +kernel
theorem dX10_clear_21 : decode cX10_clear 21 = .ok (.iconst 0, 1) := by decide +kernel
theorem dX10_clear_22 : decode cX10_clear 22 = .ok (.iastore, 1) := by decide +kernel
theorem dX10_clear_23 : decode cX10_clear 23 = .ok (.aload_n 0, 1) := by decide +kernel
theorem dX10_clear_24 : decode cX10_clear 24 = .ok (.getfield 62, 3) := by decide +kernel
theorem dX10_clear_27 : decode cX10_clear 27 = .ok (.iload_n 1, 1) := by decide +kernel
theorem dX10_clear_28 : decode cX10_clear 28 = .ok (.iconst 0, 1) := by decide +kernel
theorem dX10_clear_29 : decode cX10_clear 29 = .ok (.bastore, 1) := by decide +kernel
theorem dX10_clear_30 : decode cX10_clear 30 = .ok (.iload_n 2, 1) := by decide +kernel
theorem dX10_clear_31 : decode cX10_clear 31 = .ok (.ireturn, 1) := by decide +kernel
theorem dX10_letter_0 : decode cX10_letter 0 = .ok (.iload_n 1, 1) := by decide +kernel
theorem dX10_letter_1 : decode cX10_letter 1 = .ok (.invokestatic 141, 3) := by decide +kernel
theorem dX10_letter_4 : decode cX10_letter 4 = .ok (.ifCond .ne 5, 3) := by decide +kernel
theorem dX10_letter_7 : decode cX10_letter 7 = .ok (.iconst (-1), 1) := by decide +kernel
theorem dX10_letter_8 : decode cX10_letter 8 = .ok (.ireturn, 1) := by decide +kernel
theorem dX10_letter_9 : decode cX10_letter 9 = .ok (.iload_n 2, 1) := by decide +kernel
theorem dX10_letter_10 : decode cX10_letter 10 = .ok (.iconst (-1), 1) := by decide +kernel
theorem dX10_letter_11 : decode cX10_letter 11 = .ok (.if_icmp .ne 10, 3) := by decide +kernel
theorem dX10_letter_14 : decode cX10_letter 14 = .ok (.aload_n 0, 1) := by decide +kernel
theorem dX10_letter_15 : decode cX10_letter 15 = .ok (.getfield 53, 3) := by decide +kernel
theorem dX10_letter_18 : decode cX10_letter 18 = .ok (.iload_n 1, 1) := by decide +kernel
theorem dX10_letter_19 : decode cX10_letter 19 = .ok (.iaload, 1) := by decide +kernel
theorem dX10_letter_20 : decode cX10_letter 20 = .ok (.ireturn, 1) := by decide +kernel
theorem dX10_letter_21 : decode cX10_letter 21 = .ok (.iload_n 2, 1) := by decide +kernel
theorem dX10_letter_22 : decode cX10_letter 22 = .ok (.iconst 0, 1) := by decide +kernel
theorem dX10_letter_23 : decode cX10_letter 23 = .ok (.aload_n 0, 1) := by decide +kernel
theorem dX10_letter_24 : decode cX10_letter 24 = .ok (.getfield 53, 3) := by decide +kernel
theorem dX10_letter_27 : decode cX10_letter 27 = .ok (.iload_n 1, 1) := by decide +kernel
theorem dX10_letter_28 : decode cX10_letter 28 = .ok (.iaload, 1) := by decide +kernel
theorem dX10_letter_29 : decode cX10_letter 29 = .ok (.iconst 1, 1) := by decide +kernel
theorem dX10_letter_30 : decode cX10_letter 30 = .ok (.isub, 1) := by decide +kernel
theorem dX10_letter_31 : decode cX10_letter 31 = .ok (.invokestatic 123, 3) := by decide +kernel
theorem dX10_letter_34 : decode cX10_letter 34 = .ok (.ifCond .eq 12, 3) := by decide +kernel
theorem dX10_letter_37 : decode cX10_letter 37 = .ok (.iload_n 3, 1) := by decide +kernel
theorem dX10_letter_38 : decode cX10_letter 38 = .ok (.iconst 0, 1) := by decide +kernel
theorem dX10_letter_39 : decode cX10_letter 39 = .ok (.iconst 1, 1) := by decide +kernel
theorem dX10_letter_40 : decode cX10_letter 40 = .ok (.invokestatic 123, 3) := by decide +kernel
theorem dX10_letter_43 : decode cX10_letter 43 = .ok (.ifCond .ne 5, 3) := by decide +kernel
theorem dX10_letter_46 : decode cX10_letter 46 = .ok (.iconst (-1), 1) := by decide +kernel
theorem dX10_letter_47 : decode cX10_letter 47 = .ok (.ireturn, 1) := by decide +kernel
theorem dX10_letter_48 : decode cX10_letter 48 = .ok (.iload_n 3, 1) := by decide +kernel
theorem dX10_letter_49 : decode cX10_letter 49 = .ok (.ifCond .ne 17, 3) := by decide +kernel
theorem dX10_letter_52 : decode cX10_letter 52 = .ok (.aload_n 0, 1) := by decide +kernel
theorem dX10_letter_53 : decode cX10_letter 53 = .ok (.getfield 56, 3) := by decide +kernel
theorem dX10_letter_56 : decode cX10_letter 56 = .ok (.bipush 80, 2) := by decide +kernel
theorem dX10_letter_58 : decode cX10_letter 58 = .ok (.iload_n 1, 1) := by decide +kernel
theorem dX10_letter_59 : decode cX10_letter 59 = .ok (.imul, 1) := by decide +kernel
theorem dX10_letter_60 : decode cX10_letter 60 = .ok (.iload_n 2, 1) := by decide +kernel
theorem dX10_letter_61 : decode cX10_letter 61 = .ok (.iadd, 1) := by decide +kernel
theorem dX10_letter_62 : decode cX10_letter 62 = .ok (.iaload, 1) := by decide +kernel
theorem dX10_letter_63 : decode cX10_letter 63 = .ok (.goto 14, 3) := by decide +kernel
theorem dX10_letter_66 : decode cX10_letter 66 = .ok (.aload_n 0, 1) := by decide +kernel
theorem dX10_letter_67 : decode cX10_letter 67 = .ok (.getfield 59, 3) := by decide +kernel
theorem dX10_letter_70 : decode cX10_letter 70 = .ok (.bipush 80, 2) := by decide +kernel
theorem dX10_letter_72 : decode cX10_letter 72 = .ok (.iload_n 1, 1) := by decide +kernel
theorem dX10_letter_73 : decode cX10_letter 73 = .ok (.imul, 1) := by decide +kernel
theorem dX10_letter_74 : decode cX10_letter 74 = .ok (.iload_n 2, 1) := by decide +kernel
theorem dX10_letter_75 : decode cX10_letter 75 = .ok (.iadd, 1) := by decide +kernel
theorem dX10_letter_76 : decode cX10_letter 76 = .ok (.iaload, 1) := by decide +kernel
theorem dX10_letter_77 : decode cX10_letter 77 = .ok (.ireturn, 1) := by decide +kernel
theorem dX10_isHeld_0 : decode cX10_isHeld 0 = .ok (.aload_n 0, 1) := by decide +kernel
theorem dX10_isHeld_1 : decode cX10_isHeld 1 = .ok (.getfield 16, 3) := by decide +kernel
theorem dX10_isHeld_4 : decode cX10_isHeld 4 = .ok (.iload_n 1, 1) := by decide +kernel
theorem dX10_isHeld_5 : decode cX10_isHeld 5 = .ok (.iaload, 1) := by decide +kernel
theorem dX10_isHeld_6 : decode cX10_isHeld 6 = .ok (.iconst 2, 1) := by decide +kernel
theorem dX10_isHeld_7 : decode cX10_isHeld 7 = .ok (.if_icmp .ne 14, 3) := by decide +kernel
theorem dX10_isHeld_10 : decode cX10_isHeld 10 = .ok (.aload_n 0, 1) := by decide +kernel
theorem dX10_isHeld_11 : decode cX10_isHeld 11 = .ok (.getfield 144, 3) := by decide +kernel
theorem dX10_isHeld_14 : decode cX10_isHeld 14 = .ok (.ifCond .ne 7, 3) := by decide +kernel
theorem dX10_isHeld_17 : decode cX10_isHeld 17 = .ok (.iconst 1, 1) := by decide +kernel
theorem dX10_isHeld_18 : decode cX10_isHeld 18 = .ok (.goto 4, 3) := by decide +kernel
theorem dX10_isHeld_21 : decode cX10_isHeld 21 = .ok (.iconst 0, 1) := by decide +kernel
theorem dX10_isHeld_22 : decode cX10_isHeld 22 = .ok (.ireturn, 1) := by decide +kernel
theorem dX10_all_0 : decode cX10_all 0 = .ok (.aload_n 0, 1) := by decide +kernel
theorem dX10_all_1 : decode cX10_all 1 = .ok (.getfield 69, 3) := by decide +kernel
theorem dX10_all_4 : decode cX10_all 4 = .ok (.iconst 0, 1) := by decide +kernel
theorem dX10_all_5 : decode cX10_all 5 = .ok (.iaload, 1) := by decide +kernel
theorem dX10_all_6 : decode cX10_all 6 = .ok (.aload_n 0, 1) := by decide +kernel
theorem dX10_all_7 : decode cX10_all 7 = .ok (.getfield 69, 3) := by decide +kernel
theorem dX10_all_10 : decode cX10_all 10 = .ok (.iconst 1, 1) := by decide +kernel
theorem dX10_all_11 : decode cX10_all 11 = .ok (.iaload, 1) := by decide +kernel
theorem dX10_all_12 : decode cX10_all 12 = .ok (.iadd, 1) := by decide +kernel
theorem dX10_all_13 : decode cX10_all 13 = .ok (.aload_n 0, 1) := by decide +kernel
theorem dX10_all_14 : decode cX10_all 14 = .ok (.getfield 69, 3) := by decide +kernel
theorem dX10_all_17 : decode cX10_all 17 = .ok (.iconst 2, 1) := by decide +kernel
theorem dX10_all_18 : decode cX10_all 18 = .ok (.iaload, 1) := by decide +kernel
theorem dX10_all_19 : decode cX10_all 19 = .ok (.iadd, 1) := by decide +kernel
theorem dX10_all_20 : decode cX10_all 20 = .ok (.aload_n 0, 1) := by decide +kernel
theorem dX10_all_21 : decode cX10_all 21 = .ok (.getfield 69, 3) := by decide +kernel
theorem dX10_all_24 : decode cX10_all 24 = .ok (.iconst 3, 1) := by decide +kernel
theorem dX10_all_25 : decode cX10_all 25 = .ok (.iaload, 1) := by decide +kernel
theorem dX10_all_26 : decode cX10_all 26 = .ok (.iadd, 1) := by decide +kernel
theorem dX10_all_27 : decode cX10_all 27 = .ok (.ireturn, 1) := by decide +kernel
theorem dX10_ends_0 : decode cX10_ends 0 = .ok (.aload_n 0, 1) := by decide +kernel
theorem dX10_ends_1 : decode cX10_ends 1 = .ok (.getfield 84, 3) := by decide +kernel
theorem dX10_ends_4 : decode cX10_ends 4 = .ok (.iload_n 1, 1) := by decide +kernel
theorem dX10_ends_5 : decode cX10_ends 5 = .ok (.iload_n 2, 1) := by decide +kernel
theorem dX10_ends_6 : decode cX10_ends 6 = .ok (.iastore, 1) := by decide +kernel
theorem dX10_ends_7 : decode cX10_ends 7 = .ok (.aload_n 0, 1) := by decide +kernel
theorem dX10_ends_8 : decode cX10_ends 8 = .ok (.getfield 87, 3) := by decide +kernel
theorem dX10_ends_11 : decode cX10_ends 11 = .ok (.iload_n 1, 1) := by decide +kernel
theorem dX10_ends_12 : decode cX10_ends 12 = .ok (.aload_n 0, 1) := by decide +kernel
theorem dX10_ends_13 : decode cX10_ends 13 = .ok (.getfield 148, 3) := by decide +kernel
theorem dX10_ends_16 : decode cX10_ends 16 = .ok (.iastore, 1) := by decide +kernel
theorem dX10_ends_17 : decode cX10_ends 17 = .ok (.return_, 1) := by decide +kernel
theorem dX10_counted_0 : decode cX10_counted 0 = .ok (.iconst 0, 1) := by decide +kernel
theorem dX10_counted_1 : decode cX10_counted 1 = .ok (.istore_n 1, 1) := by decide +kernel
theorem dX10_counted_2 : decode cX10_counted 2 = .ok (.iconst 0, 1) := by decide +kernel
theorem dX10_counted_3 : decode cX10_counted 3 = .ok (.istore_n 2, 1) := by decide +kernel
theorem dX10_counted_4 : decode cX10_counted 4 = .ok (.iload_n 2, 1) := by decide +kernel
theorem dX10_counted_5 : decode cX10_counted 5 = .ok (.aload_n 0, 1) := by decide +kernel
theorem dX10_counted_6 : decode cX10_counted 6 = .ok (.getfield 13, 3) := by decide +kernel
theorem dX10_counted_9 : decode cX10_counted 9 = .ok (.if_icmp .ge 61, 3) := by decide +kernel
theorem dX10_counted_12 : decode cX10_counted 12 = .ok (.aload_n 0, 1) := by decide +kernel
theorem dX10_counted_13 : decode cX10_counted 13 = .ok (.getfield 16, 3) := by decide +kernel
theorem dX10_counted_16 : decode cX10_counted 16 = .ok (.iload_n 2, 1) := by decide +kernel
theorem dX10_counted_17 : decode cX10_counted 17 = .ok (.iaload, 1) := by decide +kernel
theorem dX10_counted_18 : decode cX10_counted 18 = .ok (.ifCond .le 22, 3) := by decide +kernel
theorem dX10_counted_21 : decode cX10_counted 21 = .ok (.aload_n 0, 1) := by decide +kernel
theorem dX10_counted_22 : decode cX10_counted 22 = .ok (.getfield 26, 3) := by decide +kernel
theorem dX10_counted_25 : decode cX10_counted 25 = .ok (.iload_n 2, 1) := by decide +kernel
theorem dX10_counted_26 : decode cX10_counted 26 = .ok (.iaload, 1) := by decide +kernel
theorem dX10_counted_27 : decode cX10_counted 27 = .ok (.aload_n 0, 1) := by decide +kernel
theorem dX10_counted_28 : decode cX10_counted 28 = .ok (.getfield 69, 3) := by decide +kernel
theorem dX10_counted_31 : decode cX10_counted 31 = .ok (.iload_n 2, 1) := by decide +kernel
theorem dX10_counted_32 : decode cX10_counted 32 = .ok (.iaload, 1) := by decide +kernel
theorem dX10_counted_33 : decode cX10_counted 33 = .ok (.if_icmp .le 7, 3) := by decide +kernel
theorem dX10_counted_36 : decode cX10_counted 36 = .ok (.iconst 1, 1) := by decide +kernel
theorem dX10_counted_37 : decode cX10_counted 37 = .ok (.goto 4, 3) := by decide +kernel
theorem dX10_counted_40 : decode cX10_counted 40 = .ok (.iconst 0, 1) := by decide +kernel
theorem dX10_counted_41 : decode cX10_counted 41 = .ok (.istore_n 3, 1) := by decide +kernel
theorem dX10_counted_42 : decode cX10_counted 42 = .ok (.iload_n 1, 1) := by decide +kernel
theorem dX10_counted_43 : decode cX10_counted 43 = .ok (.iload_n 3, 1) := by decide +kernel
theorem dX10_counted_44 : decode cX10_counted 44 = .ok (.ifCond .eq 12, 3) := by decide +kernel
theorem dX10_counted_47 : decode cX10_counted 47 = .ok (.aload_n 0, 1) := by decide +kernel
theorem dX10_counted_48 : decode cX10_counted 48 = .ok (.getfield 26, 3) := by decide +kernel
theorem dX10_counted_51 : decode cX10_counted 51 = .ok (.iload_n 2, 1) := by decide +kernel
theorem dX10_counted_52 : decode cX10_counted 52 = .ok (.iaload, 1) := by decide +kernel
theorem dX10_counted_53 : decode cX10_counted 53 = .ok (.goto 9, 3) := by decide +kernel
theorem dX10_counted_56 : decode cX10_counted 56 = .ok (.aload_n 0, 1) := by decide +kernel
theorem dX10_counted_57 : decode cX10_counted 57 = .ok (.getfield 69, 3) := by decide +kernel
theorem dX10_counted_60 : decode cX10_counted 60 = .ok (.iload_n 2, 1) := by decide +kernel
theorem dX10_counted_61 : decode cX10_counted 61 = .ok (.iaload, 1) := by decide +kernel
theorem dX10_counted_62 : decode cX10_counted 62 = .ok (.iadd, 1) := by decide +kernel
theorem dX10_counted_63 : decode cX10_counted 63 = .ok (.istore_n 1, 1) := by decide +kernel
theorem dX10_counted_64 : decode cX10_counted 64 = .ok (.iinc 2 1, 3) := by decide +kernel
theorem dX10_counted_67 : decode cX10_counted 67 = .ok (.goto (-63), 3) := by decide +kernel
theorem dX10_counted_70 : decode cX10_counted 70 = .ok (.iload_n 1, 1) := by decide +kernel
theorem dX10_counted_71 : decode cX10_counted 71 = .ok (.ireturn, 1) := by decide +kernel
theorem dX10_longest_0 : decode cX10_longest 0 = .ok (.iconst 0, 1) := by decide +kernel
theorem dX10_longest_1 : decode cX10_longest 1 = .ok (.istore_n 1, 1) := by decide +kernel
theorem dX10_longest_2 : decode cX10_longest 2 = .ok (.iconst 1, 1) := by decide +kernel
theorem dX10_longest_3 : decode cX10_longest 3 = .ok (.istore_n 2, 1) := by decide +kernel
theorem dX10_longest_4 : decode cX10_longest 4 = .ok (.iload_n 2, 1) := by decide +kernel
theorem dX10_longest_5 : decode cX10_longest 5 = .ok (.aload_n 0, 1) := by decide +kernel
theorem dX10_longest_6 : decode cX10_longest 6 = .ok (.getfield 13, 3) := by decide +kernel
theorem dX10_longest_9 : decode cX10_longest 9 = .ok (.if_icmp .ge 30, 3) := by decide +kernel
theorem dX10_longest_12 : decode cX10_longest 12 = .ok (.aload_n 0, 1) := by decide +kernel
theorem dX10_longest_13 : decode cX10_longest 13 = .ok (.getfield 69, 3) := by decide +kernel
theorem dX10_longest_16 : decode cX10_longest 16 = .ok (.iload_n 2, 1) := by decide +kernel
theorem dX10_longest_17 : decode cX10_longest 17 = .ok (.iaload, 1) := by decide +kernel
theorem dX10_longest_18 : decode cX10_longest 18 = .ok (.aload_n 0, 1) := by decide +kernel
theorem dX10_longest_19 : decode cX10_longest 19 = .ok (.getfield 69, 3) := by decide +kernel
theorem dX10_longest_22 : decode cX10_longest 22 = .ok (.iload_n 1, 1) := by decide +kernel
theorem dX10_longest_23 : decode cX10_longest 23 = .ok (.iaload, 1) := by decide +kernel
theorem dX10_longest_24 : decode cX10_longest 24 = .ok (.if_icmp .lt 7, 3) := by decide +kernel
theorem dX10_longest_27 : decode cX10_longest 27 = .ok (.iload_n 2, 1) := by decide +kernel
theorem dX10_longest_28 : decode cX10_longest 28 = .ok (.goto 4, 3) := by decide +kernel
theorem dX10_longest_31 : decode cX10_longest 31 = .ok (.iload_n 1, 1) := by decide +kernel
theorem dX10_longest_32 : decode cX10_longest 32 = .ok (.istore_n 1, 1) := by decide +kernel
theorem dX10_longest_33 : decode cX10_longest 33 = .ok (.iinc 2 1, 3) := by decide +kernel
theorem dX10_longest_36 : decode cX10_longest 36 = .ok (.goto (-32), 3) := by decide +kernel
theorem dX10_longest_39 : decode cX10_longest 39 = .ok (.iload_n 1, 1) := by decide +kernel
theorem dX10_longest_40 : decode cX10_longest 40 = .ok (.ireturn, 1) := by decide +kernel
theorem dX10_takes_0 : decode cX10_takes 0 = .ok (.aload_n 0, 1) := by decide +kernel
theorem dX10_takes_1 : decode cX10_takes 1 = .ok (.getfield 69, 3) := by decide +kernel
theorem dX10_takes_4 : decode cX10_takes 4 = .ok (.iload_n 2, 1) := by decide +kernel
theorem dX10_takes_5 : decode cX10_takes 5 = .ok (.iaload, 1) := by decide +kernel
theorem dX10_takes_6 : decode cX10_takes 6 = .ok (.istore_n 3, 1) := by decide +kernel
theorem dX10_takes_7 : decode cX10_takes 7 = .ok (.aload_n 0, 1) := by decide +kernel
theorem dX10_takes_8 : decode cX10_takes 8 = .ok (.getfield 7, 3) := by decide +kernel
theorem dX10_takes_11 : decode cX10_takes 11 = .ok (.aload_n 0, 1) := by decide +kernel
theorem dX10_takes_12 : decode cX10_takes 12 = .ok (.invokevirtual 151, 3) := by decide +kernel
theorem dX10_takes_15 : decode cX10_takes 15 = .ok (.isub, 1) := by decide +kernel
theorem dX10_takes_16 : decode cX10_takes 16 = .ok (.istore 4, 2) := by decide +kernel
theorem dX10_takes_18 : decode cX10_takes 18 = .ok (.aload_n 0, 1) := by decide +kernel
theorem dX10_takes_19 : decode cX10_takes 19 = .ok (.getfield 154, 3) := by decide +kernel
theorem dX10_takes_22 : decode cX10_takes 22 = .ok (.ifCond .ne 24, 3) := by decide +kernel
theorem dX10_takes_25 : decode cX10_takes 25 = .ok (.iload_n 3, 1) := by decide +kernel
theorem dX10_takes_26 : decode cX10_takes 26 = .ok (.aload_n 0, 1) := by decide +kernel
theorem dX10_takes_27 : decode cX10_takes 27 = .ok (.getfield 20, 3) := by decide +kernel
theorem dX10_takes_30 : decode cX10_takes 30 = .ok (.iload_n 2, 1) := by decide +kernel
theorem dX10_takes_31 : decode cX10_takes 31 = .ok (.iaload, 1) := by decide +kernel
theorem dX10_takes_32 : decode cX10_takes 32 = .ok (.if_icmp .ge 12, 3) := by decide +kernel
theorem dX10_takes_35 : decode cX10_takes 35 = .ok (.iload 4, 2) := by decide +kernel
theorem dX10_takes_37 : decode cX10_takes 37 = .ok (.ifCond .le 7, 3) := by decide +kernel
theorem dX10_takes_40 : decode cX10_takes 40 = .ok (.iconst 1, 1) := by decide +kernel
theorem dX10_takes_41 : decode cX10_takes 41 = .ok (.goto 4, 3) := by decide +kernel
theorem dX10_takes_44 : decode cX10_takes 44 = .ok (.iconst 0, 1) := by decide +kernel
theorem dX10_takes_45 : decode cX10_takes 45 = .ok (.ireturn, 1) := by decide +kernel
theorem dX10_takes_46 : decode cX10_takes 46 = .ok (.aload_n 0, 1) := by decide +kernel
theorem dX10_takes_47 : decode cX10_takes 47 = .ok (.getfield 154, 3) := by decide +kernel
theorem dX10_takes_50 : decode cX10_takes 50 = .ok (.iconst 1, 1) := by decide +kernel
theorem dX10_takes_51 : decode cX10_takes 51 = .ok (.if_icmp .ne 28, 3) := by decide +kernel
theorem dX10_takes_54 : decode cX10_takes 54 = .ok (.bipush 16, 2) := by decide +kernel
theorem dX10_takes_56 : decode cX10_takes 56 = .ok (.iload_n 3, 1) := by decide +kernel
theorem dX10_takes_57 : decode cX10_takes 57 = .ok (.imul, 1) := by decide +kernel
theorem dX10_takes_58 : decode cX10_takes 58 = .ok (.aload_n 0, 1) := by decide +kernel
theorem dX10_takes_59 : decode cX10_takes 59 = .ok (.getfield 157, 3) := by decide +kernel
theorem dX10_takes_62 : decode cX10_takes 62 = .ok (.iload 4, 2) := by decide +kernel
theorem dX10_takes_64 : decode cX10_takes 64 = .ok (.imul, 1) := by decide +kernel
theorem dX10_takes_65 : decode cX10_takes 65 = .ok (.if_icmp .ge 12, 3) := by decide +kernel
theorem dX10_takes_68 : decode cX10_takes 68 = .ok (.iload 4, 2) := by decide +kernel
theorem dX10_takes_70 : decode cX10_takes 70 = .ok (.ifCond .le 7, 3) := by decide +kernel
theorem dX10_takes_73 : decode cX10_takes 73 = .ok (.iconst 1, 1) := by decide +kernel
theorem dX10_takes_74 : decode cX10_takes 74 = .ok (.goto 4, 3) := by decide +kernel
theorem dX10_takes_77 : decode cX10_takes 77 = .ok (.iconst 0, 1) := by decide +kernel
theorem dX10_takes_78 : decode cX10_takes 78 = .ok (.ireturn, 1) := by decide +kernel
theorem dX10_takes_79 : decode cX10_takes 79 = .ok (.aload_n 0, 1) := by decide +kernel
theorem dX10_takes_80 : decode cX10_takes 80 = .ok (.getfield 154, 3) := by decide +kernel
theorem dX10_takes_83 : decode cX10_takes 83 = .ok (.iconst 3, 1) := by decide +kernel
theorem dX10_takes_84 : decode cX10_takes 84 = .ok (.if_icmp .ne 39, 3) := by decide +kernel
theorem dX10_takes_87 : decode cX10_takes 87 = .ok (.aload_n 0, 1) := by decide +kernel
theorem dX10_takes_88 : decode cX10_takes 88 = .ok (.getfield 16, 3) := by decide +kernel
theorem dX10_takes_91 : decode cX10_takes 91 = .ok (.iload_n 2, 1) := by decide +kernel
theorem dX10_takes_92 : decode cX10_takes 92 = .ok (.iaload, 1) := by decide +kernel
theorem dX10_takes_93 : decode cX10_takes 93 = .ok (.ifCond .le 13, 3) := by decide +kernel
theorem dX10_takes_96 : decode cX10_takes 96 = .ok (.iload_n 3, 1) := by decide +kernel
theorem dX10_takes_97 : decode cX10_takes 97 = .ok (.aload_n 0, 1) := by decide +kernel
theorem dX10_takes_98 : decode cX10_takes 98 = .ok (.getfield 26, 3) := by decide +kernel
theorem dX10_takes_101 : decode cX10_takes 101 = .ok (.iload_n 2, 1) := by decide +kernel
theorem dX10_takes_102 : decode cX10_takes 102 = .ok (.iaload, 1) := by decide +kernel
theorem dX10_takes_103 : decode cX10_takes 103 = .ok (.if_icmp .lt 14, 3) := by decide +kernel
theorem dX10_takes_106 : decode cX10_takes 106 = .ok (.aload_n 0, 1) := by decide +kernel
theorem dX10_takes_107 : decode cX10_takes 107 = .ok (.invokevirtual 160, 3) := by decide +kernel
theorem dX10_takes_110 : decode cX10_takes 110 = .ok (.aload_n 0, 1) := by decide +kernel
theorem dX10_takes_111 : decode cX10_takes 111 = .ok (.getfield 7, 3) := by decide +kernel
theorem dX10_takes_114 : decode cX10_takes 114 = .ok (.if_icmp .ge 7, 3) := by decide +kernel
theorem dX10_takes_117 : decode cX10_takes 117 = .ok (.iconst 1, 1) := by decide +kernel
theorem dX10_takes_118 : decode cX10_takes 118 = .ok (.goto 4, 3) := by decide +kernel
theorem dX10_takes_121 : decode cX10_takes 121 = .ok (.iconst 0, 1) := by decide +kernel
theorem dX10_takes_122 : decode cX10_takes 122 = .ok (.ireturn, 1) := by decide +kernel
theorem dX10_takes_123 : decode cX10_takes 123 = .ok (.iload 4, 2) := by decide +kernel
theorem dX10_takes_125 : decode cX10_takes 125 = .ok (.ifCond .le 5, 3) := by decide +kernel
theorem dX10_takes_128 : decode cX10_takes 128 = .ok (.iconst 1, 1) := by decide +kernel
theorem dX10_takes_129 : decode cX10_takes 129 = .ok (.ireturn, 1) := by decide +kernel
theorem dX10_takes_130 : decode cX10_takes 130 = .ok (.aload_n 0, 1) := by decide +kernel
theorem dX10_takes_131 : decode cX10_takes 131 = .ok (.invokevirtual 163, 3) := by decide +kernel
theorem dX10_takes_134 : decode cX10_takes 134 = .ok (.istore 5, 2) := by decide +kernel
theorem dX10_takes_136 : decode cX10_takes 136 = .ok (.aload_n 0, 1) := by decide +kernel
theorem dX10_takes_137 : decode cX10_takes 137 = .ok (.getfield 69, 3) := by decide +kernel
theorem dX10_takes_140 : decode cX10_takes 140 = .ok (.iload 5, 2) := by decide +kernel
theorem dX10_takes_142 : decode cX10_takes 142 = .ok (.iaload, 1) := by decide +kernel
theorem dX10_takes_143 : decode cX10_takes 143 = .ok (.iload_n 3, 1) := by decide +kernel
theorem dX10_takes_144 : decode cX10_takes 144 = .ok (.iconst 1, 1) := by decide +kernel
theorem dX10_takes_145 : decode cX10_takes 145 = .ok (.iadd, 1) := by decide +kernel
theorem dX10_takes_146 : decode cX10_takes 146 = .ok (.if_icmp .gt 5, 3) := by decide +kernel
theorem dX10_takes_149 : decode cX10_takes 149 = .ok (.iconst 0, 1) := by decide +kernel
theorem dX10_takes_150 : decode cX10_takes 150 = .ok (.ireturn, 1) := by decide +kernel
theorem dX10_takes_151 : decode cX10_takes 151 = .ok (.aload_n 0, 1) := by decide +kernel
theorem dX10_takes_152 : decode cX10_takes 152 = .ok (.getfield 69, 3) := by decide +kernel
theorem dX10_takes_155 : decode cX10_takes 155 = .ok (.iload 5, 2) := by decide +kernel
theorem dX10_takes_157 : decode cX10_takes 157 = .ok (.dup2, 1) := by decide +kernel
theorem dX10_takes_158 : decode cX10_takes 158 = .ok (.iaload, 1) := by decide +kernel
theorem dX10_takes_159 : decode cX10_takes 159 = .ok (.iconst 1, 1) := by decide +kernel
theorem dX10_takes_160 : decode cX10_takes 160 = .ok (.isub, 1) := by decide +kernel
theorem dX10_takes_161 : decode cX10_takes 161 = .ok (.iastore, 1) := by decide +kernel
theorem dX10_takes_162 : decode cX10_takes 162 = .ok (.aload_n 0, 1) := by decide +kernel
theorem dX10_takes_163 : decode cX10_takes 163 = .ok (.getfield 66, 3) := by decide +kernel
theorem dX10_takes_166 : decode cX10_takes 166 = .ok (.bipush 80, 2) := by decide +kernel
theorem dX10_takes_168 : decode cX10_takes 168 = .ok (.iload 5, 2) := by decide +kernel
theorem dX10_takes_170 : decode cX10_takes 170 = .ok (.imul, 1) := by decide +kernel
theorem dX10_takes_171 : decode cX10_takes 171 = .ok (.aload_n 0, 1) := by decide +kernel
theorem dX10_takes_172 : decode cX10_takes 172 = .ok (.getfield 72, 3) := by decide +kernel
theorem dX10_takes_175 : decode cX10_takes 175 = .ok (.iload 5, 2) := by decide +kernel
theorem dX10_takes_177 : decode cX10_takes 177 = .ok (.iaload, 1) := by decide +kernel
theorem dX10_takes_178 : decode cX10_takes 178 = .ok (.iadd, 1) := by decide +kernel
theorem dX10_takes_179 : decode cX10_takes 179 = .ok (.aload_n 0, 1) := by decide +kernel
theorem dX10_takes_180 : decode cX10_takes 180 = .ok (.getfield 69, 3) := by decide +kernel
theorem dX10_takes_183 : decode cX10_takes 183 = .ok (.iload 5, 2) := by decide +kernel
theorem dX10_takes_185 : decode cX10_takes 185 = .ok (.iaload, 1) := by decide +kernel
theorem dX10_takes_186 : decode cX10_takes 186 = .ok (.iadd, 1) := by decide +kernel
theorem dX10_takes_187 : decode cX10_takes 187 = .ok (.iaload, 1) := by decide +kernel
theorem dX10_takes_188 : decode cX10_takes 188 = .ok (.istore 6, 2) := by decide +kernel
theorem dX10_takes_190 : decode cX10_takes 190 = .ok (.aload_n 0, 1) := by decide +kernel
theorem dX10_takes_191 : decode cX10_takes 191 = .ok (.iload 6, 2) := by decide +kernel
theorem dX10_takes_193 : decode cX10_takes 193 = .ok (.iconst 2, 1) := by decide +kernel
theorem dX10_takes_194 : decode cX10_takes 194 = .ok (.invokevirtual 166, 3) := by decide +kernel
theorem dX10_takes_197 : decode cX10_takes 197 = .ok (.aload_n 0, 1) := by decide +kernel
theorem dX10_takes_198 : decode cX10_takes 198 = .ok (.getfield 90, 3) := by decide +kernel
theorem dX10_takes_201 : decode cX10_takes 201 = .ok (.iload 6, 2) := by decide +kernel
theorem dX10_takes_203 : decode cX10_takes 203 = .ok (.iload_n 1, 1) := by decide +kernel
theorem dX10_takes_204 : decode cX10_takes 204 = .ok (.iastore, 1) := by decide +kernel
theorem dX10_takes_205 : decode cX10_takes 205 = .ok (.iconst 1, 1) := by decide +kernel
theorem dX10_takes_206 : decode cX10_takes 206 = .ok (.ireturn, 1) := by decide +kernel
theorem dX10_comes_0 : decode cX10_comes 0 = .ok (.aload_n 0, 1) := by decide +kernel
theorem dX10_comes_1 : decode cX10_comes 1 = .ok (.getfield 59, 3) := by decide +kernel
theorem dX10_comes_4 : decode cX10_comes 4 = .ok (.bipush 80, 2) := by decide +kernel
theorem dX10_comes_6 : decode cX10_comes 6 = .ok (.aload_n 0, 1) := by decide +kernel
theorem dX10_comes_7 : decode cX10_comes 7 = .ok (.getfield 170, 3) := by decide +kernel
theorem dX10_comes_10 : decode cX10_comes 10 = .ok (.imul, 1) := by decide +kernel
theorem dX10_comes_11 : decode cX10_comes 11 = .ok (.iload_n 1, 1) := by decide +kernel
theorem dX10_comes_12 : decode cX10_comes 12 = .ok (.iadd, 1) := by decide +kernel
theorem dX10_comes_13 : decode cX10_comes 13 = .ok (.iaload, 1) := by decide +kernel
theorem dX10_comes_14 : decode cX10_comes 14 = .ok (.istore_n 2, 1) := by decide +kernel
theorem dX10_comes_15 : decode cX10_comes 15 = .ok (.aload_n 0, 1) := by decide +kernel
theorem dX10_comes_16 : decode cX10_comes 16 = .ok (.iload_n 1, 1) := by decide +kernel
theorem dX10_comes_17 : decode cX10_comes 17 = .ok (.iload_n 2, 1) := by decide +kernel
theorem dX10_comes_18 : decode cX10_comes 18 = .ok (.invokevirtual 173, 3) := by decide +kernel
theorem dX10_comes_21 : decode cX10_comes 21 = .ok (.ifCond .eq 56, 3) := by decide +kernel
theorem dX10_comes_24 : decode cX10_comes 24 = .ok (.aload_n 0, 1) := by decide +kernel
theorem dX10_comes_25 : decode cX10_comes 25 = .ok (.getfield 66, 3) := by decide +kernel
theorem dX10_comes_28 : decode cX10_comes 28 = .ok (.bipush 80, 2) := by decide +kernel
theorem dX10_comes_30 : decode cX10_comes 30 = .ok (.iload_n 2, 1) := by decide +kernel
theorem dX10_comes_31 : decode cX10_comes 31 = .ok (.imul, 1) := by decide +kernel
theorem dX10_comes_32 : decode cX10_comes 32 = .ok (.aload_n 0, 1) := by decide +kernel
theorem dX10_comes_33 : decode cX10_comes 33 = .ok (.getfield 72, 3) := by decide +kernel
theorem dX10_comes_36 : decode cX10_comes 36 = .ok (.iload_n 2, 1) := by decide +kernel
theorem dX10_comes_37 : decode cX10_comes 37 = .ok (.iaload, 1) := by decide +kernel
theorem dX10_comes_38 : decode cX10_comes 38 = .ok (.iadd, 1) := by decide +kernel
theorem dX10_comes_39 : decode cX10_comes 39 = .ok (.aload_n 0, 1) := by decide +kernel
theorem dX10_comes_40 : decode cX10_comes 40 = .ok (.getfield 69, 3) := by decide +kernel
theorem dX10_comes_43 : decode cX10_comes 43 = .ok (.iload_n 2, 1) := by decide +kernel
theorem dX10_comes_44 : decode cX10_comes 44 = .ok (.iaload, 1) := by decide +kernel
theorem dX10_comes_45 : decode cX10_comes 45 = .ok (.iadd, 1) := by decide +kernel
theorem dX10_comes_46 : decode cX10_comes 46 = .ok (.iload_n 1, 1) := by decide +kernel
theorem dX10_comes_47 : decode cX10_comes 47 = .ok (.iastore, 1) := by decide +kernel
theorem dX10_comes_48 : decode cX10_comes 48 = .ok (.aload_n 0, 1) := by decide +kernel
theorem dX10_comes_49 : decode cX10_comes 49 = .ok (.getfield 69, 3) := by decide +kernel
theorem dX10_comes_52 : decode cX10_comes 52 = .ok (.iload_n 2, 1) := by decide +kernel
theorem dX10_comes_53 : decode cX10_comes 53 = .ok (.dup2, 1) := by decide +kernel
theorem dX10_comes_54 : decode cX10_comes 54 = .ok (.iaload, 1) := by decide +kernel
theorem dX10_comes_55 : decode cX10_comes 55 = .ok (.iconst 1, 1) := by decide +kernel
theorem dX10_comes_56 : decode cX10_comes 56 = .ok (.iadd, 1) := by decide +kernel
theorem dX10_comes_57 : decode cX10_comes 57 = .ok (.iastore, 1) := by decide +kernel
theorem dX10_comes_58 : decode cX10_comes 58 = .ok (.aload_n 0, 1) := by decide +kernel
theorem dX10_comes_59 : decode cX10_comes 59 = .ok (.getfield 84, 3) := by decide +kernel
theorem dX10_comes_62 : decode cX10_comes 62 = .ok (.iload_n 1, 1) := by decide +kernel
theorem dX10_comes_63 : decode cX10_comes 63 = .ok (.iconst 0, 1) := by decide +kernel
theorem dX10_comes_64 : decode cX10_comes 64 = .ok (.iastore, 1) := by decide +kernel
theorem dX10_comes_65 : decode cX10_comes 65 = .ok (.aload_n 0, 1) := by decide +kernel
theorem dX10_comes_66 : decode cX10_comes 66 = .ok (.getfield 87, 3) := by decide +kernel
theorem dX10_comes_69 : decode cX10_comes 69 = .ok (.iload_n 1, 1) := by decide +kernel
theorem dX10_comes_70 : decode cX10_comes 70 = .ok (.sipush 400, 3) := by decide +kernel
theorem dX10_comes_73 : decode cX10_comes 73 = .ok (.iastore, 1) := by decide +kernel
theorem dX10_comes_74 : decode cX10_comes 74 = .ok (.goto 9, 3) := by decide +kernel
theorem dX10_comes_77 : decode cX10_comes 77 = .ok (.aload_n 0, 1) := by decide +kernel
theorem dX10_comes_78 : decode cX10_comes 78 = .ok (.iload_n 1, 1) := by decide +kernel
theorem dX10_comes_79 : decode cX10_comes 79 = .ok (.iconst 1, 1) := by decide +kernel
theorem dX10_comes_80 : decode cX10_comes 80 = .ok (.invokevirtual 166, 3) := by decide +kernel
theorem dX10_comes_83 : decode cX10_comes 83 = .ok (.iconst 0, 1) := by decide +kernel
theorem dX10_comes_84 : decode cX10_comes 84 = .ok (.istore_n 3, 1) := by decide +kernel
theorem dX10_comes_85 : decode cX10_comes 85 = .ok (.iload_n 3, 1) := by decide +kernel
theorem dX10_comes_86 : decode cX10_comes 86 = .ok (.iconst 4, 1) := by decide +kernel
theorem dX10_comes_87 : decode cX10_comes 87 = .ok (.if_icmp .ge 45, 3) := by decide +kernel
theorem dX10_comes_90 : decode cX10_comes 90 = .ok (.aload_n 0, 1) := by decide +kernel
theorem dX10_comes_91 : decode cX10_comes 91 = .ok (.getfield 93, 3) := by decide +kernel
theorem dX10_comes_94 : decode cX10_comes 94 = .ok (.iload_n 3, 1) := by decide +kernel
theorem dX10_comes_95 : decode cX10_comes 95 = .ok (.aload_n 0, 1) := by decide +kernel
theorem dX10_comes_96 : decode cX10_comes 96 = .ok (.getfield 69, 3) := by decide +kernel
theorem dX10_comes_99 : decode cX10_comes 99 = .ok (.iload_n 3, 1) := by decide +kernel
theorem dX10_comes_100 : decode cX10_comes 100 = .ok (.iaload, 1) := by decide +kernel
theorem dX10_comes_101 : decode cX10_comes 101 = .ok (.aload_n 0, 1) := by decide +kernel
theorem dX10_comes_102 : decode cX10_comes 102 = .ok (.getfield 93, 3) := by decide +kernel
theorem dX10_comes_105 : decode cX10_comes 105 = .ok (.iload_n 3, 1) := by decide +kernel
theorem dX10_comes_106 : decode cX10_comes 106 = .ok (.iaload, 1) := by decide +kernel
theorem dX10_comes_107 : decode cX10_comes 107 = .ok (.if_icmp .le 12, 3) := by decide +kernel
theorem dX10_comes_110 : decode cX10_comes 110 = .ok (.aload_n 0, 1) := by decide +kernel
theorem dX10_comes_111 : decode cX10_comes 111 = .ok (.getfield 69, 3) := by decide +kernel
theorem dX10_comes_114 : decode cX10_comes 114 = .ok (.iload_n 3, 1) := by decide +kernel
theorem dX10_comes_115 : decode cX10_comes 115 = .ok (.iaload, 1) := by decide +kernel
theorem dX10_comes_116 : decode cX10_comes 116 = .ok (.goto 9, 3) := by decide +kernel
theorem dX10_comes_119 : decode cX10_comes 119 = .ok (.aload_n 0, 1) := by decide +kernel
theorem dX10_comes_120 : decode cX10_comes 120 = .ok (.getfield 93, 3) := by decide +kernel
theorem dX10_comes_123 : decode cX10_comes 123 = .ok (.iload_n 3, 1) := by decide +kernel
theorem dX10_comes_124 : decode cX10_comes 124 = .ok (.iaload, 1) := by decide +kernel
theorem dX10_comes_125 : decode cX10_comes 125 = .ok (.iastore, 1) := by decide +kernel
theorem dX10_comes_126 : decode cX10_comes 126 = .ok (.iinc 3 1, 3) := by decide +kernel
theorem dX10_comes_129 : decode cX10_comes 129 = .ok (.goto (-44), 3) := by decide +kernel
theorem dX10_comes_132 : decode cX10_comes 132 = .ok (.aload_n 0, 1) := by decide +kernel
theorem dX10_comes_133 : decode cX10_comes 133 = .ok (.getfield 93, 3) := by decide +kernel
theorem dX10_comes_136 : decode cX10_comes 136 = .ok (.iconst 4, 1) := by decide +kernel
theorem dX10_comes_137 : decode cX10_comes 137 = .ok (.aload_n 0, 1) := by decide +kernel
theorem dX10_comes_138 : decode cX10_comes 138 = .ok (.invokevirtual 151, 3) := by decide +kernel
theorem dX10_comes_141 : decode cX10_comes 141 = .ok (.aload_n 0, 1) := by decide +kernel
theorem dX10_comes_142 : decode cX10_comes 142 = .ok (.getfield 93, 3) := by decide +kernel
theorem dX10_comes_145 : decode cX10_comes 145 = .ok (.iconst 4, 1) := by decide +kernel
theorem dX10_comes_146 : decode cX10_comes 146 = .ok (.iaload, 1) := by decide +kernel
theorem dX10_comes_147 : decode cX10_comes 147 = .ok (.if_icmp .le 10, 3) := by decide +kernel
theorem dX10_comes_150 : decode cX10_comes 150 = .ok (.aload_n 0, 1) := by decide +kernel
theorem dX10_comes_151 : decode cX10_comes 151 = .ok (.invokevirtual 151, 3) := by decide +kernel
theorem dX10_comes_154 : decode cX10_comes 154 = .ok (.goto 9, 3) := by decide +kernel
theorem dX10_comes_157 : decode cX10_comes 157 = .ok (.aload_n 0, 1) := by decide +kernel
theorem dX10_comes_158 : decode cX10_comes 158 = .ok (.getfield 93, 3) := by decide +kernel
theorem dX10_comes_161 : decode cX10_comes 161 = .ok (.iconst 4, 1) := by decide +kernel
theorem dX10_comes_162 : decode cX10_comes 162 = .ok (.iaload, 1) := by decide +kernel
theorem dX10_comes_163 : decode cX10_comes 163 = .ok (.iastore, 1) := by decide +kernel
theorem dX10_comes_164 : decode cX10_comes 164 = .ok (.return_, 1) := by decide +kernel
theorem dX10_waiting_0 : decode cX10_waiting 0 = .ok (.aload_n 0, 1) := by decide +kernel
theorem dX10_waiting_1 : decode cX10_waiting 1 = .ok (.getfield 75, 3) := by decide +kernel
theorem dX10_waiting_4 : decode cX10_waiting 4 = .ok (.iload_n 1, 1) := by decide +kernel
theorem dX10_waiting_5 : decode cX10_waiting 5 = .ok (.iaload, 1) := by decide +kernel
theorem dX10_waiting_6 : decode cX10_waiting 6 = .ok (.istore_n 2, 1) := by decide +kernel
theorem dX10_waiting_7 : decode cX10_waiting 7 = .ok (.iload_n 2, 1) := by decide +kernel
theorem dX10_waiting_8 : decode cX10_waiting 8 = .ok (.aload_n 0, 1) := by decide +kernel
theorem dX10_waiting_9 : decode cX10_waiting 9 = .ok (.getfield 53, 3) := by decide +kernel
theorem dX10_waiting_12 : decode cX10_waiting 12 = .ok (.aload_n 0, 1) := by decide +kernel
theorem dX10_waiting_13 : decode cX10_waiting 13 = .ok (.getfield 170, 3) := by decide +kernel
theorem dX10_waiting_16 : decode cX10_waiting 16 = .ok (.iaload, 1) := by decide +kernel
theorem dX10_waiting_17 : decode cX10_waiting 17 = .ok (.if_icmp .ge 27, 3) := by decide +kernel
theorem dX10_waiting_20 : decode cX10_waiting 20 = .ok (.aload_n 0, 1) := by decide +kernel
theorem dX10_waiting_21 : decode cX10_waiting 21 = .ok (.getfield 59, 3) := by decide +kernel
theorem dX10_waiting_24 : decode cX10_waiting 24 = .ok (.bipush 80, 2) := by decide +kernel
theorem dX10_waiting_26 : decode cX10_waiting 26 = .ok (.aload_n 0, 1) := by decide +kernel
theorem dX10_waiting_27 : decode cX10_waiting 27 = .ok (.getfield 170, 3) := by decide +kernel
theorem dX10_waiting_30 : decode cX10_waiting 30 = .ok (.imul, 1) := by decide +kernel
theorem dX10_waiting_31 : decode cX10_waiting 31 = .ok (.iload_n 2, 1) := by decide +kernel
theorem dX10_waiting_32 : decode cX10_waiting 32 = .ok (.iadd, 1) := by decide +kernel
theorem dX10_waiting_33 : decode cX10_waiting 33 = .ok (.iaload, 1) := by decide +kernel
theorem dX10_waiting_34 : decode cX10_waiting 34 = .ok (.iload_n 1, 1) := by decide +kernel
theorem dX10_waiting_35 : decode cX10_waiting 35 = .ok (.if_icmp .eq 9, 3) := by decide +kernel
theorem dX10_waiting_38 : decode cX10_waiting 38 = .ok (.iinc 2 1, 3) := by decide +kernel
theorem dX10_waiting_41 : decode cX10_waiting 41 = .ok (.goto (-34), 3) := by decide +kernel
theorem dX10_waiting_44 : decode cX10_waiting 44 = .ok (.aload_n 0, 1) := by decide +kernel
theorem dX10_waiting_45 : decode cX10_waiting 45 = .ok (.getfield 75, 3) := by decide +kernel
theorem dX10_waiting_48 : decode cX10_waiting 48 = .ok (.iload_n 1, 1) := by decide +kernel
theorem dX10_waiting_49 : decode cX10_waiting 49 = .ok (.iload_n 2, 1) := by decide +kernel
theorem dX10_waiting_50 : decode cX10_waiting 50 = .ok (.iastore, 1) := by decide +kernel
theorem dX10_waiting_51 : decode cX10_waiting 51 = .ok (.iload_n 2, 1) := by decide +kernel
theorem dX10_waiting_52 : decode cX10_waiting 52 = .ok (.aload_n 0, 1) := by decide +kernel
theorem dX10_waiting_53 : decode cX10_waiting 53 = .ok (.getfield 53, 3) := by decide +kernel
theorem dX10_waiting_56 : decode cX10_waiting 56 = .ok (.aload_n 0, 1) := by decide +kernel
theorem dX10_waiting_57 : decode cX10_waiting 57 = .ok (.getfield 170, 3) := by decide +kernel
theorem dX10_waiting_60 : decode cX10_waiting 60 = .ok (.iaload, 1) := by decide +kernel
theorem dX10_waiting_61 : decode cX10_waiting 61 = .ok (.if_icmp .ge 28, 3) := by decide +kernel
theorem dX10_waiting_64 : decode cX10_waiting 64 = .ok (.aload_n 0, 1) := by decide +kernel
theorem dX10_waiting_65 : decode cX10_waiting 65 = .ok (.getfield 56, 3) := by decide +kernel
theorem dX10_waiting_68 : decode cX10_waiting 68 = .ok (.bipush 80, 2) := by decide +kernel
theorem dX10_waiting_70 : decode cX10_waiting 70 = .ok (.aload_n 0, 1) := by decide +kernel
theorem dX10_waiting_71 : decode cX10_waiting 71 = .ok (.getfield 170, 3) := by decide +kernel
theorem dX10_waiting_74 : decode cX10_waiting 74 = .ok (.imul, 1) := by decide +kernel
theorem dX10_waiting_75 : decode cX10_waiting 75 = .ok (.iload_n 2, 1) := by decide +kernel
theorem dX10_waiting_76 : decode cX10_waiting 76 = .ok (.iadd, 1) := by decide +kernel
theorem dX10_waiting_77 : decode cX10_waiting 77 = .ok (.iaload, 1) := by decide +kernel
theorem dX10_waiting_78 : decode cX10_waiting 78 = .ok (.aload_n 0, 1) := by decide +kernel
theorem dX10_waiting_79 : decode cX10_waiting 79 = .ok (.getfield 148, 3) := by decide +kernel
theorem dX10_waiting_82 : decode cX10_waiting 82 = .ok (.if_icmp .gt 7, 3) := by decide +kernel
theorem dX10_waiting_85 : decode cX10_waiting 85 = .ok (.iload_n 2, 1) := by decide +kernel
theorem dX10_waiting_86 : decode cX10_waiting 86 = .ok (.goto 4, 3) := by decide +kernel
theorem dX10_waiting_89 : decode cX10_waiting 89 = .ok (.iconst (-1), 1) := by decide +kernel
theorem dX10_waiting_90 : decode cX10_waiting 90 = .ok (.ireturn, 1) := by decide +kernel
theorem dX10_isLeft_0 : decode cX10_isLeft 0 = .ok (.aload_n 0, 1) := by decide +kernel
theorem dX10_isLeft_1 : decode cX10_isLeft 1 = .ok (.invokevirtual 151, 3) := by decide +kernel
theorem dX10_isLeft_4 : decode cX10_isLeft 4 = .ok (.ifCond .le 7, 3) := by decide +kernel
theorem dX10_isLeft_7 : decode cX10_isLeft 7 = .ok (.iconst 1, 1) := by decide +kernel
theorem dX10_isLeft_8 : decode cX10_isLeft 8 = .ok (.goto 4, 3) := by decide +kernel
theorem dX10_isLeft_11 : decode cX10_isLeft 11 = .ok (.iconst 0, 1) := by decide +kernel
theorem dX10_isLeft_12 : decode cX10_isLeft 12 = .ok (.istore_n 1, 1) := by decide +kernel
theorem dX10_isLeft_13 : decode cX10_isLeft 13 = .ok (.iconst 0, 1) := by decide +kernel
theorem dX10_isLeft_14 : decode cX10_isLeft 14 = .ok (.istore_n 2, 1) := by decide +kernel
theorem dX10_isLeft_15 : decode cX10_isLeft 15 = .ok (.iload_n 2, 1) := by decide +kernel
theorem dX10_isLeft_16 : decode cX10_isLeft 16 = .ok (.aload_n 0, 1) := by decide +kernel
theorem dX10_isLeft_17 : decode cX10_isLeft 17 = .ok (.getfield 53, 3) := by decide +kernel
theorem dX10_isLeft_20 : decode cX10_isLeft 20 = .ok (.aload_n 0, 1) := by decide +kernel
theorem dX10_isLeft_21 : decode cX10_isLeft 21 = .ok (.getfield 170, 3) := by decide +kernel
theorem dX10_isLeft_24 : decode cX10_isLeft 24 = .ok (.iaload, 1) := by decide +kernel
theorem dX10_isLeft_25 : decode cX10_isLeft 25 = .ok (.if_icmp .ge 81, 3) := by decide +kernel
theorem dX10_isLeft_28 : decode cX10_isLeft 28 = .ok (.iload_n 1, 1) := by decide +kernel
theorem dX10_isLeft_29 : decode cX10_isLeft 29 = .ok (.ifCond .ne 77, 3) := by decide +kernel
theorem dX10_isLeft_32 : decode cX10_isLeft 32 = .ok (.aload_n 0, 1) := by decide +kernel
theorem dX10_isLeft_33 : decode cX10_isLeft 33 = .ok (.getfield 59, 3) := by decide +kernel
theorem dX10_isLeft_36 : decode cX10_isLeft 36 = .ok (.bipush 80, 2) := by decide +kernel
theorem dX10_isLeft_38 : decode cX10_isLeft 38 = .ok (.aload_n 0, 1) := by decide +kernel
theorem dX10_isLeft_39 : decode cX10_isLeft 39 = .ok (.getfield 170, 3) := by decide +kernel
theorem dX10_isLeft_42 : decode cX10_isLeft 42 = .ok (.imul, 1) := by decide +kernel
theorem dX10_isLeft_43 : decode cX10_isLeft 43 = .ok (.iload_n 2, 1) := by decide +kernel
theorem dX10_isLeft_44 : decode cX10_isLeft 44 = .ok (.iadd, 1) := by decide +kernel
theorem dX10_isLeft_45 : decode cX10_isLeft 45 = .ok (.iaload, 1) := by decide +kernel
theorem dX10_isLeft_46 : decode cX10_isLeft 46 = .ok (.istore_n 3, 1) := by decide +kernel
theorem dX10_isLeft_47 : decode cX10_isLeft 47 = .ok (.aload_n 0, 1) := by decide +kernel
theorem dX10_isLeft_48 : decode cX10_isLeft 48 = .ok (.iload_n 3, 1) := by decide +kernel
theorem dX10_isLeft_49 : decode cX10_isLeft 49 = .ok (.invokevirtual 177, 3) := by decide +kernel
theorem dX10_isLeft_52 : decode cX10_isLeft 52 = .ok (.ifCond .eq 21, 3) := by decide +kernel
theorem dX10_isLeft_55 : decode cX10_isLeft 55 = .ok (.iload_n 2, 1) := by decide +kernel
theorem dX10_isLeft_56 : decode cX10_isLeft 56 = .ok (.aload_n 0, 1) := by decide +kernel
theorem dX10_isLeft_57 : decode cX10_isLeft 57 = .ok (.getfield 75, 3) := by decide +kernel
theorem dX10_isLeft_60 : decode cX10_isLeft 60 = .ok (.iload_n 3, 1) := by decide +kernel
theorem dX10_isLeft_61 : decode cX10_isLeft 61 = .ok (.iaload, 1) := by decide +kernel
theorem dX10_isLeft_62 : decode cX10_isLeft 62 = .ok (.if_icmp .lt 7, 3) := by decide +kernel
theorem dX10_isLeft_65 : decode cX10_isLeft 65 = .ok (.iconst 1, 1) := by decide +kernel
theorem dX10_isLeft_66 : decode cX10_isLeft 66 = .ok (.goto 33, 3) := by decide +kernel
theorem dX10_isLeft_69 : decode cX10_isLeft 69 = .ok (.iconst 0, 1) := by decide +kernel
theorem dX10_isLeft_70 : decode cX10_isLeft 70 = .ok (.goto 29, 3) := by decide +kernel
theorem dX10_isLeft_73 : decode cX10_isLeft 73 = .ok (.aload_n 0, 1) := by decide +kernel
theorem dX10_isLeft_74 : decode cX10_isLeft 74 = .ok (.getfield 56, 3) := by decide +kernel
theorem dX10_isLeft_77 : decode cX10_isLeft 77 = .ok (.bipush 80, 2) := by decide +kernel
theorem dX10_isLeft_79 : decode cX10_isLeft 79 = .ok (.aload_n 0, 1) := by decide +kernel
theorem dX10_isLeft_80 : decode cX10_isLeft 80 = .ok (.getfield 170, 3) := by decide +kernel
theorem dX10_isLeft_83 : decode cX10_isLeft 83 = .ok (.imul, 1) := by decide +kernel
theorem dX10_isLeft_84 : decode cX10_isLeft 84 = .ok (.iload_n 2, 1) := by decide +kernel
theorem dX10_isLeft_85 : decode cX10_isLeft 85 = .ok (.iadd, 1) := by decide +kernel
theorem dX10_isLeft_86 : decode cX10_isLeft 86 = .ok (.iaload, 1) := by decide +kernel
theorem dX10_isLeft_87 : decode cX10_isLeft 87 = .ok (.aload_n 0, 1) := by decide +kernel
theorem dX10_isLeft_88 : decode cX10_isLeft 88 = .ok (.getfield 148, 3) := by decide +kernel
theorem dX10_isLeft_91 : decode cX10_isLeft 91 = .ok (.if_icmp .lt 7, 3) := by decide +kernel
theorem dX10_isLeft_94 : decode cX10_isLeft 94 = .ok (.iconst 1, 1) := by decide +kernel
theorem dX10_isLeft_95 : decode cX10_isLeft 95 = .ok (.goto 4, 3) := by decide +kernel
theorem dX10_isLeft_98 : decode cX10_isLeft 98 = .ok (.iconst 0, 1) := by decide +kernel
theorem dX10_isLeft_99 : decode cX10_isLeft 99 = .ok (.istore_n 1, 1) := by decide +kernel
theorem dX10_isLeft_100 : decode cX10_isLeft 100 = .ok (.iinc 2 1, 3) := by decide +kernel
theorem dX10_isLeft_103 : decode cX10_isLeft 103 = .ok (.goto (-88), 3) := by decide +kernel
theorem dX10_isLeft_106 : decode cX10_isLeft 106 = .ok (.iload_n 1, 1) := by decide +kernel
theorem dX10_isLeft_107 : decode cX10_isLeft 107 = .ok (.ireturn, 1) := by decide +kernel
theorem dX10_senders_0 : decode cX10_senders 0 = .ok (.iconst 0, 1) := by decide +kernel
theorem dX10_senders_1 : decode cX10_senders 1 = .ok (.istore_n 1, 1) := by decide +kernel
theorem dX10_senders_2 : decode cX10_senders 2 = .ok (.iload_n 1, 1) := by decide +kernel
theorem dX10_senders_3 : decode cX10_senders 3 = .ok (.aload_n 0, 1) := by decide +kernel
theorem dX10_senders_4 : decode cX10_senders 4 = .ok (.getfield 13, 3) := by decide +kernel
theorem dX10_senders_7 : decode cX10_senders 7 = .ok (.if_icmp .ge 100, 3) := by decide +kernel
theorem dX10_senders_10 : decode cX10_senders 10 = .ok (.aload_n 0, 1) := by decide +kernel
theorem dX10_senders_11 : decode cX10_senders 11 = .ok (.getfield 148, 3) := by decide +kernel
theorem dX10_senders_14 : decode cX10_senders 14 = .ok (.iconst 1, 1) := by decide +kernel
theorem dX10_senders_15 : decode cX10_senders 15 = .ok (.isub, 1) := by decide +kernel
theorem dX10_senders_16 : decode cX10_senders 16 = .ok (.aload_n 0, 1) := by decide +kernel
theorem dX10_senders_17 : decode cX10_senders 17 = .ok (.getfield 35, 3) := by decide +kernel
theorem dX10_senders_20 : decode cX10_senders 20 = .ok (.iload_n 1, 1) := by decide +kernel
theorem dX10_senders_21 : decode cX10_senders 21 = .ok (.iaload, 1) := by decide +kernel
theorem dX10_senders_22 : decode cX10_senders 22 = .ok (.isub, 1) := by decide +kernel
theorem dX10_senders_23 : decode cX10_senders 23 = .ok (.istore_n 2, 1) := by decide +kernel
theorem dX10_senders_24 : decode cX10_senders 24 = .ok (.aload_n 0, 1) := by decide +kernel
theorem dX10_senders_25 : decode cX10_senders 25 = .ok (.iload_n 1, 1) := by decide +kernel
theorem dX10_senders_26 : decode cX10_senders 26 = .ok (.invokevirtual 177, 3) := by decide +kernel
theorem dX10_senders_29 : decode cX10_senders 29 = .ok (.ifCond .eq 26, 3) := by decide +kernel
theorem dX10_senders_32 : decode cX10_senders 32 = .ok (.iload_n 2, 1) := by decide +kernel
theorem dX10_senders_33 : decode cX10_senders 33 = .ok (.ifCond .lt 22, 3) := by decide +kernel
theorem dX10_senders_36 : decode cX10_senders 36 = .ok (.aload_n 0, 1) := by decide +kernel
theorem dX10_senders_37 : decode cX10_senders 37 = .ok (.getfield 81, 3) := by decide +kernel
theorem dX10_senders_40 : decode cX10_senders 40 = .ok (.sipush 400, 3) := by decide +kernel
theorem dX10_senders_43 : decode cX10_senders 43 = .ok (.iload_n 1, 1) := by decide +kernel
theorem dX10_senders_44 : decode cX10_senders 44 = .ok (.imul, 1) := by decide +kernel
theorem dX10_senders_45 : decode cX10_senders 45 = .ok (.iload_n 2, 1) := by decide +kernel
theorem dX10_senders_46 : decode cX10_senders 46 = .ok (.iadd, 1) := by decide +kernel
theorem dX10_senders_47 : decode cX10_senders 47 = .ok (.baload, 1) := by decide +kernel
theorem dX10_senders_48 : decode cX10_senders 48 = .ok (.ifCond .eq 7, 3) := by decide +kernel
theorem dX10_senders_51 : decode cX10_senders 51 = .ok (.iconst 1, 1) := by decide +kernel
theorem dX10_senders_52 : decode cX10_senders 52 = .ok (.goto 4, 3) := by decide +kernel
theorem dX10_senders_55 : decode cX10_senders 55 = .ok (.iconst 0, 1) := by decide +kernel
theorem dX10_senders_56 : decode cX10_senders 56 = .ok (.istore_n 3, 1) := by decide +kernel
theorem dX10_senders_57 : decode cX10_senders 57 = .ok (.aload_n 0, 1) := by decide +kernel
theorem dX10_senders_58 : decode cX10_senders 58 = .ok (.iload_n 1, 1) := by decide +kernel
theorem dX10_senders_59 : decode cX10_senders 59 = .ok (.invokevirtual 177, 3) := by decide +kernel
theorem dX10_senders_62 : decode cX10_senders 62 = .ok (.ifCond .eq 15, 3) := by decide +kernel
theorem dX10_senders_65 : decode cX10_senders 65 = .ok (.iload_n 3, 1) := by decide +kernel
theorem dX10_senders_66 : decode cX10_senders 66 = .ok (.ifCond .ne 11, 3) := by decide +kernel
theorem dX10_senders_69 : decode cX10_senders 69 = .ok (.aload_n 0, 1) := by decide +kernel
theorem dX10_senders_70 : decode cX10_senders 70 = .ok (.iload_n 1, 1) := by decide +kernel
theorem dX10_senders_71 : decode cX10_senders 71 = .ok (.invokevirtual 180, 3) := by decide +kernel
theorem dX10_senders_74 : decode cX10_senders 74 = .ok (.goto 4, 3) := by decide +kernel
theorem dX10_senders_77 : decode cX10_senders 77 = .ok (.iconst (-1), 1) := by decide +kernel
theorem dX10_senders_78 : decode cX10_senders 78 = .ok (.istore 4, 2) := by decide +kernel
theorem dX10_senders_80 : decode cX10_senders 80 = .ok (.iload 4, 2) := by decide +kernel
theorem dX10_senders_82 : decode cX10_senders 82 = .ok (.ifCond .lt 19, 3) := by decide +kernel
theorem dX10_senders_85 : decode cX10_senders 85 = .ok (.aload_n 0, 1) := by decide +kernel
theorem dX10_senders_86 : decode cX10_senders 86 = .ok (.getfield 75, 3) := by decide +kernel
theorem dX10_senders_89 : decode cX10_senders 89 = .ok (.iload_n 1, 1) := by decide +kernel
theorem dX10_senders_90 : decode cX10_senders 90 = .ok (.iload 4, 2) := by decide +kernel
theorem dX10_senders_92 : decode cX10_senders 92 = .ok (.iconst 1, 1) := by decide +kernel
theorem dX10_senders_93 : decode cX10_senders 93 = .ok (.iadd, 1) := by decide +kernel
theorem dX10_senders_94 : decode cX10_senders 94 = .ok (.iastore, 1) := by decide +kernel
theorem dX10_senders_95 : decode cX10_senders 95 = .ok (.aload_n 0, 1) := by decide +kernel
theorem dX10_senders_96 : decode cX10_senders 96 = .ok (.iload 4, 2) := by decide +kernel
theorem dX10_senders_98 : decode cX10_senders 98 = .ok (.invokevirtual 184, 3) := by decide +kernel
theorem dX10_senders_101 : decode cX10_senders 101 = .ok (.iinc 1 1, 3) := by decide +kernel
theorem dX10_senders_104 : decode cX10_senders 104 = .ok (.goto (-102), 3) := by decide +kernel
theorem dX10_senders_107 : decode cX10_senders 107 = .ok (.return_, 1) := by decide +kernel
theorem dX10_sends_0 : decode cX10_sends 0 = .ok (.iconst 0, 1) := by decide +kernel
theorem dX10_sends_1 : decode cX10_sends 1 = .ok (.istore_n 1, 1) := by decide +kernel
theorem dX10_sends_2 : decode cX10_sends 2 = .ok (.iload_n 1, 1) := by decide +kernel
theorem dX10_sends_3 : decode cX10_sends 3 = .ok (.aload_n 0, 1) := by decide +kernel
theorem dX10_sends_4 : decode cX10_sends 4 = .ok (.getfield 13, 3) := by decide +kernel
theorem dX10_sends_7 : decode cX10_sends 7 = .ok (.if_icmp .ge 75, 3) := by decide +kernel
theorem dX10_sends_10 : decode cX10_sends 10 = .ok (.aload_n 0, 1) := by decide +kernel
theorem dX10_sends_11 : decode cX10_sends 11 = .ok (.getfield 69, 3) := by decide +kernel
theorem dX10_sends_14 : decode cX10_sends 14 = .ok (.iload_n 1, 1) := by decide +kernel
theorem dX10_sends_15 : decode cX10_sends 15 = .ok (.iaload, 1) := by decide +kernel
theorem dX10_sends_16 : decode cX10_sends 16 = .ok (.ifCond .le 60, 3) := by decide +kernel
theorem dX10_sends_19 : decode cX10_sends 19 = .ok (.aload_n 0, 1) := by decide +kernel
theorem dX10_sends_20 : decode cX10_sends 20 = .ok (.getfield 148, 3) := by decide +kernel
theorem dX10_sends_23 : decode cX10_sends 23 = .ok (.iconst 1, 1) := by decide +kernel
theorem dX10_sends_24 : decode cX10_sends 24 = .ok (.iadd, 1) := by decide +kernel
theorem dX10_sends_25 : decode cX10_sends 25 = .ok (.aload_n 0, 1) := by decide +kernel
theorem dX10_sends_26 : decode cX10_sends 26 = .ok (.getfield 23, 3) := by decide +kernel
theorem dX10_sends_29 : decode cX10_sends 29 = .ok (.iload_n 1, 1) := by decide +kernel
theorem dX10_sends_30 : decode cX10_sends 30 = .ok (.iaload, 1) := by decide +kernel
theorem dX10_sends_31 : decode cX10_sends 31 = .ok (.irem, 1) := by decide +kernel
theorem dX10_sends_32 : decode cX10_sends 32 = .ok (.ifCond .ne 44, 3) := by decide +kernel
theorem dX10_sends_35 : decode cX10_sends 35 = .ok (.aload_n 0, 1) := by decide +kernel
theorem dX10_sends_36 : decode cX10_sends 36 = .ok (.aload_n 0, 1) := by decide +kernel
theorem dX10_sends_37 : decode cX10_sends 37 = .ok (.getfield 66, 3) := by decide +kernel
theorem dX10_sends_40 : decode cX10_sends 40 = .ok (.bipush 80, 2) := by decide +kernel
theorem dX10_sends_42 : decode cX10_sends 42 = .ok (.iload_n 1, 1) := by decide +kernel
theorem dX10_sends_43 : decode cX10_sends 43 = .ok (.imul, 1) := by decide +kernel
theorem dX10_sends_44 : decode cX10_sends 44 = .ok (.aload_n 0, 1) := by decide +kernel
theorem dX10_sends_45 : decode cX10_sends 45 = .ok (.getfield 72, 3) := by decide +kernel
theorem dX10_sends_48 : decode cX10_sends 48 = .ok (.iload_n 1, 1) := by decide +kernel
theorem dX10_sends_49 : decode cX10_sends 49 = .ok (.iaload, 1) := by decide +kernel
theorem dX10_sends_50 : decode cX10_sends 50 = .ok (.iadd, 1) := by decide +kernel
theorem dX10_sends_51 : decode cX10_sends 51 = .ok (.iaload, 1) := by decide +kernel
theorem dX10_sends_52 : decode cX10_sends 52 = .ok (.iconst 0, 1) := by decide +kernel
theorem dX10_sends_53 : decode cX10_sends 53 = .ok (.invokevirtual 166, 3) := by decide +kernel
theorem dX10_sends_56 : decode cX10_sends 56 = .ok (.aload_n 0, 1) := by decide +kernel
theorem dX10_sends_57 : decode cX10_sends 57 = .ok (.getfield 72, 3) := by decide +kernel
theorem dX10_sends_60 : decode cX10_sends 60 = .ok (.iload_n 1, 1) := by decide +kernel
