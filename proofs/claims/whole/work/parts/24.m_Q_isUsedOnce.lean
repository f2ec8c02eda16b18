theorem dQ_isUsedOnce_0 : decode prog_10_method_29_code 0 = .ok (.bipush 120, 2) := by decide +kernel
theorem dQ_isUsedOnce_2 : decode prog_10_method_29_code 2 = .ok (.iload_n 1, 1) := by decide +kernel
theorem dQ_isUsedOnce_3 : decode prog_10_method_29_code 3 = .ok (.iconst 1, 1) := by decide +kernel
theorem dQ_isUsedOnce_4 : decode prog_10_method_29_code 4 = .ok (.iadd, 1) := by decide +kernel
theorem dQ_isUsedOnce_5 : decode prog_10_method_29_code 5 = .ok (.imul, 1) := by decide +kernel
theorem dQ_isUsedOnce_6 : decode prog_10_method_29_code 6 = .ok (.istore 5, 2) := by decide +kernel
theorem dQ_isUsedOnce_8 : decode prog_10_method_29_code 8 = .ok (.aload_n 0, 1) := by decide +kernel
theorem dQ_isUsedOnce_9 : decode prog_10_method_29_code 9 = .ok (.getfield 35, 3) := by decide +kernel
theorem dQ_isUsedOnce_12 : decode prog_10_method_29_code 12 = .ok (.iload_n 1, 1) := by decide +kernel
theorem dQ_isUsedOnce_13 : decode prog_10_method_29_code 13 = .ok (.iconst 1, 1) := by decide +kernel
theorem dQ_isUsedOnce_14 : decode prog_10_method_29_code 14 = .ok (.iadd, 1) := by decide +kernel
theorem dQ_isUsedOnce_15 : decode prog_10_method_29_code 15 = .ok (.iaload, 1) := by decide +kernel
theorem dQ_isUsedOnce_16 : decode prog_10_method_29_code 16 = .ok (.iconst 1, 1) := by decide +kernel
theorem dQ_isUsedOnce_17 : decode prog_10_method_29_code 17 = .ok (.isub, 1) := by decide +kernel
theorem dQ_isUsedOnce_18 : decode prog_10_method_29_code 18 = .ok (.istore 6, 2) := by decide +kernel
theorem dQ_isUsedOnce_20 : decode prog_10_method_29_code 20 = .ok (.iload 6, 2) := by decide +kernel
theorem dQ_isUsedOnce_22 : decode prog_10_method_29_code 22 = .ok (.iload 4, 2) := by decide +kernel
theorem dQ_isUsedOnce_24 : decode prog_10_method_29_code 24 = .ok (.if_icmp .lt 291, 3) := by decide +kernel
theorem dQ_isUsedOnce_27 : decode prog_10_method_29_code 27 = .ok (.iload 5, 2) := by decide +kernel
theorem dQ_isUsedOnce_29 : decode prog_10_method_29_code 29 = .ok (.iload 6, 2) := by decide +kernel
theorem dQ_isUsedOnce_31 : decode prog_10_method_29_code 31 = .ok (.iadd, 1) := by decide +kernel
theorem dQ_isUsedOnce_32 : decode prog_10_method_29_code 32 = .ok (.istore 7, 2) := by decide +kernel
theorem dQ_isUsedOnce_34 : decode prog_10_method_29_code 34 = .ok (.aload_n 0, 1) := by decide +kernel
theorem dQ_isUsedOnce_35 : decode prog_10_method_29_code 35 = .ok (.getfield 13, 3) := by decide +kernel
theorem dQ_isUsedOnce_38 : decode prog_10_method_29_code 38 = .ok (.iload 7, 2) := by decide +kernel
theorem dQ_isUsedOnce_40 : decode prog_10_method_29_code 40 = .ok (.iaload, 1) := by decide +kernel
theorem dQ_isUsedOnce_41 : decode prog_10_method_29_code 41 = .ok (.istore 8, 2) := by decide +kernel
theorem dQ_isUsedOnce_43 : decode prog_10_method_29_code 43 = .ok (.iload 8, 2) := by decide +kernel
theorem dQ_isUsedOnce_45 : decode prog_10_method_29_code 45 = .ok (.invokestatic 214, 3) := by decide +kernel
theorem dQ_isUsedOnce_48 : decode prog_10_method_29_code 48 = .ok (.istore 9, 2) := by decide +kernel
theorem dQ_isUsedOnce_50 : decode prog_10_method_29_code 50 = .ok (.iload 8, 2) := by decide +kernel
theorem dQ_isUsedOnce_52 : decode prog_10_method_29_code 52 = .ok (.bipush 120, 2) := by decide +kernel
theorem dQ_isUsedOnce_54 : decode prog_10_method_29_code 54 = .ok (.if_icmp .ne 29, 3) := by decide +kernel
theorem dQ_isUsedOnce_57 : decode prog_10_method_29_code 57 = .ok (.aload_n 0, 1) := by decide +kernel
theorem dQ_isUsedOnce_58 : decode prog_10_method_29_code 58 = .ok (.getfield 28, 3) := by decide +kernel
theorem dQ_isUsedOnce_61 : decode prog_10_method_29_code 61 = .ok (.iload 7, 2) := by decide +kernel
theorem dQ_isUsedOnce_63 : decode prog_10_method_29_code 63 = .ok (.iaload, 1) := by decide +kernel
theorem dQ_isUsedOnce_64 : decode prog_10_method_29_code 64 = .ok (.iload_n 2, 1) := by decide +kernel
theorem dQ_isUsedOnce_65 : decode prog_10_method_29_code 65 = .ok (.if_icmp .ne 18, 3) := by decide +kernel
theorem dQ_isUsedOnce_68 : decode prog_10_method_29_code 68 = .ok (.aload_n 0, 1) := by decide +kernel
theorem dQ_isUsedOnce_69 : decode prog_10_method_29_code 69 = .ok (.getfield 31, 3) := by decide +kernel
theorem dQ_isUsedOnce_72 : decode prog_10_method_29_code 72 = .ok (.iload 7, 2) := by decide +kernel
theorem dQ_isUsedOnce_74 : decode prog_10_method_29_code 74 = .ok (.baload, 1) := by decide +kernel
theorem dQ_isUsedOnce_75 : decode prog_10_method_29_code 75 = .ok (.iload_n 3, 1) := by decide +kernel
theorem dQ_isUsedOnce_76 : decode prog_10_method_29_code 76 = .ok (.if_icmp .ne 7, 3) := by decide +kernel
theorem dQ_isUsedOnce_79 : decode prog_10_method_29_code 79 = .ok (.iconst 1, 1) := by decide +kernel
theorem dQ_isUsedOnce_80 : decode prog_10_method_29_code 80 = .ok (.goto 4, 3) := by decide +kernel
theorem dQ_isUsedOnce_83 : decode prog_10_method_29_code 83 = .ok (.iconst 0, 1) := by decide +kernel
theorem dQ_isUsedOnce_84 : decode prog_10_method_29_code 84 = .ok (.istore 10, 2) := by decide +kernel
theorem dQ_isUsedOnce_86 : decode prog_10_method_29_code 86 = .ok (.iload 10, 2) := by decide +kernel
theorem dQ_isUsedOnce_88 : decode prog_10_method_29_code 88 = .ok (.istore 11, 2) := by decide +kernel
theorem dQ_isUsedOnce_90 : decode prog_10_method_29_code 90 = .ok (.iload 9, 2) := by decide +kernel
theorem dQ_isUsedOnce_92 : decode prog_10_method_29_code 92 = .ok (.ifCond .le 37, 3) := by decide +kernel
theorem dQ_isUsedOnce_95 : decode prog_10_method_29_code 95 = .ok (.iload 10, 2) := by decide +kernel
theorem dQ_isUsedOnce_97 : decode prog_10_method_29_code 97 = .ok (.aload_n 0, 1) := by decide +kernel
theorem dQ_isUsedOnce_98 : decode prog_10_method_29_code 98 = .ok (.getfield 77, 3) := by decide +kernel
theorem dQ_isUsedOnce_101 : decode prog_10_method_29_code 101 = .ok (.aload_n 0, 1) := by decide +kernel
theorem dQ_isUsedOnce_102 : decode prog_10_method_29_code 102 = .ok (.getfield 19, 3) := by decide +kernel
theorem dQ_isUsedOnce_105 : decode prog_10_method_29_code 105 = .ok (.iload 7, 2) := by decide +kernel
theorem dQ_isUsedOnce_107 : decode prog_10_method_29_code 107 = .ok (.iaload, 1) := by decide +kernel
theorem dQ_isUsedOnce_108 : decode prog_10_method_29_code 108 = .ok (.iaload, 1) := by decide +kernel
theorem dQ_isUsedOnce_109 : decode prog_10_method_29_code 109 = .ok (.iadd, 1) := by decide +kernel
theorem dQ_isUsedOnce_110 : decode prog_10_method_29_code 110 = .ok (.istore 10, 2) := by decide +kernel
theorem dQ_isUsedOnce_112 : decode prog_10_method_29_code 112 = .ok (.iload 11, 2) := by decide +kernel
theorem dQ_isUsedOnce_114 : decode prog_10_method_29_code 114 = .ok (.aload_n 0, 1) := by decide +kernel
theorem dQ_isUsedOnce_115 : decode prog_10_method_29_code 115 = .ok (.getfield 80, 3) := by decide +kernel
theorem dQ_isUsedOnce_118 : decode prog_10_method_29_code 118 = .ok (.aload_n 0, 1) := by decide +kernel
theorem dQ_isUsedOnce_119 : decode prog_10_method_29_code 119 = .ok (.getfield 19, 3) := by decide +kernel
theorem dQ_isUsedOnce_122 : decode prog_10_method_29_code 122 = .ok (.iload 7, 2) := by decide +kernel
theorem dQ_isUsedOnce_124 : decode prog_10_method_29_code 124 = .ok (.iaload, 1) := by decide +kernel
theorem dQ_isUsedOnce_125 : decode prog_10_method_29_code 125 = .ok (.iaload, 1) := by decide +kernel
theorem dQ_isUsedOnce_126 : decode prog_10_method_29_code 126 = .ok (.iadd, 1) := by decide +kernel
theorem dQ_isUsedOnce_127 : decode prog_10_method_29_code 127 = .ok (.istore 11, 2) := by decide +kernel
theorem dQ_isUsedOnce_129 : decode prog_10_method_29_code 129 = .ok (.iload 9, 2) := by decide +kernel
theorem dQ_isUsedOnce_131 : decode prog_10_method_29_code 131 = .ok (.iconst 2, 1) := by decide +kernel
theorem dQ_isUsedOnce_132 : decode prog_10_method_29_code 132 = .ok (.if_icmp .ne 37, 3) := by decide +kernel
theorem dQ_isUsedOnce_135 : decode prog_10_method_29_code 135 = .ok (.iload 10, 2) := by decide +kernel
theorem dQ_isUsedOnce_137 : decode prog_10_method_29_code 137 = .ok (.aload_n 0, 1) := by decide +kernel
theorem dQ_isUsedOnce_138 : decode prog_10_method_29_code 138 = .ok (.getfield 77, 3) := by decide +kernel
theorem dQ_isUsedOnce_141 : decode prog_10_method_29_code 141 = .ok (.aload_n 0, 1) := by decide +kernel
theorem dQ_isUsedOnce_142 : decode prog_10_method_29_code 142 = .ok (.getfield 22, 3) := by decide +kernel
theorem dQ_isUsedOnce_145 : decode prog_10_method_29_code 145 = .ok (.iload 7, 2) := by decide +kernel
theorem dQ_isUsedOnce_147 : decode prog_10_method_29_code 147 = .ok (.iaload, 1) := by decide +kernel
theorem dQ_isUsedOnce_148 : decode prog_10_method_29_code 148 = .ok (.iaload, 1) := by decide +kernel
theorem dQ_isUsedOnce_149 : decode prog_10_method_29_code 149 = .ok (.iadd, 1) := by decide +kernel
theorem dQ_isUsedOnce_150 : decode prog_10_method_29_code 150 = .ok (.istore 10, 2) := by decide +kernel
theorem dQ_isUsedOnce_152 : decode prog_10_method_29_code 152 = .ok (.iload 11, 2) := by decide +kernel
theorem dQ_isUsedOnce_154 : decode prog_10_method_29_code 154 = .ok (.aload_n 0, 1) := by decide +kernel
theorem dQ_isUsedOnce_155 : decode prog_10_method_29_code 155 = .ok (.getfield 80, 3) := by decide +kernel
theorem dQ_isUsedOnce_158 : decode prog_10_method_29_code 158 = .ok (.aload_n 0, 1) := by decide +kernel
theorem dQ_isUsedOnce_159 : decode prog_10_method_29_code 159 = .ok (.getfield 22, 3) := by decide +kernel
theorem dQ_isUsedOnce_162 : decode prog_10_method_29_code 162 = .ok (.iload 7, 2) := by decide +kernel
theorem dQ_isUsedOnce_164 : decode prog_10_method_29_code 164 = .ok (.iaload, 1) := by decide +kernel
theorem dQ_isUsedOnce_165 : decode prog_10_method_29_code 165 = .ok (.iaload, 1) := by decide +kernel
theorem dQ_isUsedOnce_166 : decode prog_10_method_29_code 166 = .ok (.iadd, 1) := by decide +kernel
theorem dQ_isUsedOnce_167 : decode prog_10_method_29_code 167 = .ok (.istore 11, 2) := by decide +kernel
theorem dQ_isUsedOnce_169 : decode prog_10_method_29_code 169 = .ok (.iload 9, 2) := by decide +kernel
theorem dQ_isUsedOnce_171 : decode prog_10_method_29_code 171 = .ok (.iconst 3, 1) := by decide +kernel
theorem dQ_isUsedOnce_172 : decode prog_10_method_29_code 172 = .ok (.if_icmp .ne 99, 3) := by decide +kernel
theorem dQ_isUsedOnce_175 : decode prog_10_method_29_code 175 = .ok (.aload_n 0, 1) := by decide +kernel
theorem dQ_isUsedOnce_176 : decode prog_10_method_29_code 176 = .ok (.getfield 22, 3) := by decide +kernel
theorem dQ_isUsedOnce_179 : decode prog_10_method_29_code 179 = .ok (.iload 7, 2) := by decide +kernel
theorem dQ_isUsedOnce_181 : decode prog_10_method_29_code 181 = .ok (.iaload, 1) := by decide +kernel
theorem dQ_isUsedOnce_182 : decode prog_10_method_29_code 182 = .ok (.istore 12, 2) := by decide +kernel
theorem dQ_isUsedOnce_184 : decode prog_10_method_29_code 184 = .ok (.aload_n 0, 1) := by decide +kernel
theorem dQ_isUsedOnce_185 : decode prog_10_method_29_code 185 = .ok (.getfield 25, 3) := by decide +kernel
theorem dQ_isUsedOnce_188 : decode prog_10_method_29_code 188 = .ok (.iload 7, 2) := by decide +kernel
theorem dQ_isUsedOnce_190 : decode prog_10_method_29_code 190 = .ok (.iaload, 1) := by decide +kernel
theorem dQ_isUsedOnce_191 : decode prog_10_method_29_code 191 = .ok (.istore 13, 2) := by decide +kernel
theorem dQ_isUsedOnce_193 : decode prog_10_method_29_code 193 = .ok (.iload 10, 2) := by decide +kernel
theorem dQ_isUsedOnce_195 : decode prog_10_method_29_code 195 = .ok (.aload_n 0, 1) := by decide +kernel
theorem dQ_isUsedOnce_196 : decode prog_10_method_29_code 196 = .ok (.getfield 77, 3) := by decide +kernel
theorem dQ_isUsedOnce_199 : decode prog_10_method_29_code 199 = .ok (.iload 12, 2) := by decide +kernel
theorem dQ_isUsedOnce_201 : decode prog_10_method_29_code 201 = .ok (.iaload, 1) := by decide +kernel
theorem dQ_isUsedOnce_202 : decode prog_10_method_29_code 202 = .ok (.aload_n 0, 1) := by decide +kernel
theorem dQ_isUsedOnce_203 : decode prog_10_method_29_code 203 = .ok (.getfield 77, 3) := by decide +kernel
theorem dQ_isUsedOnce_206 : decode prog_10_method_29_code 206 = .ok (.iload 13, 2) := by decide +kernel
theorem dQ_isUsedOnce_208 : decode prog_10_method_29_code 208 = .ok (.iaload, 1) := by decide +kernel
theorem dQ_isUsedOnce_209 : decode prog_10_method_29_code 209 = .ok (.if_icmp .ge 13, 3) := by decide +kernel
theorem dQ_isUsedOnce_212 : decode prog_10_method_29_code 212 = .ok (.aload_n 0, 1) := by decide +kernel
theorem dQ_isUsedOnce_213 : decode prog_10_method_29_code 213 = .ok (.getfield 77, 3) := by decide +kernel
theorem dQ_isUsedOnce_216 : decode prog_10_method_29_code 216 = .ok (.iload 12, 2) := by decide +kernel
theorem dQ_isUsedOnce_218 : decode prog_10_method_29_code 218 = .ok (.iaload, 1) := by decide +kernel
theorem dQ_isUsedOnce_219 : decode prog_10_method_29_code 219 = .ok (.goto 10, 3) := by decide +kernel
theorem dQ_isUsedOnce_222 : decode prog_10_method_29_code 222 = .ok (.aload_n 0, 1) := by decide +kernel
theorem dQ_isUsedOnce_223 : decode prog_10_method_29_code 223 = .ok (.getfield 77, 3) := by decide +kernel
theorem dQ_isUsedOnce_226 : decode prog_10_method_29_code 226 = .ok (.iload 13, 2) := by decide +kernel
theorem dQ_isUsedOnce_228 : decode prog_10_method_29_code 228 = .ok (.iaload, 1) := by decide +kernel
theorem dQ_isUsedOnce_229 : decode prog_10_method_29_code 229 = .ok (.iadd, 1) := by decide +kernel
theorem dQ_isUsedOnce_230 : decode prog_10_method_29_code 230 = .ok (.istore 10, 2) := by decide +kernel
theorem dQ_isUsedOnce_232 : decode prog_10_method_29_code 232 = .ok (.iload 11, 2) := by decide +kernel
theorem dQ_isUsedOnce_234 : decode prog_10_method_29_code 234 = .ok (.aload_n 0, 1) := by decide +kernel
theorem dQ_isUsedOnce_235 : decode prog_10_method_29_code 235 = .ok (.getfield 80, 3) := by decide +kernel
theorem dQ_isUsedOnce_238 : decode prog_10_method_29_code 238 = .ok (.iload 12, 2) := by decide +kernel
theorem dQ_isUsedOnce_240 : decode prog_10_method_29_code 240 = .ok (.iaload, 1) := by decide +kernel
theorem dQ_isUsedOnce_241 : decode prog_10_method_29_code 241 = .ok (.aload_n 0, 1) := by decide +kernel
theorem dQ_isUsedOnce_242 : decode prog_10_method_29_code 242 = .ok (.getfield 80, 3) := by decide +kernel
theorem dQ_isUsedOnce_245 : decode prog_10_method_29_code 245 = .ok (.iload 13, 2) := by decide +kernel
theorem dQ_isUsedOnce_247 : decode prog_10_method_29_code 247 = .ok (.iaload, 1) := by decide +kernel
theorem dQ_isUsedOnce_248 : decode prog_10_method_29_code 248 = .ok (.if_icmp .le 13, 3) := by decide +kernel
theorem dQ_isUsedOnce_251 : decode prog_10_method_29_code 251 = .ok (.aload_n 0, 1) := by decide +kernel
theorem dQ_isUsedOnce_252 : decode prog_10_method_29_code 252 = .ok (.getfield 80, 3) := by decide +kernel
theorem dQ_isUsedOnce_255 : decode prog_10_method_29_code 255 = .ok (.iload 12, 2) := by decide +kernel
theorem dQ_isUsedOnce_257 : decode prog_10_method_29_code 257 = .ok (.iaload, 1) := by decide +kernel
theorem dQ_isUsedOnce_258 : decode prog_10_method_29_code 258 = .ok (.goto 10, 3) := by decide +kernel
theorem dQ_isUsedOnce_261 : decode prog_10_method_29_code 261 = .ok (.aload_n 0, 1) := by decide +kernel
theorem dQ_isUsedOnce_262 : decode prog_10_method_29_code 262 = .ok (.getfield 80, 3) := by decide +kernel
theorem dQ_isUsedOnce_265 : decode prog_10_method_29_code 265 = .ok (.iload 13, 2) := by decide +kernel
theorem dQ_isUsedOnce_267 : decode prog_10_method_29_code 267 = .ok (.iaload, 1) := by decide +kernel
theorem dQ_isUsedOnce_268 : decode prog_10_method_29_code 268 = .ok (.iadd, 1) := by decide +kernel
theorem dQ_isUsedOnce_269 : decode prog_10_method_29_code 269 = .ok (.istore 11, 2) := by decide +kernel
theorem dQ_isUsedOnce_271 : decode prog_10_method_29_code 271 = .ok (.aload_n 0, 1) := by decide +kernel
theorem dQ_isUsedOnce_272 : decode prog_10_method_29_code 272 = .ok (.getfield 77, 3) := by decide +kernel
theorem dQ_isUsedOnce_275 : decode prog_10_method_29_code 275 = .ok (.iload 6, 2) := by decide +kernel
theorem dQ_isUsedOnce_277 : decode prog_10_method_29_code 277 = .ok (.iload 10, 2) := by decide +kernel
theorem dQ_isUsedOnce_279 : decode prog_10_method_29_code 279 = .ok (.iconst 3, 1) := by decide +kernel
theorem dQ_isUsedOnce_280 : decode prog_10_method_29_code 280 = .ok (.if_icmp .le 7, 3) := by decide +kernel
theorem dQ_isUsedOnce_283 : decode prog_10_method_29_code 283 = .ok (.iconst 3, 1) := by decide +kernel
theorem dQ_isUsedOnce_284 : decode prog_10_method_29_code 284 = .ok (.goto 5, 3) := by decide +kernel
theorem dQ_isUsedOnce_287 : decode prog_10_method_29_code 287 = .ok (.iload 10, 2) := by decide +kernel
theorem dQ_isUsedOnce_289 : decode prog_10_method_29_code 289 = .ok (.iastore, 1) := by decide +kernel
theorem dQ_isUsedOnce_290 : decode prog_10_method_29_code 290 = .ok (.aload_n 0, 1) := by decide +kernel
theorem dQ_isUsedOnce_291 : decode prog_10_method_29_code 291 = .ok (.getfield 80, 3) := by decide +kernel
theorem dQ_isUsedOnce_294 : decode prog_10_method_29_code 294 = .ok (.iload 6, 2) := by decide +kernel
theorem dQ_isUsedOnce_296 : decode prog_10_method_29_code 296 = .ok (.iload 11, 2) := by decide +kernel
theorem dQ_isUsedOnce_298 : decode prog_10_method_29_code 298 = .ok (.iconst 3, 1) := by decide +kernel
theorem dQ_isUsedOnce_299 : decode prog_10_method_29_code 299 = .ok (.if_icmp .le 7, 3) := by decide +kernel
theorem dQ_isUsedOnce_302 : decode prog_10_method_29_code 302 = .ok (.iconst 3, 1) := by decide +kernel
theorem dQ_isUsedOnce_303 : decode prog_10_method_29_code 303 = .ok (.goto 5, 3) := by decide +kernel
theorem dQ_isUsedOnce_306 : decode prog_10_method_29_code 306 = .ok (.iload 11, 2) := by decide +kernel
theorem dQ_isUsedOnce_308 : decode prog_10_method_29_code 308 = .ok (.iastore, 1) := by decide +kernel
theorem dQ_isUsedOnce_309 : decode prog_10_method_29_code 309 = .ok (.iinc 6 (-1), 3) := by decide +kernel
theorem dQ_isUsedOnce_312 : decode prog_10_method_29_code 312 = .ok (.goto (-292), 3) := by decide +kernel
theorem dQ_isUsedOnce_315 : decode prog_10_method_29_code 315 = .ok (.aload_n 0, 1) := by decide +kernel
theorem dQ_isUsedOnce_316 : decode prog_10_method_29_code 316 = .ok (.getfield 77, 3) := by decide +kernel
theorem dQ_isUsedOnce_319 : decode prog_10_method_29_code 319 = .ok (.iload 4, 2) := by decide +kernel
theorem dQ_isUsedOnce_321 : decode prog_10_method_29_code 321 = .ok (.iaload, 1) := by decide +kernel
theorem dQ_isUsedOnce_322 : decode prog_10_method_29_code 322 = .ok (.iconst 1, 1) := by decide +kernel
theorem dQ_isUsedOnce_323 : decode prog_10_method_29_code 323 = .ok (.if_icmp .ne 18, 3) := by decide +kernel
theorem dQ_isUsedOnce_326 : decode prog_10_method_29_code 326 = .ok (.aload_n 0, 1) := by decide +kernel
theorem dQ_isUsedOnce_327 : decode prog_10_method_29_code 327 = .ok (.getfield 80, 3) := by decide +kernel
theorem dQ_isUsedOnce_330 : decode prog_10_method_29_code 330 = .ok (.iload 4, 2) := by decide +kernel
theorem dQ_isUsedOnce_332 : decode prog_10_method_29_code 332 = .ok (.iaload, 1) := by decide +kernel
theorem dQ_isUsedOnce_333 : decode prog_10_method_29_code 333 = .ok (.iconst 1, 1) := by decide +kernel
theorem dQ_isUsedOnce_334 : decode prog_10_method_29_code 334 = .ok (.if_icmp .ne 7, 3) := by decide +kernel
theorem dQ_isUsedOnce_337 : decode prog_10_method_29_code 337 = .ok (.iconst 1, 1) := by decide +kernel
theorem dQ_isUsedOnce_338 : decode prog_10_method_29_code 338 = .ok (.goto 4, 3) := by decide +kernel
theorem dQ_isUsedOnce_341 : decode prog_10_method_29_code 341 = .ok (.iconst 0, 1) := by decide +kernel
theorem dQ_isUsedOnce_342 : decode prog_10_method_29_code 342 = .ok (.ireturn, 1) := by decide +kernel
def fQ_isUsedOnce_308 (k20 : Int32 → Int32 → Int32 → Int32 → Int32 → lc_S → Option ((Int32) × lc_S)) (x2 : Int32) (x3 : Int32) (x4 : Int32) (x5 : Int32) (x6 : Int32) (t1 : Int32) (t2 : Int32) (z : lc_S) : Option ((Int32) × lc_S) :=
  lc_chk (lc_in t1 120) (lc_let (x6 + (-1)) (fun x309 => k20 x2 x3 x4 x5 x309 (lcUI z 104 t1.toNatClampNeg t2)))
def fQ_isUsedOnce_289 (k20 : Int32 → Int32 → Int32 → Int32 → Int32 → lc_S → Option ((Int32) × lc_S)) (x2 : Int32) (x3 : Int32) (x4 : Int32) (x5 : Int32) (x6 : Int32) (x11 : Int32) (t1 : Int32) (t2 : Int32) (z : lc_S) : Option ((Int32) × lc_S) :=
  lc_chk (lc_in t1 120) (if x11 ≤ 3 then (fQ_isUsedOnce_308 k20 x2 x3 x4 x5 x6 x6 x11 (lcUI z 103 t1.toNatClampNeg t2)) else (fQ_isUsedOnce_308 k20 x2 x3 x4 x5 x6 x6 3 (lcUI z 103 t1.toNatClampNeg t2)))
def fQ_isUsedOnce_271 (k20 : Int32 → Int32 → Int32 → Int32 → Int32 → lc_S → Option ((Int32) × lc_S)) (x2 : Int32) (x3 : Int32) (x4 : Int32) (x5 : Int32) (x6 : Int32) (x10 : Int32) (x11 : Int32) (z : lc_S) : Option ((Int32) × lc_S) :=
  if x10 ≤ 3 then (fQ_isUsedOnce_289 k20 x2 x3 x4 x5 x6 x11 x6 x10 z) else (fQ_isUsedOnce_289 k20 x2 x3 x4 x5 x6 x11 x6 3 z)
def fQ_isUsedOnce_268 (k20 : Int32 → Int32 → Int32 → Int32 → Int32 → lc_S → Option ((Int32) × lc_S)) (x2 : Int32) (x3 : Int32) (x4 : Int32) (x5 : Int32) (x6 : Int32) (x10 : Int32) (t0 : Int32) (t1 : Int32) (z : lc_S) : Option ((Int32) × lc_S) :=
  lc_let (t0 + t1) (fun x269 => fQ_isUsedOnce_271 k20 x2 x3 x4 x5 x6 x10 x269 z)
def fQ_isUsedOnce_229 (k20 : Int32 → Int32 → Int32 → Int32 → Int32 → lc_S → Option ((Int32) × lc_S)) (x2 : Int32) (x3 : Int32) (x4 : Int32) (x5 : Int32) (x6 : Int32) (x11 : Int32) (x12 : Int32) (x13 : Int32) (t0 : Int32) (t1 : Int32) (z : lc_S) : Option ((Int32) × lc_S) :=
  lc_let (t0 + t1) (fun x230 => lc_chk (lc_in x12 120) (lc_chk (lc_in x13 120) (if (lcI z 104 x12.toNatClampNeg) ≤ (lcI z 104 x13.toNatClampNeg) then (lc_chk (lc_in x13 120) (fQ_isUsedOnce_268 k20 x2 x3 x4 x5 x6 x230 x11 (lcI z 104 x13.toNatClampNeg) z)) else (lc_chk (lc_in x12 120) (fQ_isUsedOnce_268 k20 x2 x3 x4 x5 x6 x230 x11 (lcI z 104 x12.toNatClampNeg) z)))))
def fQ_isUsedOnce_169 (k20 : Int32 → Int32 → Int32 → Int32 → Int32 → lc_S → Option ((Int32) × lc_S)) (x2 : Int32) (x3 : Int32) (x4 : Int32) (x5 : Int32) (x6 : Int32) (x7 : Int32) (x9 : Int32) (x10 : Int32) (x11 : Int32) (z : lc_S) : Option ((Int32) × lc_S) :=
  if x9 = 3 then (lc_chk (lc_in x7 600) (lc_let (lcI z 85 x7.toNatClampNeg) (fun x182 => lc_chk (lc_in x7 600) (lc_let (lcI z 86 x7.toNatClampNeg) (fun x191 => lc_chk (lc_in x182 120) (lc_chk (lc_in x191 120) (if (lcI z 103 x191.toNatClampNeg) ≤ (lcI z 103 x182.toNatClampNeg) then (lc_chk (lc_in x191 120) (fQ_isUsedOnce_229 k20 x2 x3 x4 x5 x6 x11 x182 x191 x10 (lcI z 103 x191.toNatClampNeg) z)) else (lc_chk (lc_in x182 120) (fQ_isUsedOnce_229 k20 x2 x3 x4 x5 x6 x11 x182 x191 x10 (lcI z 103 x182.toNatClampNeg) z))))))))) else (fQ_isUsedOnce_271 k20 x2 x3 x4 x5 x6 x10 x11 z)
def fQ_isUsedOnce_129 (k20 : Int32 → Int32 → Int32 → Int32 → Int32 → lc_S → Option ((Int32) × lc_S)) (x2 : Int32) (x3 : Int32) (x4 : Int32) (x5 : Int32) (x6 : Int32) (x7 : Int32) (x9 : Int32) (x10 : Int32) (x11 : Int32) (z : lc_S) : Option ((Int32) × lc_S) :=
  if x9 = 2 then (lc_chk (lc_in x7 600) (lc_chk (lc_in (lcI z 85 x7.toNatClampNeg) 120) (lc_let (x10 + (lcI z 103 (lcI z 85 x7.toNatClampNeg).toNatClampNeg)) (fun x150 => lc_chk (lc_in x7 600) (lc_chk (lc_in (lcI z 85 x7.toNatClampNeg) 120) (lc_let (x11 + (lcI z 104 (lcI z 85 x7.toNatClampNeg).toNatClampNeg)) (fun x167 => fQ_isUsedOnce_169 k20 x2 x3 x4 x5 x6 x7 x9 x150 x167 z))))))) else (fQ_isUsedOnce_169 k20 x2 x3 x4 x5 x6 x7 x9 x10 x11 z)
def fQ_isUsedOnce_84 (k20 : Int32 → Int32 → Int32 → Int32 → Int32 → lc_S → Option ((Int32) × lc_S)) (x2 : Int32) (x3 : Int32) (x4 : Int32) (x5 : Int32) (x6 : Int32) (x7 : Int32) (x9 : Int32) (t0 : Int32) (z : lc_S) : Option ((Int32) × lc_S) :=
  if x9 ≤ 0 then (fQ_isUsedOnce_129 k20 x2 x3 x4 x5 x6 x7 x9 t0 t0 z) else (lc_chk (lc_in x7 600) (lc_chk (lc_in (lcI z 84 x7.toNatClampNeg) 120) (lc_let (t0 + (lcI z 103 (lcI z 84 x7.toNatClampNeg).toNatClampNeg)) (fun x110 => lc_chk (lc_in x7 600) (lc_chk (lc_in (lcI z 84 x7.toNatClampNeg) 120) (lc_let (t0 + (lcI z 104 (lcI z 84 x7.toNatClampNeg).toNatClampNeg)) (fun x127 => fQ_isUsedOnce_129 k20 x2 x3 x4 x5 x6 x7 x9 x110 x127 z)))))))
def fQ_isUsedOnce_83 (k20 : Int32 → Int32 → Int32 → Int32 → Int32 → lc_S → Option ((Int32) × lc_S)) (x2 : Int32) (x3 : Int32) (x4 : Int32) (x5 : Int32) (x6 : Int32) (x7 : Int32) (x9 : Int32) (z : lc_S) : Option ((Int32) × lc_S) :=
  fQ_isUsedOnce_84 k20 x2 x3 x4 x5 x6 x7 x9 0 z
def fQ_isUsedOnce_341 (z : lc_S) : Option ((Int32) × lc_S) :=
  some (0, z)
def fQ_isUsedOnce_20 : Nat → Int32 → Int32 → Int32 → Int32 → Int32 → lc_S → Option ((Int32) × lc_S)
  | 0, _, _, _, _, _, _ => none
  | n + 1, x2, x3, x4, x5, x6, z => if x6 < x4 then (lc_chk (lc_in x4 120) (if (lcI z 103 x4.toNatClampNeg) = 1 then (lc_chk (lc_in x4 120) (if (lcI z 104 x4.toNatClampNeg) = 1 then (some (1, z)) else (fQ_isUsedOnce_341 z))) else (fQ_isUsedOnce_341 z))) else (lc_let (x5 + x6) (fun x32 => lc_chk (lc_in x32 600) (lc_let (lcI z 82 x32.toNatClampNeg) (fun x41 => lc_bnd (fQ_partsOf x41 z) (fun r45 z45 => if x41 = 120 then (lc_chk (lc_in x32 600) (if (lcI z45 87 x32.toNatClampNeg) = x2 then (lc_chk (lc_in x32 600) (if (lcI z45 88 x32.toNatClampNeg) = x3 then (fQ_isUsedOnce_84 (fQ_isUsedOnce_20 n) x2 x3 x4 x5 x6 x32 r45 1 z45) else (fQ_isUsedOnce_83 (fQ_isUsedOnce_20 n) x2 x3 x4 x5 x6 x32 r45 z45))) else (fQ_isUsedOnce_83 (fQ_isUsedOnce_20 n) x2 x3 x4 x5 x6 x32 r45 z45))) else (fQ_isUsedOnce_83 (fQ_isUsedOnce_20 n) x2 x3 x4 x5 x6 x32 r45 z45))))))
def fQ_isUsedOnce (a1 : Int32) (a2 : Int32) (a3 : Int32) (a4 : Int32) (z : lc_S) : Option ((Int32) × lc_S) :=
  lc_let (120 * (a1 + 1)) (fun x6 => lc_chk (lc_in (a1 + 1) 5) (lc_let ((lcI z 89 (a1 + 1).toNatClampNeg) - 1) (fun x18 => fQ_isUsedOnce_20 lc_FU a2 a3 a4 x6 x18 z)))
set_option maxHeartbeats 4000000 in
set_option maxRecDepth 100000 in
theorem bQ_isUsedOnce_308 {p : Program} {l : Launch} {e : Env} {s : State} {m : MethodId} {args : Array Value} {below : List Frame} {meth : Method} {c : Code} {G : lc_G} (hx : p.tables.exec = Jvm.exec) (hb : c.code = prog_10_method_29_code) (hml : c.maxLocals = 14) (hr : meth.sig.returnType = (some .boolean)) (hlocks : meth.locks = false) (hown : s.vm.findClass "LinearCellsModel" = some m.cls) (hts : ∀ w ∈ lc_ALL, w.before args s = true) (hE : lc_E G s) {k20 : Int32 → Int32 → Int32 → Int32 → Int32 → lc_S → Option ((Int32) × lc_S)} {r : Int32} {z' : lc_S} (hk20 : ∀ {x2 : Int32} {x3 : Int32} {x4 : Int32} {x5 : Int32} {x6 : Int32} {z : lc_S} {H : Heap} {locs : List Loc} {ls : Array Slot}, k20 x2 x3 x4 x5 x6 z = some (r, z') → lv_has ls 14 [(0, .ref (lc_ad G 80)), (2, .int x2), (3, .int x3), (4, .int x4), (5, .int x5), (6, .int x6)] → lc_H G z s.heap H locs → W p l e (lc_rm 2) s m args below meth c H locs 0 0 (MQ below (lc_Q G (some (.int r)) z') args s 0 0 (lc_A G)) (F0 m 20 ls [])) : ∀ {x2 : Int32} {x3 : Int32} {x4 : Int32} {x5 : Int32} {x6 : Int32} {t1 : Int32} {t2 : Int32} {z : lc_S} {H : Heap} {locs : List Loc} {ls : Array Slot}, fQ_isUsedOnce_308 k20 x2 x3 x4 x5 x6 t1 t2 z = some (r, z') → lv_has ls 14 [(0, .ref (lc_ad G 80)), (2, .int x2), (3, .int x3), (4, .int x4), (5, .int x5), (6, .int x6)] → lc_H G z s.heap H locs → W p l e (lc_rm 2) s m args below meth c H locs 0 0 (MQ below (lc_Q G (some (.int r)) z') args s 0 0 (lc_A G)) (F0 m 308 ls [.int t2, .int t1, .ref (lc_ad G 104)]) := by
  intro x2 x3 x4 x5 x6 t1 t2 z H locs ls hf hl hH
  rw [fQ_isUsedOnce_308] at hf
  obtain ⟨hi308, hf⟩ := lc_chk_some hf
  refine lc_iast hx hb hE hH lc_h104 rfl hi308 dQ_isUsedOnce_308 (fun H locs hH => ?_)
  obtain ⟨x309, e309⟩ : ∃ x : Int32, x = x6 + (-1) := ⟨_, rfl⟩
  replace hf := lc_let_of e309 hf
  refine lv_iinc (k := 5) (v := x309) hx hb dQ_isUsedOnce_309 hl rfl ((lc_incv _ (by decide)).trans e309.symm) (by decide) rfl (fun ls hl => ?_)
  replace hl : lv_has ls 14 [(6, .int x309), (0, .ref (lc_ad G 80)), (2, .int x2), (3, .int x3), (4, .int x4), (5, .int x5)] := hl
  refine lv_goto (tgt := 20) hx hb dQ_isUsedOnce_312 (by decide) ?_
  exact hk20 hf (lv_sub hl [1, 2, 3, 4, 5, 0] rfl) hH
set_option maxHeartbeats 4000000 in
set_option maxRecDepth 100000 in
theorem bQ_isUsedOnce_289 {p : Program} {l : Launch} {e : Env} {s : State} {m : MethodId} {args : Array Value} {below : List Frame} {meth : Method} {c : Code} {G : lc_G} (hx : p.tables.exec = Jvm.exec) (hb : c.code = prog_10_method_29_code) (hml : c.maxLocals = 14) (hr : meth.sig.returnType = (some .boolean)) (hlocks : meth.locks = false) (hown : s.vm.findClass "LinearCellsModel" = some m.cls) (hts : ∀ w ∈ lc_ALL, w.before args s = true) (hE : lc_E G s) {k20 : Int32 → Int32 → Int32 → Int32 → Int32 → lc_S → Option ((Int32) × lc_S)} {r : Int32} {z' : lc_S} (hk20 : ∀ {x2 : Int32} {x3 : Int32} {x4 : Int32} {x5 : Int32} {x6 : Int32} {z : lc_S} {H : Heap} {locs : List Loc} {ls : Array Slot}, k20 x2 x3 x4 x5 x6 z = some (r, z') → lv_has ls 14 [(0, .ref (lc_ad G 80)), (2, .int x2), (3, .int x3), (4, .int x4), (5, .int x5), (6, .int x6)] → lc_H G z s.heap H locs → W p l e (lc_rm 2) s m args below meth c H locs 0 0 (MQ below (lc_Q G (some (.int r)) z') args s 0 0 (lc_A G)) (F0 m 20 ls [])) : ∀ {x2 : Int32} {x3 : Int32} {x4 : Int32} {x5 : Int32} {x6 : Int32} {x11 : Int32} {t1 : Int32} {t2 : Int32} {z : lc_S} {H : Heap} {locs : List Loc} {ls : Array Slot}, fQ_isUsedOnce_289 k20 x2 x3 x4 x5 x6 x11 t1 t2 z = some (r, z') → lv_has ls 14 [(0, .ref (lc_ad G 80)), (2, .int x2), (3, .int x3), (4, .int x4), (5, .int x5), (6, .int x6), (11, .int x11)] → lc_H G z s.heap H locs → W p l e (lc_rm 2) s m args below meth c H locs 0 0 (MQ below (lc_Q G (some (.int r)) z') args s 0 0 (lc_A G)) (F0 m 289 ls [.int t2, .int t1, .ref (lc_ad G 103)]) := by
  intro x2 x3 x4 x5 x6 x11 t1 t2 z H locs ls hf hl hH
  rw [fQ_isUsedOnce_289] at hf
  obtain ⟨hi289, hf⟩ := lc_chk_some hf
  refine lc_iast hx hb hE hH lc_h103 rfl hi289 dQ_isUsedOnce_289 (fun H locs hH => ?_)
  refine lv_aload_n hx hb dQ_isUsedOnce_290 rfl (lv_at hl 0 rfl) ?_
  refine lc_getf (d := 24) (q := 104) hx hb hts hown hE hH flQ_80 lc_h80 rfl rfl dQ_isUsedOnce_291 ?_
  refine lv_iload hx hb dQ_isUsedOnce_294 (lv_at hl 5 rfl) ?_
  refine lv_iload hx hb dQ_isUsedOnce_296 (lv_at hl 6 rfl) ?_
  refine lv_iconst (v := 3) hx hb dQ_isUsedOnce_298 (by decide) ?_
  refine lv_icmp_le (tgt := 306) hx hb dQ_isUsedOnce_299 (by decide) (fun hc => ?_) (fun hc => ?_)
  · replace hf := lc_ite_pos hc hf
    refine lv_iload hx hb dQ_isUsedOnce_306 (lv_at hl 6 rfl) ?_
    exact bQ_isUsedOnce_308 hx hb hml hr hlocks hown hts hE (fun hf hl hH => hk20 hf hl hH) hf (lv_sub hl [0, 1, 2, 3, 4, 5] rfl) hH
  · replace hf := lc_ite_neg hc hf
    refine lv_iconst (v := 3) hx hb dQ_isUsedOnce_302 (by decide) ?_
    refine lv_goto (tgt := 308) hx hb dQ_isUsedOnce_303 (by decide) ?_
    exact bQ_isUsedOnce_308 hx hb hml hr hlocks hown hts hE (fun hf hl hH => hk20 hf hl hH) hf (lv_sub hl [0, 1, 2, 3, 4, 5] rfl) hH
set_option maxHeartbeats 4000000 in
set_option maxRecDepth 100000 in
theorem bQ_isUsedOnce_271 {p : Program} {l : Launch} {e : Env} {s : State} {m : MethodId} {args : Array Value} {below : List Frame} {meth : Method} {c : Code} {G : lc_G} (hx : p.tables.exec = Jvm.exec) (hb : c.code = prog_10_method_29_code) (hml : c.maxLocals = 14) (hr : meth.sig.returnType = (some .boolean)) (hlocks : meth.locks = false) (hown : s.vm.findClass "LinearCellsModel" = some m.cls) (hts : ∀ w ∈ lc_ALL, w.before args s = true) (hE : lc_E G s) {k20 : Int32 → Int32 → Int32 → Int32 → Int32 → lc_S → Option ((Int32) × lc_S)} {r : Int32} {z' : lc_S} (hk20 : ∀ {x2 : Int32} {x3 : Int32} {x4 : Int32} {x5 : Int32} {x6 : Int32} {z : lc_S} {H : Heap} {locs : List Loc} {ls : Array Slot}, k20 x2 x3 x4 x5 x6 z = some (r, z') → lv_has ls 14 [(0, .ref (lc_ad G 80)), (2, .int x2), (3, .int x3), (4, .int x4), (5, .int x5), (6, .int x6)] → lc_H G z s.heap H locs → W p l e (lc_rm 2) s m args below meth c H locs 0 0 (MQ below (lc_Q G (some (.int r)) z') args s 0 0 (lc_A G)) (F0 m 20 ls [])) : ∀ {x2 : Int32} {x3 : Int32} {x4 : Int32} {x5 : Int32} {x6 : Int32} {x10 : Int32} {x11 : Int32} {z : lc_S} {H : Heap} {locs : List Loc} {ls : Array Slot}, fQ_isUsedOnce_271 k20 x2 x3 x4 x5 x6 x10 x11 z = some (r, z') → lv_has ls 14 [(0, .ref (lc_ad G 80)), (2, .int x2), (3, .int x3), (4, .int x4), (5, .int x5), (6, .int x6), (10, .int x10), (11, .int x11)] → lc_H G z s.heap H locs → W p l e (lc_rm 2) s m args below meth c H locs 0 0 (MQ below (lc_Q G (some (.int r)) z') args s 0 0 (lc_A G)) (F0 m 271 ls []) := by
  intro x2 x3 x4 x5 x6 x10 x11 z H locs ls hf hl hH
  rw [fQ_isUsedOnce_271] at hf
  refine lv_aload_n hx hb dQ_isUsedOnce_271 rfl (lv_at hl 0 rfl) ?_
  refine lc_getf (d := 23) (q := 103) hx hb hts hown hE hH flQ_77 lc_h80 rfl rfl dQ_isUsedOnce_272 ?_
  refine lv_iload hx hb dQ_isUsedOnce_275 (lv_at hl 5 rfl) ?_
  refine lv_iload hx hb dQ_isUsedOnce_277 (lv_at hl 6 rfl) ?_
  refine lv_iconst (v := 3) hx hb dQ_isUsedOnce_279 (by decide) ?_
  refine lv_icmp_le (tgt := 287) hx hb dQ_isUsedOnce_280 (by decide) (fun hc => ?_) (fun hc => ?_)
  · replace hf := lc_ite_pos hc hf
    refine lv_iload hx hb dQ_isUsedOnce_287 (lv_at hl 6 rfl) ?_
    exact bQ_isUsedOnce_289 hx hb hml hr hlocks hown hts hE (fun hf hl hH => hk20 hf hl hH) hf (lv_sub hl [0, 1, 2, 3, 4, 5, 7] rfl) hH
  · replace hf := lc_ite_neg hc hf
    refine lv_iconst (v := 3) hx hb dQ_isUsedOnce_283 (by decide) ?_
    refine lv_goto (tgt := 289) hx hb dQ_isUsedOnce_284 (by decide) ?_
    exact bQ_isUsedOnce_289 hx hb hml hr hlocks hown hts hE (fun hf hl hH => hk20 hf hl hH) hf (lv_sub hl [0, 1, 2, 3, 4, 5, 7] rfl) hH
set_option maxHeartbeats 4000000 in
set_option maxRecDepth 100000 in
theorem bQ_isUsedOnce_268 {p : Program} {l : Launch} {e : Env} {s : State} {m : MethodId} {args : Array Value} {below : List Frame} {meth : Method} {c : Code} {G : lc_G} (hx : p.tables.exec = Jvm.exec) (hb : c.code = prog_10_method_29_code) (hml : c.maxLocals = 14) (hr : meth.sig.returnType = (some .boolean)) (hlocks : meth.locks = false) (hown : s.vm.findClass "LinearCellsModel" = some m.cls) (hts : ∀ w ∈ lc_ALL, w.before args s = true) (hE : lc_E G s) {k20 : Int32 → Int32 → Int32 → Int32 → Int32 → lc_S → Option ((Int32) × lc_S)} {r : Int32} {z' : lc_S} (hk20 : ∀ {x2 : Int32} {x3 : Int32} {x4 : Int32} {x5 : Int32} {x6 : Int32} {z : lc_S} {H : Heap} {locs : List Loc} {ls : Array Slot}, k20 x2 x3 x4 x5 x6 z = some (r, z') → lv_has ls 14 [(0, .ref (lc_ad G 80)), (2, .int x2), (3, .int x3), (4, .int x4), (5, .int x5), (6, .int x6)] → lc_H G z s.heap H locs → W p l e (lc_rm 2) s m args below meth c H locs 0 0 (MQ below (lc_Q G (some (.int r)) z') args s 0 0 (lc_A G)) (F0 m 20 ls [])) : ∀ {x2 : Int32} {x3 : Int32} {x4 : Int32} {x5 : Int32} {x6 : Int32} {x10 : Int32} {t0 : Int32} {t1 : Int32} {z : lc_S} {H : Heap} {locs : List Loc} {ls : Array Slot}, fQ_isUsedOnce_268 k20 x2 x3 x4 x5 x6 x10 t0 t1 z = some (r, z') → lv_has ls 14 [(0, .ref (lc_ad G 80)), (2, .int x2), (3, .int x3), (4, .int x4), (5, .int x5), (6, .int x6), (10, .int x10)] → lc_H G z s.heap H locs → W p l e (lc_rm 2) s m args below meth c H locs 0 0 (MQ below (lc_Q G (some (.int r)) z') args s 0 0 (lc_A G)) (F0 m 268 ls [.int t1, .int t0]) := by
  intro x2 x3 x4 x5 x6 x10 t0 t1 z H locs ls hf hl hH
  rw [fQ_isUsedOnce_268] at hf
  refine lv_iadd hx hb dQ_isUsedOnce_268 ?_
  refine lv_topi (fun x269 e269 => ?_)
  replace hf := lc_let_of e269 hf
  refine lv_istore hx hb dQ_isUsedOnce_269 hl (by decide) rfl (fun ls hl => ?_)
  replace hl : lv_has ls 14 [(11, .int x269), (0, .ref (lc_ad G 80)), (2, .int x2), (3, .int x3), (4, .int x4), (5, .int x5), (6, .int x6), (10, .int x10)] := hl
  exact bQ_isUsedOnce_271 hx hb hml hr hlocks hown hts hE (fun hf hl hH => hk20 hf hl hH) hf (lv_sub hl [1, 2, 3, 4, 5, 6, 7, 0] rfl) hH
set_option maxHeartbeats 4000000 in
set_option maxRecDepth 100000 in
theorem bQ_isUsedOnce_229 {p : Program} {l : Launch} {e : Env} {s : State} {m : MethodId} {args : Array Value} {below : List Frame} {meth : Method} {c : Code} {G : lc_G} (hx : p.tables.exec = Jvm.exec) (hb : c.code = prog_10_method_29_code) (hml : c.maxLocals = 14) (hr : meth.sig.returnType = (some .boolean)) (hlocks : meth.locks = false) (hown : s.vm.findClass "LinearCellsModel" = some m.cls) (hts : ∀ w ∈ lc_ALL, w.before args s = true) (hE : lc_E G s) {k20 : Int32 → Int32 → Int32 → Int32 → Int32 → lc_S → Option ((Int32) × lc_S)} {r : Int32} {z' : lc_S} (hk20 : ∀ {x2 : Int32} {x3 : Int32} {x4 : Int32} {x5 : Int32} {x6 : Int32} {z : lc_S} {H : Heap} {locs : List Loc} {ls : Array Slot}, k20 x2 x3 x4 x5 x6 z = some (r, z') → lv_has ls 14 [(0, .ref (lc_ad G 80)), (2, .int x2), (3, .int x3), (4, .int x4), (5, .int x5), (6, .int x6)] → lc_H G z s.heap H locs → W p l e (lc_rm 2) s m args below meth c H locs 0 0 (MQ below (lc_Q G (some (.int r)) z') args s 0 0 (lc_A G)) (F0 m 20 ls [])) : ∀ {x2 : Int32} {x3 : Int32} {x4 : Int32} {x5 : Int32} {x6 : Int32} {x11 : Int32} {x12 : Int32} {x13 : Int32} {t0 : Int32} {t1 : Int32} {z : lc_S} {H : Heap} {locs : List Loc} {ls : Array Slot}, fQ_isUsedOnce_229 k20 x2 x3 x4 x5 x6 x11 x12 x13 t0 t1 z = some (r, z') → lv_has ls 14 [(0, .ref (lc_ad G 80)), (2, .int x2), (3, .int x3), (4, .int x4), (5, .int x5), (6, .int x6), (11, .int x11), (12, .int x12), (13, .int x13)] → lc_H G z s.heap H locs → W p l e (lc_rm 2) s m args below meth c H locs 0 0 (MQ below (lc_Q G (some (.int r)) z') args s 0 0 (lc_A G)) (F0 m 229 ls [.int t1, .int t0]) := by
  intro x2 x3 x4 x5 x6 x11 x12 x13 t0 t1 z H locs ls hf hl hH
  rw [fQ_isUsedOnce_229] at hf
  refine lv_iadd hx hb dQ_isUsedOnce_229 ?_
  refine lv_topi (fun x230 e230 => ?_)
  replace hf := lc_let_of e230 hf
  refine lv_istore hx hb dQ_isUsedOnce_230 hl (by decide) rfl (fun ls hl => ?_)
  replace hl : lv_has ls 14 [(10, .int x230), (0, .ref (lc_ad G 80)), (2, .int x2), (3, .int x3), (4, .int x4), (5, .int x5), (6, .int x6), (11, .int x11), (12, .int x12), (13, .int x13)] := hl
  refine lv_iload hx hb dQ_isUsedOnce_232 (lv_at hl 7 rfl) ?_
  refine lv_aload_n hx hb dQ_isUsedOnce_234 rfl (lv_at hl 1 rfl) ?_
  refine lc_getf (d := 24) (q := 104) hx hb hts hown hE hH flQ_80 lc_h80 rfl rfl dQ_isUsedOnce_235 ?_
  refine lv_iload hx hb dQ_isUsedOnce_238 (lv_at hl 8 rfl) ?_
  obtain ⟨hi240, hf⟩ := lc_chk_some hf
  refine lc_iald hx hb hE hH lc_h104 rfl hi240 dQ_isUsedOnce_240 ?_
  refine lv_aload_n hx hb dQ_isUsedOnce_241 rfl (lv_at hl 1 rfl) ?_
  refine lc_getf (d := 24) (q := 104) hx hb hts hown hE hH flQ_80 lc_h80 rfl rfl dQ_isUsedOnce_242 ?_
  refine lv_iload hx hb dQ_isUsedOnce_245 (lv_at hl 9 rfl) ?_
  obtain ⟨hi247, hf⟩ := lc_chk_some hf
  refine lc_iald hx hb hE hH lc_h104 rfl hi247 dQ_isUsedOnce_247 ?_
  refine lv_icmp_le (tgt := 261) hx hb dQ_isUsedOnce_248 (by decide) (fun hc => ?_) (fun hc => ?_)
  · replace hf := lc_ite_pos hc hf
    refine lv_aload_n hx hb dQ_isUsedOnce_261 rfl (lv_at hl 1 rfl) ?_
    refine lc_getf (d := 24) (q := 104) hx hb hts hown hE hH flQ_80 lc_h80 rfl rfl dQ_isUsedOnce_262 ?_
    refine lv_iload hx hb dQ_isUsedOnce_265 (lv_at hl 9 rfl) ?_
    obtain ⟨hi267, hf⟩ := lc_chk_some hf
    refine lc_iald hx hb hE hH lc_h104 rfl hi267 dQ_isUsedOnce_267 ?_
    exact bQ_isUsedOnce_268 hx hb hml hr hlocks hown hts hE (fun hf hl hH => hk20 hf hl hH) hf (lv_sub hl [1, 2, 3, 4, 5, 6, 0] rfl) hH
  · replace hf := lc_ite_neg hc hf
    refine lv_aload_n hx hb dQ_isUsedOnce_251 rfl (lv_at hl 1 rfl) ?_
    refine lc_getf (d := 24) (q := 104) hx hb hts hown hE hH flQ_80 lc_h80 rfl rfl dQ_isUsedOnce_252 ?_
    refine lv_iload hx hb dQ_isUsedOnce_255 (lv_at hl 8 rfl) ?_
    obtain ⟨hi257, hf⟩ := lc_chk_some hf
    refine lc_iald hx hb hE hH lc_h104 rfl hi257 dQ_isUsedOnce_257 ?_
    refine lv_goto (tgt := 268) hx hb dQ_isUsedOnce_258 (by decide) ?_
    exact bQ_isUsedOnce_268 hx hb hml hr hlocks hown hts hE (fun hf hl hH => hk20 hf hl hH) hf (lv_sub hl [1, 2, 3, 4, 5, 6, 0] rfl) hH
set_option maxHeartbeats 4000000 in
set_option maxRecDepth 100000 in
theorem bQ_isUsedOnce_169 {p : Program} {l : Launch} {e : Env} {s : State} {m : MethodId} {args : Array Value} {below : List Frame} {meth : Method} {c : Code} {G : lc_G} (hx : p.tables.exec = Jvm.exec) (hb : c.code = prog_10_method_29_code) (hml : c.maxLocals = 14) (hr : meth.sig.returnType = (some .boolean)) (hlocks : meth.locks = false) (hown : s.vm.findClass "LinearCellsModel" = some m.cls) (hts : ∀ w ∈ lc_ALL, w.before args s = true) (hE : lc_E G s) {k20 : Int32 → Int32 → Int32 → Int32 → Int32 → lc_S → Option ((Int32) × lc_S)} {r : Int32} {z' : lc_S} (hk20 : ∀ {x2 : Int32} {x3 : Int32} {x4 : Int32} {x5 : Int32} {x6 : Int32} {z : lc_S} {H : Heap} {locs : List Loc} {ls : Array Slot}, k20 x2 x3 x4 x5 x6 z = some (r, z') → lv_has ls 14 [(0, .ref (lc_ad G 80)), (2, .int x2), (3, .int x3), (4, .int x4), (5, .int x5), (6, .int x6)] → lc_H G z s.heap H locs → W p l e (lc_rm 2) s m args below meth c H locs 0 0 (MQ below (lc_Q G (some (.int r)) z') args s 0 0 (lc_A G)) (F0 m 20 ls [])) : ∀ {x2 : Int32} {x3 : Int32} {x4 : Int32} {x5 : Int32} {x6 : Int32} {x7 : Int32} {x9 : Int32} {x10 : Int32} {x11 : Int32} {z : lc_S} {H : Heap} {locs : List Loc} {ls : Array Slot}, fQ_isUsedOnce_169 k20 x2 x3 x4 x5 x6 x7 x9 x10 x11 z = some (r, z') → lv_has ls 14 [(0, .ref (lc_ad G 80)), (2, .int x2), (3, .int x3), (4, .int x4), (5, .int x5), (6, .int x6), (7, .int x7), (9, .int x9), (10, .int x10), (11, .int x11)] → lc_H G z s.heap H locs → W p l e (lc_rm 2) s m args below meth c H locs 0 0 (MQ below (lc_Q G (some (.int r)) z') args s 0 0 (lc_A G)) (F0 m 169 ls []) := by
  intro x2 x3 x4 x5 x6 x7 x9 x10 x11 z H locs ls hf hl hH
  rw [fQ_isUsedOnce_169] at hf
  refine lv_iload hx hb dQ_isUsedOnce_169 (lv_at hl 7 rfl) ?_
  refine lv_iconst (v := 3) hx hb dQ_isUsedOnce_171 (by decide) ?_
  refine lv_icmp_ne (tgt := 271) hx hb dQ_isUsedOnce_172 (by decide) (fun hc => ?_) (fun hc => ?_)
  · replace hf := lc_ite_neg hc hf
    exact bQ_isUsedOnce_271 hx hb hml hr hlocks hown hts hE (fun hf hl hH => hk20 hf hl hH) hf (lv_sub hl [0, 1, 2, 3, 4, 5, 8, 9] rfl) hH
  · replace hf := lc_ite_pos hc hf
    refine lv_aload_n hx hb dQ_isUsedOnce_175 rfl (lv_at hl 0 rfl) ?_
    refine lc_getf (d := 5) (q := 85) hx hb hts hown hE hH flQ_22 lc_h80 rfl rfl dQ_isUsedOnce_176 ?_
    refine lv_iload hx hb dQ_isUsedOnce_179 (lv_at hl 6 rfl) ?_
    obtain ⟨hi181, hf⟩ := lc_chk_some hf
    refine lc_iald hx hb hE hH lc_h85 rfl hi181 dQ_isUsedOnce_181 ?_
    refine lv_topi (fun x182 e182 => ?_)
    replace hf := lc_let_of e182 hf
    refine lv_istore hx hb dQ_isUsedOnce_182 hl (by decide) rfl (fun ls hl => ?_)
    replace hl : lv_has ls 14 [(12, .int x182), (0, .ref (lc_ad G 80)), (2, .int x2), (3, .int x3), (4, .int x4), (5, .int x5), (6, .int x6), (7, .int x7), (9, .int x9), (10, .int x10), (11, .int x11)] := hl
    refine lv_aload_n hx hb dQ_isUsedOnce_184 rfl (lv_at hl 1 rfl) ?_
    refine lc_getf (d := 6) (q := 86) hx hb hts hown hE hH flQ_25 lc_h80 rfl rfl dQ_isUsedOnce_185 ?_
    refine lv_iload hx hb dQ_isUsedOnce_188 (lv_at hl 7 rfl) ?_
    obtain ⟨hi190, hf⟩ := lc_chk_some hf
    refine lc_iald hx hb hE hH lc_h86 rfl hi190 dQ_isUsedOnce_190 ?_
    refine lv_topi (fun x191 e191 => ?_)
    replace hf := lc_let_of e191 hf
    refine lv_istore hx hb dQ_isUsedOnce_191 hl (by decide) rfl (fun ls hl => ?_)
    replace hl : lv_has ls 14 [(13, .int x191), (12, .int x182), (0, .ref (lc_ad G 80)), (2, .int x2), (3, .int x3), (4, .int x4), (5, .int x5), (6, .int x6), (7, .int x7), (9, .int x9), (10, .int x10), (11, .int x11)] := hl
    refine lv_iload hx hb dQ_isUsedOnce_193 (lv_at hl 10 rfl) ?_
    refine lv_aload_n hx hb dQ_isUsedOnce_195 rfl (lv_at hl 2 rfl) ?_
    refine lc_getf (d := 23) (q := 103) hx hb hts hown hE hH flQ_77 lc_h80 rfl rfl dQ_isUsedOnce_196 ?_
    refine lv_iload hx hb dQ_isUsedOnce_199 (lv_at hl 1 rfl) ?_
    obtain ⟨hi201, hf⟩ := lc_chk_some hf
    refine lc_iald hx hb hE hH lc_h103 rfl hi201 dQ_isUsedOnce_201 ?_
    refine lv_aload_n hx hb dQ_isUsedOnce_202 rfl (lv_at hl 2 rfl) ?_
    refine lc_getf (d := 23) (q := 103) hx hb hts hown hE hH flQ_77 lc_h80 rfl rfl dQ_isUsedOnce_203 ?_
    refine lv_iload hx hb dQ_isUsedOnce_206 (lv_at hl 0 rfl) ?_
    obtain ⟨hi208, hf⟩ := lc_chk_some hf
    refine lc_iald hx hb hE hH lc_h103 rfl hi208 dQ_isUsedOnce_208 ?_
    refine lv_icmp_ge (tgt := 222) hx hb dQ_isUsedOnce_209 (by decide) (fun hc => ?_) (fun hc => ?_)
    · replace hf := lc_ite_pos hc hf
      refine lv_aload_n hx hb dQ_isUsedOnce_222 rfl (lv_at hl 2 rfl) ?_
      refine lc_getf (d := 23) (q := 103) hx hb hts hown hE hH flQ_77 lc_h80 rfl rfl dQ_isUsedOnce_223 ?_
      refine lv_iload hx hb dQ_isUsedOnce_226 (lv_at hl 0 rfl) ?_
      obtain ⟨hi228, hf⟩ := lc_chk_some hf
      refine lc_iald hx hb hE hH lc_h103 rfl hi228 dQ_isUsedOnce_228 ?_
      exact bQ_isUsedOnce_229 hx hb hml hr hlocks hown hts hE (fun hf hl hH => hk20 hf hl hH) hf (lv_sub hl [2, 3, 4, 5, 6, 7, 11, 1, 0] rfl) hH
    · replace hf := lc_ite_neg hc hf
      refine lv_aload_n hx hb dQ_isUsedOnce_212 rfl (lv_at hl 2 rfl) ?_
      refine lc_getf (d := 23) (q := 103) hx hb hts hown hE hH flQ_77 lc_h80 rfl rfl dQ_isUsedOnce_213 ?_
      refine lv_iload hx hb dQ_isUsedOnce_216 (lv_at hl 1 rfl) ?_
      obtain ⟨hi218, hf⟩ := lc_chk_some hf
      refine lc_iald hx hb hE hH lc_h103 rfl hi218 dQ_isUsedOnce_218 ?_
      refine lv_goto (tgt := 229) hx hb dQ_isUsedOnce_219 (by decide) ?_
      exact bQ_isUsedOnce_229 hx hb hml hr hlocks hown hts hE (fun hf hl hH => hk20 hf hl hH) hf (lv_sub hl [2, 3, 4, 5, 6, 7, 11, 1, 0] rfl) hH
set_option maxHeartbeats 4000000 in
set_option maxRecDepth 100000 in
theorem bQ_isUsedOnce_129 {p : Program} {l : Launch} {e : Env} {s : State} {m : MethodId} {args : Array Value} {below : List Frame} {meth : Method} {c : Code} {G : lc_G} (hx : p.tables.exec = Jvm.exec) (hb : c.code = prog_10_method_29_code) (hml : c.maxLocals = 14) (hr : meth.sig.returnType = (some .boolean)) (hlocks : meth.locks = false) (hown : s.vm.findClass "LinearCellsModel" = some m.cls) (hts : ∀ w ∈ lc_ALL, w.before args s = true) (hE : lc_E G s) {k20 : Int32 → Int32 → Int32 → Int32 → Int32 → lc_S → Option ((Int32) × lc_S)} {r : Int32} {z' : lc_S} (hk20 : ∀ {x2 : Int32} {x3 : Int32} {x4 : Int32} {x5 : Int32} {x6 : Int32} {z : lc_S} {H : Heap} {locs : List Loc} {ls : Array Slot}, k20 x2 x3 x4 x5 x6 z = some (r, z') → lv_has ls 14 [(0, .ref (lc_ad G 80)), (2, .int x2), (3, .int x3), (4, .int x4), (5, .int x5), (6, .int x6)] → lc_H G z s.heap H locs → W p l e (lc_rm 2) s m args below meth c H locs 0 0 (MQ below (lc_Q G (some (.int r)) z') args s 0 0 (lc_A G)) (F0 m 20 ls [])) : ∀ {x2 : Int32} {x3 : Int32} {x4 : Int32} {x5 : Int32} {x6 : Int32} {x7 : Int32} {x9 : Int32} {x10 : Int32} {x11 : Int32} {z : lc_S} {H : Heap} {locs : List Loc} {ls : Array Slot}, fQ_isUsedOnce_129 k20 x2 x3 x4 x5 x6 x7 x9 x10 x11 z = some (r, z') → lv_has ls 14 [(0, .ref (lc_ad G 80)), (2, .int x2), (3, .int x3), (4, .int x4), (5, .int x5), (6, .int x6), (7, .int x7), (9, .int x9), (10, .int x10), (11, .int x11)] → lc_H G z s.heap H locs → W p l e (lc_rm 2) s m args below meth c H locs 0 0 (MQ below (lc_Q G (some (.int r)) z') args s 0 0 (lc_A G)) (F0 m 129 ls []) := by
  intro x2 x3 x4 x5 x6 x7 x9 x10 x11 z H locs ls hf hl hH
  rw [fQ_isUsedOnce_129] at hf
  refine lv_iload hx hb dQ_isUsedOnce_129 (lv_at hl 7 rfl) ?_
  refine lv_iconst (v := 2) hx hb dQ_isUsedOnce_131 (by decide) ?_
  refine lv_icmp_ne (tgt := 169) hx hb dQ_isUsedOnce_132 (by decide) (fun hc => ?_) (fun hc => ?_)
  · replace hf := lc_ite_neg hc hf
    exact bQ_isUsedOnce_169 hx hb hml hr hlocks hown hts hE (fun hf hl hH => hk20 hf hl hH) hf (lv_sub hl [0, 1, 2, 3, 4, 5, 6, 7, 8, 9] rfl) hH
  · replace hf := lc_ite_pos hc hf
    refine lv_iload hx hb dQ_isUsedOnce_135 (lv_at hl 8 rfl) ?_
    refine lv_aload_n hx hb dQ_isUsedOnce_137 rfl (lv_at hl 0 rfl) ?_
    refine lc_getf (d := 23) (q := 103) hx hb hts hown hE hH flQ_77 lc_h80 rfl rfl dQ_isUsedOnce_138 ?_
    refine lv_aload_n hx hb dQ_isUsedOnce_141 rfl (lv_at hl 0 rfl) ?_
    refine lc_getf (d := 5) (q := 85) hx hb hts hown hE hH flQ_22 lc_h80 rfl rfl dQ_isUsedOnce_142 ?_
    refine lv_iload hx hb dQ_isUsedOnce_145 (lv_at hl 6 rfl) ?_
    obtain ⟨hi147, hf⟩ := lc_chk_some hf
    refine lc_iald hx hb hE hH lc_h85 rfl hi147 dQ_isUsedOnce_147 ?_
    obtain ⟨hi148, hf⟩ := lc_chk_some hf
    refine lc_iald hx hb hE hH lc_h103 rfl hi148 dQ_isUsedOnce_148 ?_
    refine lv_iadd hx hb dQ_isUsedOnce_149 ?_
    refine lv_topi (fun x150 e150 => ?_)
    replace hf := lc_let_of e150 hf
    refine lv_istore hx hb dQ_isUsedOnce_150 hl (by decide) rfl (fun ls hl => ?_)
    replace hl : lv_has ls 14 [(10, .int x150), (0, .ref (lc_ad G 80)), (2, .int x2), (3, .int x3), (4, .int x4), (5, .int x5), (6, .int x6), (7, .int x7), (9, .int x9), (11, .int x11)] := hl
    refine lv_iload hx hb dQ_isUsedOnce_152 (lv_at hl 9 rfl) ?_
    refine lv_aload_n hx hb dQ_isUsedOnce_154 rfl (lv_at hl 1 rfl) ?_
    refine lc_getf (d := 24) (q := 104) hx hb hts hown hE hH flQ_80 lc_h80 rfl rfl dQ_isUsedOnce_155 ?_
    refine lv_aload_n hx hb dQ_isUsedOnce_158 rfl (lv_at hl 1 rfl) ?_
    refine lc_getf (d := 5) (q := 85) hx hb hts hown hE hH flQ_22 lc_h80 rfl rfl dQ_isUsedOnce_159 ?_
    refine lv_iload hx hb dQ_isUsedOnce_162 (lv_at hl 7 rfl) ?_
    obtain ⟨hi164, hf⟩ := lc_chk_some hf
    refine lc_iald hx hb hE hH lc_h85 rfl hi164 dQ_isUsedOnce_164 ?_
    obtain ⟨hi165, hf⟩ := lc_chk_some hf
    refine lc_iald hx hb hE hH lc_h104 rfl hi165 dQ_isUsedOnce_165 ?_
    refine lv_iadd hx hb dQ_isUsedOnce_166 ?_
    refine lv_topi (fun x167 e167 => ?_)
    replace hf := lc_let_of e167 hf
    refine lv_istore hx hb dQ_isUsedOnce_167 hl (by decide) rfl (fun ls hl => ?_)
    replace hl : lv_has ls 14 [(11, .int x167), (10, .int x150), (0, .ref (lc_ad G 80)), (2, .int x2), (3, .int x3), (4, .int x4), (5, .int x5), (6, .int x6), (7, .int x7), (9, .int x9)] := hl
    exact bQ_isUsedOnce_169 hx hb hml hr hlocks hown hts hE (fun hf hl hH => hk20 hf hl hH) hf (lv_sub hl [2, 3, 4, 5, 6, 7, 8, 9, 1, 0] rfl) hH
set_option maxHeartbeats 4000000 in
set_option maxRecDepth 100000 in
theorem bQ_isUsedOnce_84 {p : Program} {l : Launch} {e : Env} {s : State} {m : MethodId} {args : Array Value} {below : List Frame} {meth : Method} {c : Code} {G : lc_G} (hx : p.tables.exec = Jvm.exec) (hb : c.code = prog_10_method_29_code) (hml : c.maxLocals = 14) (hr : meth.sig.returnType = (some .boolean)) (hlocks : meth.locks = false) (hown : s.vm.findClass "LinearCellsModel" = some m.cls) (hts : ∀ w ∈ lc_ALL, w.before args s = true) (hE : lc_E G s) {k20 : Int32 → Int32 → Int32 → Int32 → Int32 → lc_S → Option ((Int32) × lc_S)} {r : Int32} {z' : lc_S} (hk20 : ∀ {x2 : Int32} {x3 : Int32} {x4 : Int32} {x5 : Int32} {x6 : Int32} {z : lc_S} {H : Heap} {locs : List Loc} {ls : Array Slot}, k20 x2 x3 x4 x5 x6 z = some (r, z') → lv_has ls 14 [(0, .ref (lc_ad G 80)), (2, .int x2), (3, .int x3), (4, .int x4), (5, .int x5), (6, .int x6)] → lc_H G z s.heap H locs → W p l e (lc_rm 2) s m args below meth c H locs 0 0 (MQ below (lc_Q G (some (.int r)) z') args s 0 0 (lc_A G)) (F0 m 20 ls [])) : ∀ {x2 : Int32} {x3 : Int32} {x4 : Int32} {x5 : Int32} {x6 : Int32} {x7 : Int32} {x9 : Int32} {t0 : Int32} {z : lc_S} {H : Heap} {locs : List Loc} {ls : Array Slot}, fQ_isUsedOnce_84 k20 x2 x3 x4 x5 x6 x7 x9 t0 z = some (r, z') → lv_has ls 14 [(0, .ref (lc_ad G 80)), (2, .int x2), (3, .int x3), (4, .int x4), (5, .int x5), (6, .int x6), (7, .int x7), (9, .int x9)] → lc_H G z s.heap H locs → W p l e (lc_rm 2) s m args below meth c H locs 0 0 (MQ below (lc_Q G (some (.int r)) z') args s 0 0 (lc_A G)) (F0 m 84 ls [.int t0]) := by
  intro x2 x3 x4 x5 x6 x7 x9 t0 z H locs ls hf hl hH
  rw [fQ_isUsedOnce_84] at hf
  refine lv_istore hx hb dQ_isUsedOnce_84 hl (by decide) rfl (fun ls hl => ?_)
  replace hl : lv_has ls 14 [(10, .int t0), (0, .ref (lc_ad G 80)), (2, .int x2), (3, .int x3), (4, .int x4), (5, .int x5), (6, .int x6), (7, .int x7), (9, .int x9)] := hl
  refine lv_iload hx hb dQ_isUsedOnce_86 (lv_at hl 0 rfl) ?_
  refine lv_istore hx hb dQ_isUsedOnce_88 hl (by decide) rfl (fun ls hl => ?_)
  replace hl : lv_has ls 14 [(11, .int t0), (10, .int t0), (0, .ref (lc_ad G 80)), (2, .int x2), (3, .int x3), (4, .int x4), (5, .int x5), (6, .int x6), (7, .int x7), (9, .int x9)] := hl
  refine lv_iload hx hb dQ_isUsedOnce_90 (lv_at hl 9 rfl) ?_
  refine lv_if_le (tgt := 129) hx hb dQ_isUsedOnce_92 (by decide) (fun hc => ?_) (fun hc => ?_)
  · replace hf := lc_ite_pos hc hf
    exact bQ_isUsedOnce_129 hx hb hml hr hlocks hown hts hE (fun hf hl hH => hk20 hf hl hH) hf (lv_sub hl [2, 3, 4, 5, 6, 7, 8, 9, 1, 0] rfl) hH
  · replace hf := lc_ite_neg hc hf
    refine lv_iload hx hb dQ_isUsedOnce_95 (lv_at hl 1 rfl) ?_
    refine lv_aload_n hx hb dQ_isUsedOnce_97 rfl (lv_at hl 2 rfl) ?_
    refine lc_getf (d := 23) (q := 103) hx hb hts hown hE hH flQ_77 lc_h80 rfl rfl dQ_isUsedOnce_98 ?_
    refine lv_aload_n hx hb dQ_isUsedOnce_101 rfl (lv_at hl 2 rfl) ?_
    refine lc_getf (d := 4) (q := 84) hx hb hts hown hE hH flQ_19 lc_h80 rfl rfl dQ_isUsedOnce_102 ?_
    refine lv_iload hx hb dQ_isUsedOnce_105 (lv_at hl 8 rfl) ?_
    obtain ⟨hi107, hf⟩ := lc_chk_some hf
    refine lc_iald hx hb hE hH lc_h84 rfl hi107 dQ_isUsedOnce_107 ?_
    obtain ⟨hi108, hf⟩ := lc_chk_some hf
    refine lc_iald hx hb hE hH lc_h103 rfl hi108 dQ_isUsedOnce_108 ?_
    refine lv_iadd hx hb dQ_isUsedOnce_109 ?_
    refine lv_topi (fun x110 e110 => ?_)
    replace hf := lc_let_of e110 hf
    refine lv_istore hx hb dQ_isUsedOnce_110 hl (by decide) rfl (fun ls hl => ?_)
    replace hl : lv_has ls 14 [(10, .int x110), (11, .int t0), (0, .ref (lc_ad G 80)), (2, .int x2), (3, .int x3), (4, .int x4), (5, .int x5), (6, .int x6), (7, .int x7), (9, .int x9)] := hl
    refine lv_iload hx hb dQ_isUsedOnce_112 (lv_at hl 1 rfl) ?_
    refine lv_aload_n hx hb dQ_isUsedOnce_114 rfl (lv_at hl 2 rfl) ?_
    refine lc_getf (d := 24) (q := 104) hx hb hts hown hE hH flQ_80 lc_h80 rfl rfl dQ_isUsedOnce_115 ?_
    refine lv_aload_n hx hb dQ_isUsedOnce_118 rfl (lv_at hl 2 rfl) ?_
    refine lc_getf (d := 4) (q := 84) hx hb hts hown hE hH flQ_19 lc_h80 rfl rfl dQ_isUsedOnce_119 ?_
    refine lv_iload hx hb dQ_isUsedOnce_122 (lv_at hl 8 rfl) ?_
    obtain ⟨hi124, hf⟩ := lc_chk_some hf
    refine lc_iald hx hb hE hH lc_h84 rfl hi124 dQ_isUsedOnce_124 ?_
    obtain ⟨hi125, hf⟩ := lc_chk_some hf
    refine lc_iald hx hb hE hH lc_h104 rfl hi125 dQ_isUsedOnce_125 ?_
    refine lv_iadd hx hb dQ_isUsedOnce_126 ?_
    refine lv_topi (fun x127 e127 => ?_)
    replace hf := lc_let_of e127 hf
    refine lv_istore hx hb dQ_isUsedOnce_127 hl (by decide) rfl (fun ls hl => ?_)
    replace hl : lv_has ls 14 [(11, .int x127), (10, .int x110), (0, .ref (lc_ad G 80)), (2, .int x2), (3, .int x3), (4, .int x4), (5, .int x5), (6, .int x6), (7, .int x7), (9, .int x9)] := hl
    exact bQ_isUsedOnce_129 hx hb hml hr hlocks hown hts hE (fun hf hl hH => hk20 hf hl hH) hf (lv_sub hl [2, 3, 4, 5, 6, 7, 8, 9, 1, 0] rfl) hH
set_option maxHeartbeats 4000000 in
set_option maxRecDepth 100000 in
theorem bQ_isUsedOnce_83 {p : Program} {l : Launch} {e : Env} {s : State} {m : MethodId} {args : Array Value} {below : List Frame} {meth : Method} {c : Code} {G : lc_G} (hx : p.tables.exec = Jvm.exec) (hb : c.code = prog_10_method_29_code) (hml : c.maxLocals = 14) (hr : meth.sig.returnType = (some .boolean)) (hlocks : meth.locks = false) (hown : s.vm.findClass "LinearCellsModel" = some m.cls) (hts : ∀ w ∈ lc_ALL, w.before args s = true) (hE : lc_E G s) {k20 : Int32 → Int32 → Int32 → Int32 → Int32 → lc_S → Option ((Int32) × lc_S)} {r : Int32} {z' : lc_S} (hk20 : ∀ {x2 : Int32} {x3 : Int32} {x4 : Int32} {x5 : Int32} {x6 : Int32} {z : lc_S} {H : Heap} {locs : List Loc} {ls : Array Slot}, k20 x2 x3 x4 x5 x6 z = some (r, z') → lv_has ls 14 [(0, .ref (lc_ad G 80)), (2, .int x2), (3, .int x3), (4, .int x4), (5, .int x5), (6, .int x6)] → lc_H G z s.heap H locs → W p l e (lc_rm 2) s m args below meth c H locs 0 0 (MQ below (lc_Q G (some (.int r)) z') args s 0 0 (lc_A G)) (F0 m 20 ls [])) : ∀ {x2 : Int32} {x3 : Int32} {x4 : Int32} {x5 : Int32} {x6 : Int32} {x7 : Int32} {x9 : Int32} {z : lc_S} {H : Heap} {locs : List Loc} {ls : Array Slot}, fQ_isUsedOnce_83 k20 x2 x3 x4 x5 x6 x7 x9 z = some (r, z') → lv_has ls 14 [(0, .ref (lc_ad G 80)), (2, .int x2), (3, .int x3), (4, .int x4), (5, .int x5), (6, .int x6), (7, .int x7), (9, .int x9)] → lc_H G z s.heap H locs → W p l e (lc_rm 2) s m args below meth c H locs 0 0 (MQ below (lc_Q G (some (.int r)) z') args s 0 0 (lc_A G)) (F0 m 83 ls []) := by
  intro x2 x3 x4 x5 x6 x7 x9 z H locs ls hf hl hH
  rw [fQ_isUsedOnce_83] at hf
  refine lv_iconst (v := 0) hx hb dQ_isUsedOnce_83 (by decide) ?_
  exact bQ_isUsedOnce_84 hx hb hml hr hlocks hown hts hE (fun hf hl hH => hk20 hf hl hH) hf (lv_sub hl [0, 1, 2, 3, 4, 5, 6, 7] rfl) hH
set_option maxHeartbeats 4000000 in
set_option maxRecDepth 100000 in
theorem bQ_isUsedOnce_341 {p : Program} {l : Launch} {e : Env} {s : State} {m : MethodId} {args : Array Value} {below : List Frame} {meth : Method} {c : Code} {G : lc_G} (hx : p.tables.exec = Jvm.exec) (hb : c.code = prog_10_method_29_code) (hml : c.maxLocals = 14) (hr : meth.sig.returnType = (some .boolean)) (hlocks : meth.locks = false) (hown : s.vm.findClass "LinearCellsModel" = some m.cls) (hts : ∀ w ∈ lc_ALL, w.before args s = true) (hE : lc_E G s) {r : Int32} {z' : lc_S} : ∀ {z : lc_S} {H : Heap} {locs : List Loc} {ls : Array Slot}, fQ_isUsedOnce_341 z = some (r, z') → lv_has ls 14 [] → lc_H G z s.heap H locs → W p l e (lc_rm 2) s m args below meth c H locs 0 0 (MQ below (lc_Q G (some (.int r)) z') args s 0 0 (lc_A G)) (F0 m 341 ls []) := by
  intro z H locs ls hf hl hH
  rw [fQ_isUsedOnce_341] at hf
  refine lv_iconst (v := 0) hx hb dQ_isUsedOnce_341 (by decide) ?_
  exact lc_zret hx hb hr hlocks (by decide) hH hf dQ_isUsedOnce_342
set_option maxHeartbeats 4000000 in
set_option maxRecDepth 100000 in
theorem bQ_isUsedOnce_20 {p : Program} {l : Launch} {e : Env} {s : State} {m : MethodId} {args : Array Value} {below : List Frame} {meth : Method} {c : Code} {G : lc_G} (hx : p.tables.exec = Jvm.exec) (hb : c.code = prog_10_method_29_code) (hml : c.maxLocals = 14) (hr : meth.sig.returnType = (some .boolean)) (hlocks : meth.locks = false) (hown : s.vm.findClass "LinearCellsModel" = some m.cls) (hts : ∀ w ∈ lc_ALL, w.before args s = true) (hE : lc_E G s) {r : Int32} {z' : lc_S} : ∀ (n : Nat) {x2 : Int32} {x3 : Int32} {x4 : Int32} {x5 : Int32} {x6 : Int32} {z : lc_S} {H : Heap} {locs : List Loc} {ls : Array Slot}, fQ_isUsedOnce_20 n x2 x3 x4 x5 x6 z = some (r, z') → lv_has ls 14 [(0, .ref (lc_ad G 80)), (2, .int x2), (3, .int x3), (4, .int x4), (5, .int x5), (6, .int x6)] → lc_H G z s.heap H locs → W p l e (lc_rm 2) s m args below meth c H locs 0 0 (MQ below (lc_Q G (some (.int r)) z') args s 0 0 (lc_A G)) (F0 m 20 ls []) := by
  intro n
  induction n with
  | zero =>
    intro x2 x3 x4 x5 x6 z H locs ls hf hl hH
    exact absurd (show (none : Option ((Int32) × lc_S)) = some (r, z') from hf) (fun h => by cases h)
  | succ n ih =>
    intro x2 x3 x4 x5 x6 z H locs ls hf hl hH
    rw [fQ_isUsedOnce_20] at hf
    refine lv_iload hx hb dQ_isUsedOnce_20 (lv_at hl 5 rfl) ?_
    refine lv_iload hx hb dQ_isUsedOnce_22 (lv_at hl 3 rfl) ?_
    refine lv_icmp_lt (tgt := 315) hx hb dQ_isUsedOnce_24 (by decide) (fun hc => ?_) (fun hc => ?_)
    · replace hf := lc_ite_pos hc hf
      refine lv_aload_n hx hb dQ_isUsedOnce_315 rfl (lv_at hl 0 rfl) ?_
      refine lc_getf (d := 23) (q := 103) hx hb hts hown hE hH flQ_77 lc_h80 rfl rfl dQ_isUsedOnce_316 ?_
      refine lv_iload hx hb dQ_isUsedOnce_319 (lv_at hl 3 rfl) ?_
      obtain ⟨hi321, hf⟩ := lc_chk_some hf
      refine lc_iald hx hb hE hH lc_h103 rfl hi321 dQ_isUsedOnce_321 ?_
      refine lv_iconst (v := 1) hx hb dQ_isUsedOnce_322 (by decide) ?_
      refine lv_icmp_ne (tgt := 341) hx hb dQ_isUsedOnce_323 (by decide) (fun hc => ?_) (fun hc => ?_)
      · replace hf := lc_ite_neg hc hf
        exact bQ_isUsedOnce_341 hx hb hml hr hlocks hown hts hE hf (lv_sub hl [] rfl) hH
      · replace hf := lc_ite_pos hc hf
        refine lv_aload_n hx hb dQ_isUsedOnce_326 rfl (lv_at hl 0 rfl) ?_
        refine lc_getf (d := 24) (q := 104) hx hb hts hown hE hH flQ_80 lc_h80 rfl rfl dQ_isUsedOnce_327 ?_
        refine lv_iload hx hb dQ_isUsedOnce_330 (lv_at hl 3 rfl) ?_
        obtain ⟨hi332, hf⟩ := lc_chk_some hf
        refine lc_iald hx hb hE hH lc_h104 rfl hi332 dQ_isUsedOnce_332 ?_
        refine lv_iconst (v := 1) hx hb dQ_isUsedOnce_333 (by decide) ?_
        refine lv_icmp_ne (tgt := 341) hx hb dQ_isUsedOnce_334 (by decide) (fun hc => ?_) (fun hc => ?_)
        · replace hf := lc_ite_neg hc hf
          exact bQ_isUsedOnce_341 hx hb hml hr hlocks hown hts hE hf (lv_sub hl [] rfl) hH
        · replace hf := lc_ite_pos hc hf
          refine lv_iconst (v := 1) hx hb dQ_isUsedOnce_337 (by decide) ?_
          refine lv_goto (tgt := 342) hx hb dQ_isUsedOnce_338 (by decide) ?_
          exact lc_zret hx hb hr hlocks (by decide) hH hf dQ_isUsedOnce_342
    · replace hf := lc_ite_neg hc hf
      refine lv_iload hx hb dQ_isUsedOnce_27 (lv_at hl 4 rfl) ?_
      refine lv_iload hx hb dQ_isUsedOnce_29 (lv_at hl 5 rfl) ?_
      refine lv_iadd hx hb dQ_isUsedOnce_31 ?_
      refine lv_topi (fun x32 e32 => ?_)
      replace hf := lc_let_of e32 hf
      refine lv_istore hx hb dQ_isUsedOnce_32 hl (by decide) rfl (fun ls hl => ?_)
      replace hl : lv_has ls 14 [(7, .int x32), (0, .ref (lc_ad G 80)), (2, .int x2), (3, .int x3), (4, .int x4), (5, .int x5), (6, .int x6)] := hl
      refine lv_aload_n hx hb dQ_isUsedOnce_34 rfl (lv_at hl 1 rfl) ?_
      refine lc_getf (d := 2) (q := 82) hx hb hts hown hE hH flQ_13 lc_h80 rfl rfl dQ_isUsedOnce_35 ?_
      refine lv_iload hx hb dQ_isUsedOnce_38 (lv_at hl 0 rfl) ?_
      obtain ⟨hi40, hf⟩ := lc_chk_some hf
      refine lc_iald hx hb hE hH lc_h82 rfl hi40 dQ_isUsedOnce_40 ?_
      refine lv_topi (fun x41 e41 => ?_)
      replace hf := lc_let_of e41 hf
      refine lv_istore hx hb dQ_isUsedOnce_41 hl (by decide) rfl (fun ls hl => ?_)
      replace hl : lv_has ls 14 [(8, .int x41), (7, .int x32), (0, .ref (lc_ad G 80)), (2, .int x2), (3, .int x3), (4, .int x4), (5, .int x5), (6, .int x6)] := hl
      refine lv_iload hx hb dQ_isUsedOnce_43 (lv_at hl 0 rfl) ?_
      obtain ⟨r45, z45, h45, hf⟩ := lc_bnd_some hf
      refine lc_calli (va_runS (As := [.int x41]) (rest := []) ⟨hx, hb, hml, hown, hts⟩ (cQ_partsOf l G h45) (lc_cwS hts ksQ_214 (lc_room (by decide) (by decide))) (lc_preS hE hH _) rfl rfl hl.1 rfl (lv_room (Nat.le_of_ble_eq_true rfl)) dQ_isUsedOnce_45 ⟨Nat.zero_le _, Nat.zero_le _⟩) hH (fun H locs hH => ?_)
      refine lv_istore hx hb dQ_isUsedOnce_48 hl (by decide) rfl (fun ls hl => ?_)
      replace hl : lv_has ls 14 [(9, .int r45), (8, .int x41), (7, .int x32), (0, .ref (lc_ad G 80)), (2, .int x2), (3, .int x3), (4, .int x4), (5, .int x5), (6, .int x6)] := hl
      refine lv_iload hx hb dQ_isUsedOnce_50 (lv_at hl 1 rfl) ?_
      refine lv_bipush (v := 120) hx hb dQ_isUsedOnce_52 (by decide) ?_
      refine lv_icmp_ne (tgt := 83) hx hb dQ_isUsedOnce_54 (by decide) (fun hc => ?_) (fun hc => ?_)
      · replace hf := lc_ite_neg hc hf
        exact bQ_isUsedOnce_83 hx hb hml hr hlocks hown hts hE (fun hf hl hH => ih hf hl hH) hf (lv_sub hl [3, 4, 5, 6, 7, 8, 2, 0] rfl) hH
      · replace hf := lc_ite_pos hc hf
        refine lv_aload_n hx hb dQ_isUsedOnce_57 rfl (lv_at hl 3 rfl) ?_
        refine lc_getf (d := 7) (q := 87) hx hb hts hown hE hH flQ_28 lc_h80 rfl rfl dQ_isUsedOnce_58 ?_
        refine lv_iload hx hb dQ_isUsedOnce_61 (lv_at hl 2 rfl) ?_
        obtain ⟨hi63, hf⟩ := lc_chk_some hf
        refine lc_iald hx hb hE hH lc_h87 rfl hi63 dQ_isUsedOnce_63 ?_
        refine lv_iload_n hx hb dQ_isUsedOnce_64 rfl (lv_at hl 4 rfl) ?_
        refine lv_icmp_ne (tgt := 83) hx hb dQ_isUsedOnce_65 (by decide) (fun hc => ?_) (fun hc => ?_)
        · replace hf := lc_ite_neg hc hf
          exact bQ_isUsedOnce_83 hx hb hml hr hlocks hown hts hE (fun hf hl hH => ih hf hl hH) hf (lv_sub hl [3, 4, 5, 6, 7, 8, 2, 0] rfl) hH
        · replace hf := lc_ite_pos hc hf
          refine lv_aload_n hx hb dQ_isUsedOnce_68 rfl (lv_at hl 3 rfl) ?_
          refine lc_getf (d := 8) (q := 88) hx hb hts hown hE hH flQ_31 lc_h80 rfl rfl dQ_isUsedOnce_69 ?_
          refine lv_iload hx hb dQ_isUsedOnce_72 (lv_at hl 2 rfl) ?_
          obtain ⟨hi74, hf⟩ := lc_chk_some hf
          refine lc_zald hx hb hE hH lc_h88 rfl hi74 dQ_isUsedOnce_74 ?_
          refine lv_iload_n hx hb dQ_isUsedOnce_75 rfl (lv_at hl 5 rfl) ?_
          refine lv_icmp_ne (tgt := 83) hx hb dQ_isUsedOnce_76 (by decide) (fun hc => ?_) (fun hc => ?_)
          · replace hf := lc_ite_neg hc hf
            exact bQ_isUsedOnce_83 hx hb hml hr hlocks hown hts hE (fun hf hl hH => ih hf hl hH) hf (lv_sub hl [3, 4, 5, 6, 7, 8, 2, 0] rfl) hH
          · replace hf := lc_ite_pos hc hf
            refine lv_iconst (v := 1) hx hb dQ_isUsedOnce_79 (by decide) ?_
            refine lv_goto (tgt := 84) hx hb dQ_isUsedOnce_80 (by decide) ?_
            exact bQ_isUsedOnce_84 hx hb hml hr hlocks hown hts hE (fun hf hl hH => ih hf hl hH) hf (lv_sub hl [3, 4, 5, 6, 7, 8, 2, 0] rfl) hH
set_option maxHeartbeats 4000000 in
set_option maxRecDepth 100000 in
theorem cQ_isUsedOnce (l : Launch) (G : lc_G) {a1 : Int32} {a2 : Int32} {a3 : Int32} {a4 : Int32} {r : Int32} {z z' : lc_S} (hf : fQ_isUsedOnce a1 a2 a3 a4 z = some (r, z')) : lc_M l G yQ_isUsedOnce wQ_isUsedOnce 2 [.ref (lc_ad G 80), .int a1, .int a2, .int a3, .int a4] z (some (.int r)) z' := by
  refine lc_M_of (cc := prog_10_method_29_code) (maxL := 14) (ret := (some .boolean)) (own := "LinearCellsModel") (by decide) rfl (fun w h => List.mem_cons_of_mem _ h) (Nat.le_of_ble_eq_true rfl) rfl ?_
  intro p e s m below meth c hx hb hml hr hlocks hown hts hE ls hl hH
  replace hl : lv_has ls 14 [(0, .ref (lc_ad G 80)), (1, .int a1), (2, .int a2), (3, .int a3), (4, .int a4)] := hl
  rw [fQ_isUsedOnce] at hf
  refine lv_bipush (v := 120) hx hb dQ_isUsedOnce_0 (by decide) ?_
  refine lv_iload_n hx hb dQ_isUsedOnce_2 rfl (lv_at hl 1 rfl) ?_
  refine lv_iconst (v := 1) hx hb dQ_isUsedOnce_3 (by decide) ?_
  refine lv_iadd hx hb dQ_isUsedOnce_4 ?_
  refine lv_imul hx hb dQ_isUsedOnce_5 ?_
  refine lv_topi (fun x6 e6 => ?_)
  replace hf := lc_let_of e6 hf
  refine lv_istore hx hb dQ_isUsedOnce_6 hl (by decide) rfl (fun ls hl => ?_)
  replace hl : lv_has ls 14 [(5, .int x6), (0, .ref (lc_ad G 80)), (1, .int a1), (2, .int a2), (3, .int a3), (4, .int a4)] := hl
  refine lv_aload_n hx hb dQ_isUsedOnce_8 rfl (lv_at hl 1 rfl) ?_
  refine lc_getf (d := 9) (q := 89) hx hb hts hown hE hH flQ_35 lc_h80 rfl rfl dQ_isUsedOnce_9 ?_
  refine lv_iload_n hx hb dQ_isUsedOnce_12 rfl (lv_at hl 2 rfl) ?_
  refine lv_iconst (v := 1) hx hb dQ_isUsedOnce_13 (by decide) ?_
  refine lv_iadd hx hb dQ_isUsedOnce_14 ?_
  obtain ⟨hi15, hf⟩ := lc_chk_some hf
  refine lc_iald hx hb hE hH lc_h89 rfl hi15 dQ_isUsedOnce_15 ?_
  refine lv_iconst (v := 1) hx hb dQ_isUsedOnce_16 (by decide) ?_
  refine lv_isub hx hb dQ_isUsedOnce_17 ?_
  refine lv_topi (fun x18 e18 => ?_)
  replace hf := lc_let_of e18 hf
  refine lv_istore hx hb dQ_isUsedOnce_18 hl (by decide) rfl (fun ls hl => ?_)
  replace hl : lv_has ls 14 [(6, .int x18), (5, .int x6), (0, .ref (lc_ad G 80)), (1, .int a1), (2, .int a2), (3, .int a3), (4, .int a4)] := hl
  exact bQ_isUsedOnce_20 hx hb hml hr hlocks hown hts hE _ hf (lv_sub hl [2, 4, 5, 6, 1, 0] rfl) hH
