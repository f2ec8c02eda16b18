theorem dL_law_0 : decode code 0 = .ok (.new 8, 3) := by decide +kernel
theorem dL_law_3 : decode code 3 = .ok (.dup, 1) := by decide +kernel
theorem dL_law_4 : decode code 4 = .ok (.invokespecial 37, 3) := by decide +kernel
theorem dL_law_7 : decode code 7 = .ok (.astore_n 1, 1) := by decide +kernel
theorem dL_law_8 : decode code 8 = .ok (.new 38, 3) := by decide +kernel
theorem dL_law_11 : decode code 11 = .ok (.dup, 1) := by decide +kernel
theorem dL_law_12 : decode code 12 = .ok (.invokespecial 40, 3) := by decide +kernel
theorem dL_law_15 : decode code 15 = .ok (.astore_n 2, 1) := by decide +kernel
theorem dL_law_16 : decode code 16 = .ok (.iconst 1, 1) := by decide +kernel
theorem dL_law_17 : decode code 17 = .ok (.newarray .long, 2) := by decide +kernel
theorem dL_law_19 : decode code 19 = .ok (.astore_n 3, 1) := by decide +kernel
theorem dL_law_20 : decode code 20 = .ok (.iconst 0, 1) := by decide +kernel
theorem dL_law_21 : decode code 21 = .ok (.istore 4, 2) := by decide +kernel
theorem dL_law_23 : decode code 23 = .ok (.iload 4, 2) := by decide +kernel
theorem dL_law_25 : decode code 25 = .ok (.aload_n 0, 1) := by decide +kernel
theorem dL_law_26 : decode code 26 = .ok (.arraylength, 1) := by decide +kernel
theorem dL_law_27 : decode code 27 = .ok (.iconst 3, 1) := by decide +kernel
theorem dL_law_28 : decode code 28 = .ok (.isub, 1) := by decide +kernel
theorem dL_law_29 : decode code 29 = .ok (.if_icmp .gt 491, 3) := by decide +kernel
theorem dL_law_32 : decode code 32 = .ok (.aload_n 0, 1) := by decide +kernel
theorem dL_law_33 : decode code 33 = .ok (.iload 4, 2) := by decide +kernel
theorem dL_law_35 : decode code 35 = .ok (.iaload, 1) := by decide +kernel
theorem dL_law_36 : decode code 36 = .ok (.bipush 7, 2) := by decide +kernel
theorem dL_law_38 : decode code 38 = .ok (.iand, 1) := by decide +kernel
theorem dL_law_39 : decode code 39 = .ok (.tableswitch 475 0 7 #[45, 102, 158, 183, 239, 307, 363, 419], 45) := by decide +kernel
theorem dL_law_84 : decode code 84 = .ok (.aload_n 1, 1) := by decide +kernel
theorem dL_law_85 : decode code 85 = .ok (.aload_n 0, 1) := by decide +kernel
theorem dL_law_86 : decode code 86 = .ok (.iload 4, 2) := by decide +kernel
theorem dL_law_88 : decode code 88 = .ok (.iconst 1, 1) := by decide +kernel
theorem dL_law_89 : decode code 89 = .ok (.iadd, 1) := by decide +kernel
theorem dL_law_90 : decode code 90 = .ok (.iaload, 1) := by decide +kernel
theorem dL_law_91 : decode code 91 = .ok (.i2l, 1) := by decide +kernel
theorem dL_law_92 : decode code 92 = .ok (.bipush 32, 2) := by decide +kernel
theorem dL_law_94 : decode code 94 = .ok (.lshl, 1) := by decide +kernel
theorem dL_law_95 : decode code 95 = .ok (.aload_n 0, 1) := by decide +kernel
theorem dL_law_96 : decode code 96 = .ok (.iload 4, 2) := by decide +kernel
theorem dL_law_98 : decode code 98 = .ok (.iconst 2, 1) := by decide +kernel
theorem dL_law_99 : decode code 99 = .ok (.iadd, 1) := by decide +kernel
theorem dL_law_100 : decode code 100 = .ok (.iaload, 1) := by decide +kernel
theorem dL_law_101 : decode code 101 = .ok (.i2l, 1) := by decide +kernel
theorem dL_law_102 : decode code 102 = .ok (.ldc2_w 41, 3) := by decide +kernel
theorem dL_law_105 : decode code 105 = .ok (.land, 1) := by decide +kernel
theorem dL_law_106 : decode code 106 = .ok (.lor, 1) := by decide +kernel
theorem dL_law_107 : decode code 107 = .ok (.invokevirtual 43, 3) := by decide +kernel
theorem dL_law_110 : decode code 110 = .ok (.aload_n 2, 1) := by decide +kernel
theorem dL_law_111 : decode code 111 = .ok (.aload_n 0, 1) := by decide +kernel
theorem dL_law_112 : decode code 112 = .ok (.iload 4, 2) := by decide +kernel
theorem dL_law_114 : decode code 114 = .ok (.iconst 1, 1) := by decide +kernel
theorem dL_law_115 : decode code 115 = .ok (.iadd, 1) := by decide +kernel
theorem dL_law_116 : decode code 116 = .ok (.iaload, 1) := by decide +kernel
theorem dL_law_117 : decode code 117 = .ok (.i2l, 1) := by decide +kernel
theorem dL_law_118 : decode code 118 = .ok (.bipush 32, 2) := by decide +kernel
theorem dL_law_120 : decode code 120 = .ok (.lshl, 1) := by decide +kernel
theorem dL_law_121 : decode code 121 = .ok (.aload_n 0, 1) := by decide +kernel
theorem dL_law_122 : decode code 122 = .ok (.iload 4, 2) := by decide +kernel
theorem dL_law_124 : decode code 124 = .ok (.iconst 2, 1) := by decide +kernel
theorem dL_law_125 : decode code 125 = .ok (.iadd, 1) := by decide +kernel
theorem dL_law_126 : decode code 126 = .ok (.iaload, 1) := by decide +kernel
theorem dL_law_127 : decode code 127 = .ok (.i2l, 1) := by decide +kernel
theorem dL_law_128 : decode code 128 = .ok (.ldc2_w 41, 3) := by decide +kernel
theorem dL_law_131 : decode code 131 = .ok (.land, 1) := by decide +kernel
theorem dL_law_132 : decode code 132 = .ok (.lor, 1) := by decide +kernel
theorem dL_law_133 : decode code 133 = .ok (.invokevirtual 47, 3) := by decide +kernel
theorem dL_law_136 : decode code 136 = .ok (.if_icmp .eq 378, 3) := by decide +kernel
theorem dL_law_139 : decode code 139 = .ok (.iconst 0, 1) := by decide +kernel
theorem dL_law_140 : decode code 140 = .ok (.ireturn, 1) := by decide +kernel
theorem dL_law_141 : decode code 141 = .ok (.aload_n 1, 1) := by decide +kernel
theorem dL_law_142 : decode code 142 = .ok (.aload_n 0, 1) := by decide +kernel
theorem dL_law_143 : decode code 143 = .ok (.iload 4, 2) := by decide +kernel
theorem dL_law_145 : decode code 145 = .ok (.iconst 1, 1) := by decide +kernel
theorem dL_law_146 : decode code 146 = .ok (.iadd, 1) := by decide +kernel
theorem dL_law_147 : decode code 147 = .ok (.iaload, 1) := by decide +kernel
theorem dL_law_148 : decode code 148 = .ok (.aload_n 3, 1) := by decide +kernel
theorem dL_law_149 : decode code 149 = .ok (.invokestatic 48, 3) := by decide +kernel
theorem dL_law_152 : decode code 152 = .ok (.istore 5, 2) := by decide +kernel
theorem dL_law_154 : decode code 154 = .ok (.aload_n 2, 1) := by decide +kernel
theorem dL_law_155 : decode code 155 = .ok (.aload_n 0, 1) := by decide +kernel
theorem dL_law_156 : decode code 156 = .ok (.iload 4, 2) := by decide +kernel
theorem dL_law_158 : decode code 158 = .ok (.iconst 1, 1) := by decide +kernel
theorem dL_law_159 : decode code 159 = .ok (.iadd, 1) := by decide +kernel
theorem dL_law_160 : decode code 160 = .ok (.iaload, 1) := by decide +kernel
theorem dL_law_161 : decode code 161 = .ok (.invokevirtual 53, 3) := by decide +kernel
theorem dL_law_164 : decode code 164 = .ok (.istore 6, 2) := by decide +kernel
theorem dL_law_166 : decode code 166 = .ok (.aload_n 2, 1) := by decide +kernel
theorem dL_law_167 : decode code 167 = .ok (.invokevirtual 54, 3) := by decide +kernel
theorem dL_law_170 : decode code 170 = .ok (.iload 5, 2) := by decide +kernel
theorem dL_law_172 : decode code 172 = .ok (.if_icmp .eq 5, 3) := by decide +kernel
theorem dL_law_175 : decode code 175 = .ok (.iconst 0, 1) := by decide +kernel
theorem dL_law_176 : decode code 176 = .ok (.ireturn, 1) := by decide +kernel
theorem dL_law_177 : decode code 177 = .ok (.iload 5, 2) := by decide +kernel
theorem dL_law_179 : decode code 179 = .ok (.ifCond .ne 15, 3) := by decide +kernel
theorem dL_law_182 : decode code 182 = .ok (.aload_n 3, 1) := by decide +kernel
theorem dL_law_183 : decode code 183 = .ok (.iconst 0, 1) := by decide +kernel
theorem dL_law_184 : decode code 184 = .ok (.laload, 1) := by decide +kernel
theorem dL_law_185 : decode code 185 = .ok (.iload 6, 2) := by decide +kernel
theorem dL_law_187 : decode code 187 = .ok (.i2l, 1) := by decide +kernel
theorem dL_law_188 : decode code 188 = .ok (.lcmp, 1) := by decide +kernel
theorem dL_law_189 : decode code 189 = .ok (.ifCond .eq 5, 3) := by decide +kernel
theorem dL_law_192 : decode code 192 = .ok (.iconst 0, 1) := by decide +kernel
theorem dL_law_193 : decode code 193 = .ok (.ireturn, 1) := by decide +kernel
theorem dL_law_194 : decode code 194 = .ok (.goto 320, 3) := by decide +kernel
theorem dL_law_197 : decode code 197 = .ok (.aload_n 1, 1) := by decide +kernel
theorem dL_law_198 : decode code 198 = .ok (.aload_n 0, 1) := by decide +kernel
theorem dL_law_199 : decode code 199 = .ok (.iload 4, 2) := by decide +kernel
theorem dL_law_201 : decode code 201 = .ok (.iconst 1, 1) := by decide +kernel
theorem dL_law_202 : decode code 202 = .ok (.iadd, 1) := by decide +kernel
theorem dL_law_203 : decode code 203 = .ok (.iaload, 1) := by decide +kernel
theorem dL_law_204 : decode code 204 = .ok (.invokevirtual 58, 3) := by decide +kernel
theorem dL_law_207 : decode code 207 = .ok (.aload_n 2, 1) := by decide +kernel
theorem dL_law_208 : decode code 208 = .ok (.aload_n 0, 1) := by decide +kernel
theorem dL_law_209 : decode code 209 = .ok (.iload 4, 2) := by decide +kernel
theorem dL_law_211 : decode code 211 = .ok (.iconst 1, 1) := by decide +kernel
theorem dL_law_212 : decode code 212 = .ok (.iadd, 1) := by decide +kernel
theorem dL_law_213 : decode code 213 = .ok (.iaload, 1) := by decide +kernel
theorem dL_law_214 : decode code 214 = .ok (.invokevirtual 62, 3) := by decide +kernel
theorem dL_law_217 : decode code 217 = .ok (.if_icmp .eq 297, 3) := by decide +kernel
theorem dL_law_220 : decode code 220 = .ok (.iconst 0, 1) := by decide +kernel
theorem dL_law_221 : decode code 221 = .ok (.ireturn, 1) := by decide +kernel
theorem dL_law_222 : decode code 222 = .ok (.aload_n 1, 1) := by decide +kernel
theorem dL_law_223 : decode code 223 = .ok (.aload_n 0, 1) := by decide +kernel
theorem dL_law_224 : decode code 224 = .ok (.iload 4, 2) := by decide +kernel
theorem dL_law_226 : decode code 226 = .ok (.iconst 1, 1) := by decide +kernel
theorem dL_law_227 : decode code 227 = .ok (.iadd, 1) := by decide +kernel
theorem dL_law_228 : decode code 228 = .ok (.iaload, 1) := by decide +kernel
theorem dL_law_229 : decode code 229 = .ok (.aload_n 3, 1) := by decide +kernel
theorem dL_law_230 : decode code 230 = .ok (.invokestatic 63, 3) := by decide +kernel
theorem dL_law_233 : decode code 233 = .ok (.istore 5, 2) := by decide +kernel
theorem dL_law_235 : decode code 235 = .ok (.aload_n 2, 1) := by decide +kernel
theorem dL_law_236 : decode code 236 = .ok (.aload_n 0, 1) := by decide +kernel
theorem dL_law_237 : decode code 237 = .ok (.iload 4, 2) := by decide +kernel
theorem dL_law_239 : decode code 239 = .ok (.iconst 1, 1) := by decide +kernel
theorem dL_law_240 : decode code 240 = .ok (.iadd, 1) := by decide +kernel
theorem dL_law_241 : decode code 241 = .ok (.iaload, 1) := by decide +kernel
theorem dL_law_242 : decode code 242 = .ok (.invokevirtual 65, 3) := by decide +kernel
theorem dL_law_245 : decode code 245 = .ok (.istore 6, 2) := by decide +kernel
theorem dL_law_247 : decode code 247 = .ok (.aload_n 2, 1) := by decide +kernel
theorem dL_law_248 : decode code 248 = .ok (.invokevirtual 54, 3) := by decide +kernel
theorem dL_law_251 : decode code 251 = .ok (.iload 5, 2) := by decide +kernel
theorem dL_law_253 : decode code 253 = .ok (.if_icmp .eq 5, 3) := by decide +kernel
theorem dL_law_256 : decode code 256 = .ok (.iconst 0, 1) := by decide +kernel
theorem dL_law_257 : decode code 257 = .ok (.ireturn, 1) := by decide +kernel
theorem dL_law_258 : decode code 258 = .ok (.iload 5, 2) := by decide +kernel
theorem dL_law_260 : decode code 260 = .ok (.ifCond .ne 15, 3) := by decide +kernel
theorem dL_law_263 : decode code 263 = .ok (.aload_n 3, 1) := by decide +kernel
theorem dL_law_264 : decode code 264 = .ok (.iconst 0, 1) := by decide +kernel
theorem dL_law_265 : decode code 265 = .ok (.laload, 1) := by decide +kernel
theorem dL_law_266 : decode code 266 = .ok (.iload 6, 2) := by decide +kernel
theorem dL_law_268 : decode code 268 = .ok (.i2l, 1) := by decide +kernel
theorem dL_law_269 : decode code 269 = .ok (.lcmp, 1) := by decide +kernel
theorem dL_law_270 : decode code 270 = .ok (.ifCond .eq 5, 3) := by decide +kernel
theorem dL_law_273 : decode code 273 = .ok (.iconst 0, 1) := by decide +kernel
theorem dL_law_274 : decode code 274 = .ok (.ireturn, 1) := by decide +kernel
theorem dL_law_275 : decode code 275 = .ok (.goto 239, 3) := by decide +kernel
theorem dL_law_278 : decode code 278 = .ok (.aload_n 1, 1) := by decide +kernel
theorem dL_law_279 : decode code 279 = .ok (.aload_n 0, 1) := by decide +kernel
theorem dL_law_280 : decode code 280 = .ok (.iload 4, 2) := by decide +kernel
theorem dL_law_282 : decode code 282 = .ok (.iconst 1, 1) := by decide +kernel
theorem dL_law_283 : decode code 283 = .ok (.iadd, 1) := by decide +kernel
theorem dL_law_284 : decode code 284 = .ok (.iaload, 1) := by decide +kernel
theorem dL_law_285 : decode code 285 = .ok (.aload_n 0, 1) := by decide +kernel
theorem dL_law_286 : decode code 286 = .ok (.iload 4, 2) := by decide +kernel
theorem dL_law_288 : decode code 288 = .ok (.iconst 2, 1) := by decide +kernel
theorem dL_law_289 : decode code 289 = .ok (.iadd, 1) := by decide +kernel
theorem dL_law_290 : decode code 290 = .ok (.iaload, 1) := by decide +kernel
theorem dL_law_291 : decode code 291 = .ok (.aload_n 3, 1) := by decide +kernel
theorem dL_law_292 : decode code 292 = .ok (.invokestatic 66, 3) := by decide +kernel
theorem dL_law_295 : decode code 295 = .ok (.istore 5, 2) := by decide +kernel
theorem dL_law_297 : decode code 297 = .ok (.aload_n 2, 1) := by decide +kernel
theorem dL_law_298 : decode code 298 = .ok (.aload_n 0, 1) := by decide +kernel
theorem dL_law_299 : decode code 299 = .ok (.iload 4, 2) := by decide +kernel
theorem dL_law_301 : decode code 301 = .ok (.iconst 1, 1) := by decide +kernel
theorem dL_law_302 : decode code 302 = .ok (.iadd, 1) := by decide +kernel
theorem dL_law_303 : decode code 303 = .ok (.iaload, 1) := by decide +kernel
theorem dL_law_304 : decode code 304 = .ok (.aload_n 0, 1) := by decide +kernel
theorem dL_law_305 : decode code 305 = .ok (.iload 4, 2) := by decide +kernel
theorem dL_law_307 : decode code 307 = .ok (.iconst 2, 1) := by decide +kernel
theorem dL_law_308 : decode code 308 = .ok (.iadd, 1) := by decide +kernel
theorem dL_law_309 : decode code 309 = .ok (.iaload, 1) := by decide +kernel
theorem dL_law_310 : decode code 310 = .ok (.invokevirtual 69, 3) := by decide +kernel
theorem dL_law_313 : decode code 313 = .ok (.istore 6, 2) := by decide +kernel
theorem dL_law_315 : decode code 315 = .ok (.aload_n 2, 1) := by decide +kernel
theorem dL_law_316 : decode code 316 = .ok (.invokevirtual 54, 3) := by decide +kernel
theorem dL_law_319 : decode code 319 = .ok (.iload 5, 2) := by decide +kernel
theorem dL_law_321 : decode code 321 = .ok (.if_icmp .eq 5, 3) := by decide +kernel
theorem dL_law_324 : decode code 324 = .ok (.iconst 0, 1) := by decide +kernel
theorem dL_law_325 : decode code 325 = .ok (.ireturn, 1) := by decide +kernel
theorem dL_law_326 : decode code 326 = .ok (.iload 5, 2) := by decide +kernel
theorem dL_law_328 : decode code 328 = .ok (.ifCond .ne 15, 3) := by decide +kernel
theorem dL_law_331 : decode code 331 = .ok (.aload_n 3, 1) := by decide +kernel
theorem dL_law_332 : decode code 332 = .ok (.iconst 0, 1) := by decide +kernel
theorem dL_law_333 : decode code 333 = .ok (.laload, 1) := by decide +kernel
theorem dL_law_334 : decode code 334 = .ok (.iload 6, 2) := by decide +kernel
theorem dL_law_336 : decode code 336 = .ok (.i2l, 1) := by decide +kernel
theorem dL_law_337 : decode code 337 = .ok (.lcmp, 1) := by decide +kernel
theorem dL_law_338 : decode code 338 = .ok (.ifCond .eq 5, 3) := by decide +kernel
theorem dL_law_341 : decode code 341 = .ok (.iconst 0, 1) := by decide +kernel
theorem dL_law_342 : decode code 342 = .ok (.ireturn, 1) := by decide +kernel
theorem dL_law_343 : decode code 343 = .ok (.goto 171, 3) := by decide +kernel
theorem dL_law_346 : decode code 346 = .ok (.aload_n 1, 1) := by decide +kernel
theorem dL_law_347 : decode code 347 = .ok (.aload_n 0, 1) := by decide +kernel
theorem dL_law_348 : decode code 348 = .ok (.iload 4, 2) := by decide +kernel
theorem dL_law_350 : decode code 350 = .ok (.iconst 1, 1) := by decide +kernel
theorem dL_law_351 : decode code 351 = .ok (.iadd, 1) := by decide +kernel
theorem dL_law_352 : decode code 352 = .ok (.iaload, 1) := by decide +kernel
theorem dL_law_353 : decode code 353 = .ok (.aload_n 3, 1) := by decide +kernel
theorem dL_law_354 : decode code 354 = .ok (.invokestatic 70, 3) := by decide +kernel
theorem dL_law_357 : decode code 357 = .ok (.istore 5, 2) := by decide +kernel
theorem dL_law_359 : decode code 359 = .ok (.aload_n 2, 1) := by decide +kernel
theorem dL_law_360 : decode code 360 = .ok (.aload_n 0, 1) := by decide +kernel
theorem dL_law_361 : decode code 361 = .ok (.iload 4, 2) := by decide +kernel
theorem dL_law_363 : decode code 363 = .ok (.iconst 1, 1) := by decide +kernel
theorem dL_law_364 : decode code 364 = .ok (.iadd, 1) := by decide +kernel
theorem dL_law_365 : decode code 365 = .ok (.iaload, 1) := by decide +kernel
theorem dL_law_366 : decode code 366 = .ok (.invokevirtual 72, 3) := by decide +kernel
theorem dL_law_369 : decode code 369 = .ok (.istore 6, 2) := by decide +kernel
theorem dL_law_371 : decode code 371 = .ok (.aload_n 2, 1) := by decide +kernel
theorem dL_law_372 : decode code 372 = .ok (.invokevirtual 54, 3) := by decide +kernel
theorem dL_law_375 : decode code 375 = .ok (.iload 5, 2) := by decide +kernel
theorem dL_law_377 : decode code 377 = .ok (.if_icmp .eq 5, 3) := by decide +kernel
theorem dL_law_380 : decode code 380 = .ok (.iconst 0, 1) := by decide +kernel
theorem dL_law_381 : decode code 381 = .ok (.ireturn, 1) := by decide +kernel
theorem dL_law_382 : decode code 382 = .ok (.iload 5, 2) := by decide +kernel
theorem dL_law_384 : decode code 384 = .ok (.ifCond .ne 15, 3) := by decide +kernel
theorem dL_law_387 : decode code 387 = .ok (.aload_n 3, 1) := by decide +kernel
theorem dL_law_388 : decode code 388 = .ok (.iconst 0, 1) := by decide +kernel
theorem dL_law_389 : decode code 389 = .ok (.laload, 1) := by decide +kernel
theorem dL_law_390 : decode code 390 = .ok (.iload 6, 2) := by decide +kernel
theorem dL_law_392 : decode code 392 = .ok (.i2l, 1) := by decide +kernel
theorem dL_law_393 : decode code 393 = .ok (.lcmp, 1) := by decide +kernel
theorem dL_law_394 : decode code 394 = .ok (.ifCond .eq 5, 3) := by decide +kernel
theorem dL_law_397 : decode code 397 = .ok (.iconst 0, 1) := by decide +kernel
theorem dL_law_398 : decode code 398 = .ok (.ireturn, 1) := by decide +kernel
theorem dL_law_399 : decode code 399 = .ok (.goto 115, 3) := by decide +kernel
theorem dL_law_402 : decode code 402 = .ok (.aload_n 1, 1) := by decide +kernel
theorem dL_law_403 : decode code 403 = .ok (.aload_n 0, 1) := by decide +kernel
theorem dL_law_404 : decode code 404 = .ok (.iload 4, 2) := by decide +kernel
theorem dL_law_406 : decode code 406 = .ok (.iconst 1, 1) := by decide +kernel
theorem dL_law_407 : decode code 407 = .ok (.iadd, 1) := by decide +kernel
theorem dL_law_408 : decode code 408 = .ok (.iaload, 1) := by decide +kernel
theorem dL_law_409 : decode code 409 = .ok (.aload_n 3, 1) := by decide +kernel
theorem dL_law_410 : decode code 410 = .ok (.invokestatic 73, 3) := by decide +kernel
theorem dL_law_413 : decode code 413 = .ok (.istore 5, 2) := by decide +kernel
theorem dL_law_415 : decode code 415 = .ok (.aload_n 2, 1) := by decide +kernel
theorem dL_law_416 : decode code 416 = .ok (.aload_n 0, 1) := by decide +kernel
theorem dL_law_417 : decode code 417 = .ok (.iload 4, 2) := by decide +kernel
theorem dL_law_419 : decode code 419 = .ok (.iconst 1, 1) := by decide +kernel
theorem dL_law_420 : decode code 420 = .ok (.iadd, 1) := by decide +kernel
theorem dL_law_421 : decode code 421 = .ok (.iaload, 1) := by decide +kernel
theorem dL_law_422 : decode code 422 = .ok (.invokevirtual 75, 3) := by decide +kernel
theorem dL_law_425 : decode code 425 = .ok (.istore 6, 2) := by decide +kernel
theorem dL_law_427 : decode code 427 = .ok (.aload_n 2, 1) := by decide +kernel
theorem dL_law_428 : decode code 428 = .ok (.invokevirtual 54, 3) := by decide +kernel
theorem dL_law_431 : decode code 431 = .ok (.iload 5, 2) := by decide +kernel
theorem dL_law_433 : decode code 433 = .ok (.if_icmp .eq 5, 3) := by decide +kernel
theorem dL_law_436 : decode code 436 = .ok (.iconst 0, 1) := by decide +kernel
theorem dL_law_437 : decode code 437 = .ok (.ireturn, 1) := by decide +kernel
theorem dL_law_438 : decode code 438 = .ok (.iload 5, 2) := by decide +kernel
theorem dL_law_440 : decode code 440 = .ok (.ifCond .ne 15, 3) := by decide +kernel
theorem dL_law_443 : decode code 443 = .ok (.aload_n 3, 1) := by decide +kernel
theorem dL_law_444 : decode code 444 = .ok (.iconst 0, 1) := by decide +kernel
theorem dL_law_445 : decode code 445 = .ok (.laload, 1) := by decide +kernel
theorem dL_law_446 : decode code 446 = .ok (.iload 6, 2) := by decide +kernel
theorem dL_law_448 : decode code 448 = .ok (.i2l, 1) := by decide +kernel
theorem dL_law_449 : decode code 449 = .ok (.lcmp, 1) := by decide +kernel
theorem dL_law_450 : decode code 450 = .ok (.ifCond .eq 5, 3) := by decide +kernel
theorem dL_law_453 : decode code 453 = .ok (.iconst 0, 1) := by decide +kernel
theorem dL_law_454 : decode code 454 = .ok (.ireturn, 1) := by decide +kernel
theorem dL_law_455 : decode code 455 = .ok (.goto 59, 3) := by decide +kernel
theorem dL_law_458 : decode code 458 = .ok (.aload_n 1, 1) := by decide +kernel
theorem dL_law_459 : decode code 459 = .ok (.aload_n 0, 1) := by decide +kernel
theorem dL_law_460 : decode code 460 = .ok (.iload 4, 2) := by decide +kernel
theorem dL_law_462 : decode code 462 = .ok (.iconst 1, 1) := by decide +kernel
theorem dL_law_463 : decode code 463 = .ok (.iadd, 1) := by decide +kernel
theorem dL_law_464 : decode code 464 = .ok (.iaload, 1) := by decide +kernel
theorem dL_law_465 : decode code 465 = .ok (.aload_n 3, 1) := by decide +kernel
theorem dL_law_466 : decode code 466 = .ok (.invokestatic 76, 3) := by decide +kernel
theorem dL_law_469 : decode code 469 = .ok (.istore 5, 2) := by decide +kernel
theorem dL_law_471 : decode code 471 = .ok (.aload_n 2, 1) := by decide +kernel
theorem dL_law_472 : decode code 472 = .ok (.aload_n 0, 1) := by decide +kernel
theorem dL_law_473 : decode code 473 = .ok (.iload 4, 2) := by decide +kernel
theorem dL_law_475 : decode code 475 = .ok (.iconst 1, 1) := by decide +kernel
theorem dL_law_476 : decode code 476 = .ok (.iadd, 1) := by decide +kernel
theorem dL_law_477 : decode code 477 = .ok (.iaload, 1) := by decide +kernel
theorem dL_law_478 : decode code 478 = .ok (.invokevirtual 78, 3) := by decide +kernel
theorem dL_law_481 : decode code 481 = .ok (.istore 6, 2) := by decide +kernel
theorem dL_law_483 : decode code 483 = .ok (.aload_n 2, 1) := by decide +kernel
theorem dL_law_484 : decode code 484 = .ok (.invokevirtual 54, 3) := by decide +kernel
theorem dL_law_487 : decode code 487 = .ok (.iload 5, 2) := by decide +kernel
theorem dL_law_489 : decode code 489 = .ok (.if_icmp .eq 5, 3) := by decide +kernel
theorem dL_law_492 : decode code 492 = .ok (.iconst 0, 1) := by decide +kernel
theorem dL_law_493 : decode code 493 = .ok (.ireturn, 1) := by decide +kernel
theorem dL_law_494 : decode code 494 = .ok (.iload 5, 2) := by decide +kernel
theorem dL_law_496 : decode code 496 = .ok (.ifCond .ne 15, 3) := by decide +kernel
theorem dL_law_499 : decode code 499 = .ok (.aload_n 3, 1) := by decide +kernel
theorem dL_law_500 : decode code 500 = .ok (.iconst 0, 1) := by decide +kernel
theorem dL_law_501 : decode code 501 = .ok (.laload, 1) := by decide +kernel
theorem dL_law_502 : decode code 502 = .ok (.iload 6, 2) := by decide +kernel
theorem dL_law_504 : decode code 504 = .ok (.i2l, 1) := by decide +kernel
theorem dL_law_505 : decode code 505 = .ok (.lcmp, 1) := by decide +kernel
theorem dL_law_506 : decode code 506 = .ok (.ifCond .eq 5, 3) := by decide +kernel
theorem dL_law_509 : decode code 509 = .ok (.iconst 0, 1) := by decide +kernel
theorem dL_law_510 : decode code 510 = .ok (.ireturn, 1) := by decide +kernel
theorem dL_law_511 : decode code 511 = .ok (.goto 3, 3) := by decide +kernel
theorem dL_law_514 : decode code 514 = .ok (.iinc 4 3, 3) := by decide +kernel
theorem dL_law_517 : decode code 517 = .ok (.goto (-494), 3) := by decide +kernel
theorem dL_law_520 : decode code 520 = .ok (.iconst 1, 1) := by decide +kernel
theorem dL_law_521 : decode code 521 = .ok (.ireturn, 1) := by decide +kernel
theorem kvLaw_43 : lc_KV "LinearCellsLaw" 43 yA_draft prog_1_method_2_code 5 (some .boolean) 1 := ⟨(lc_mt rfl (List.mem_append_right _ (List.mem_append_left _ (List.mem_of_getElem? (i := 60) rfl)))), (lc_mt rfl (List.mem_append_right _ (List.mem_append_left _ (List.mem_of_getElem? (i := 57) rfl)))), (lc_mt rfl (List.mem_append_right _ (List.mem_append_left _ (List.mem_of_getElem? (i := 58) rfl)))), (lc_mt rfl (List.mem_append_right _ (List.mem_append_left _ (List.mem_of_getElem? (i := 59) rfl)))), (lc_mt rfl (List.mem_append_left _ (List.mem_of_getElem? (i := 1) rfl))), (by decide), (by decide), (by decide +kernel)⟩
theorem kvLaw_47 : lc_KV "LinearCellsLaw" 47 yQ_draft prog_10_method_4_code 7 (some .boolean) 1 := ⟨(lc_mt rfl (List.mem_append_right _ (List.mem_append_right _ (List.mem_append_right _ (List.mem_append_right _ (List.mem_append_left _ (List.mem_of_getElem? (i := 81) rfl))))))), (lc_mt rfl (List.mem_append_right _ (List.mem_append_right _ (List.mem_append_right _ (List.mem_append_right _ (List.mem_append_left _ (List.mem_of_getElem? (i := 78) rfl))))))), (lc_mt rfl (List.mem_append_right _ (List.mem_append_right _ (List.mem_append_right _ (List.mem_append_right _ (List.mem_append_left _ (List.mem_of_getElem? (i := 79) rfl))))))), (lc_mt rfl (List.mem_append_right _ (List.mem_append_right _ (List.mem_append_right _ (List.mem_append_right _ (List.mem_append_left _ (List.mem_of_getElem? (i := 80) rfl))))))), (lc_mt rfl (List.mem_append_left _ (List.mem_of_getElem? (i := 8) rfl))), (by decide), (by decide), (by decide +kernel)⟩
theorem kwLaw_48 : lc_KW "LinearCellsLaw" 48 yL_define method_3_code 4 (some .int) [(0, 9, 12, 13), (0, 9, 15, 15)] 3 := ⟨(lc_mt rfl (List.mem_append_right _ (List.mem_append_left _ (List.mem_of_getElem? (i := 156) rfl)))), (lc_mt rfl (List.mem_append_right _ (List.mem_append_left _ (List.mem_of_getElem? (i := 154) rfl)))), (lc_mt rfl (List.mem_append_right _ (List.mem_append_left _ (List.mem_of_getElem? (i := 155) rfl)))), (lc_mt rfl (List.mem_append_left _ (List.mem_of_getElem? (i := 0) rfl))), (by decide), (by decide), (by decide +kernel)⟩
theorem kvLaw_53 : lc_KV "LinearCellsLaw" 53 yQ_define prog_10_method_21_code 4 (some .int) 1 := ⟨(lc_mt rfl (List.mem_append_right _ (List.mem_append_right _ (List.mem_append_right _ (List.mem_append_right _ (List.mem_append_left _ (List.mem_of_getElem? (i := 88) rfl))))))), (lc_mt rfl (List.mem_append_right _ (List.mem_append_right _ (List.mem_append_right _ (List.mem_append_right _ (List.mem_append_left _ (List.mem_of_getElem? (i := 85) rfl))))))), (lc_mt rfl (List.mem_append_right _ (List.mem_append_right _ (List.mem_append_right _ (List.mem_append_right _ (List.mem_append_left _ (List.mem_of_getElem? (i := 86) rfl))))))), (lc_mt rfl (List.mem_append_right _ (List.mem_append_right _ (List.mem_append_right _ (List.mem_append_right _ (List.mem_append_left _ (List.mem_of_getElem? (i := 87) rfl))))))), (lc_mt rfl (List.mem_append_left _ (List.mem_of_getElem? (i := 8) rfl))), (by decide), (by decide), (by decide +kernel)⟩
theorem kvLaw_54 : lc_KV "LinearCellsLaw" 54 yQ_thrown prog_10_method_2_code 1 (some .int) 0 := ⟨(lc_mt rfl (List.mem_append_right _ (List.mem_append_right _ (List.mem_append_right _ (List.mem_append_right _ (List.mem_append_left _ (List.mem_of_getElem? (i := 77) rfl))))))), (lc_mt rfl (List.mem_append_right _ (List.mem_append_right _ (List.mem_append_right _ (List.mem_append_right _ (List.mem_append_left _ (List.mem_of_getElem? (i := 74) rfl))))))), (lc_mt rfl (List.mem_append_right _ (List.mem_append_right _ (List.mem_append_right _ (List.mem_append_right _ (List.mem_append_left _ (List.mem_of_getElem? (i := 75) rfl))))))), (lc_mt rfl (List.mem_append_right _ (List.mem_append_right _ (List.mem_append_right _ (List.mem_append_right _ (List.mem_append_left _ (List.mem_of_getElem? (i := 76) rfl))))))), (lc_mt rfl (List.mem_append_left _ (List.mem_of_getElem? (i := 8) rfl))), (by decide), (by decide), (by decide +kernel)⟩
theorem kvLaw_58 : lc_KV "LinearCellsLaw" 58 yA_sound prog_1_method_4_code 4 (some .boolean) 1 := ⟨(lc_mt rfl (List.mem_append_right _ (List.mem_append_left _ (List.mem_of_getElem? (i := 70) rfl)))), (lc_mt rfl (List.mem_append_right _ (List.mem_append_left _ (List.mem_of_getElem? (i := 67) rfl)))), (lc_mt rfl (List.mem_append_right _ (List.mem_append_left _ (List.mem_of_getElem? (i := 68) rfl)))), (lc_mt rfl (List.mem_append_right _ (List.mem_append_left _ (List.mem_of_getElem? (i := 69) rfl)))), (lc_mt rfl (List.mem_append_left _ (List.mem_of_getElem? (i := 1) rfl))), (by decide), (by decide), (by decide +kernel)⟩
theorem kvLaw_62 : lc_KV "LinearCellsLaw" 62 yQ_sound prog_10_method_31_code 8 (some .boolean) 1 := ⟨(lc_mt rfl (List.mem_append_right _ (List.mem_append_right _ (List.mem_append_right _ (List.mem_append_right _ (List.mem_append_left _ (List.mem_of_getElem? (i := 156) rfl))))))), (lc_mt rfl (List.mem_append_right _ (List.mem_append_right _ (List.mem_append_right _ (List.mem_append_right _ (List.mem_append_left _ (List.mem_of_getElem? (i := 153) rfl))))))), (lc_mt rfl (List.mem_append_right _ (List.mem_append_right _ (List.mem_append_right _ (List.mem_append_right _ (List.mem_append_left _ (List.mem_of_getElem? (i := 154) rfl))))))), (lc_mt rfl (List.mem_append_right _ (List.mem_append_right _ (List.mem_append_right _ (List.mem_append_right _ (List.mem_append_left _ (List.mem_of_getElem? (i := 155) rfl))))))), (lc_mt rfl (List.mem_append_left _ (List.mem_of_getElem? (i := 8) rfl))), (by decide), (by decide), (by decide +kernel)⟩
theorem kwLaw_63 : lc_KW "LinearCellsLaw" 63 yL_typed method_4_code 4 (some .int) [(0, 9, 12, 20)] 3 := ⟨(lc_mt rfl (List.mem_append_right _ (List.mem_append_right _ (List.mem_append_left _ (List.mem_of_getElem? (i := 105) rfl))))), (lc_mt rfl (List.mem_append_right _ (List.mem_append_right _ (List.mem_append_left _ (List.mem_of_getElem? (i := 103) rfl))))), (lc_mt rfl (List.mem_append_right _ (List.mem_append_right _ (List.mem_append_left _ (List.mem_of_getElem? (i := 104) rfl))))), (lc_mt rfl (List.mem_append_left _ (List.mem_of_getElem? (i := 0) rfl))), (by decide), (by decide), (by decide +kernel)⟩
theorem kvLaw_65 : lc_KV "LinearCellsLaw" 65 yQ_typed prog_10_method_32_code 3 (some .int) 1 := ⟨(lc_mt rfl (List.mem_append_right _ (List.mem_append_right _ (List.mem_append_right _ (List.mem_append_right _ (List.mem_append_left _ (List.mem_of_getElem? (i := 196) rfl))))))), (lc_mt rfl (List.mem_append_right _ (List.mem_append_right _ (List.mem_append_right _ (List.mem_append_right _ (List.mem_append_left _ (List.mem_of_getElem? (i := 193) rfl))))))), (lc_mt rfl (List.mem_append_right _ (List.mem_append_right _ (List.mem_append_right _ (List.mem_append_right _ (List.mem_append_left _ (List.mem_of_getElem? (i := 194) rfl))))))), (lc_mt rfl (List.mem_append_right _ (List.mem_append_right _ (List.mem_append_right _ (List.mem_append_right _ (List.mem_append_left _ (List.mem_of_getElem? (i := 195) rfl))))))), (lc_mt rfl (List.mem_append_left _ (List.mem_of_getElem? (i := 8) rfl))), (by decide), (by decide), (by decide +kernel)⟩
theorem kwLaw_66 : lc_KW "LinearCellsLaw" 66 yL_run method_5_code 5 (some .int) [(0, 10, 13, 20)] 4 := ⟨(lc_mt rfl (List.mem_append_right _ (List.mem_append_right _ (List.mem_append_left _ (List.mem_of_getElem? (i := 136) rfl))))), (lc_mt rfl (List.mem_append_right _ (List.mem_append_right _ (List.mem_append_left _ (List.mem_of_getElem? (i := 134) rfl))))), (lc_mt rfl (List.mem_append_right _ (List.mem_append_right _ (List.mem_append_left _ (List.mem_of_getElem? (i := 135) rfl))))), (lc_mt rfl (List.mem_append_left _ (List.mem_of_getElem? (i := 0) rfl))), (by decide), (by decide), (by decide +kernel)⟩
theorem kvLaw_69 : lc_KV "LinearCellsLaw" 69 yQ_run prog_10_method_38_code 4 (some .int) 2 := ⟨(lc_mt rfl (List.mem_append_right _ (List.mem_append_right _ (List.mem_append_right _ (List.mem_append_right _ (List.mem_append_left _ (List.mem_of_getElem? (i := 200) rfl))))))), (lc_mt rfl (List.mem_append_right _ (List.mem_append_right _ (List.mem_append_right _ (List.mem_append_right _ (List.mem_append_left _ (List.mem_of_getElem? (i := 197) rfl))))))), (lc_mt rfl (List.mem_append_right _ (List.mem_append_right _ (List.mem_append_right _ (List.mem_append_right _ (List.mem_append_left _ (List.mem_of_getElem? (i := 198) rfl))))))), (lc_mt rfl (List.mem_append_right _ (List.mem_append_right _ (List.mem_append_right _ (List.mem_append_right _ (List.mem_append_left _ (List.mem_of_getElem? (i := 199) rfl))))))), (lc_mt rfl (List.mem_append_left _ (List.mem_of_getElem? (i := 8) rfl))), (by decide), (by decide), (by decide +kernel)⟩
theorem kwLaw_70 : lc_KW "LinearCellsLaw" 70 yL_value method_6_code 4 (some .int) [(0, 9, 12, 13)] 3 := ⟨(lc_mt rfl (List.mem_append_right _ (List.mem_append_right _ (List.mem_append_right _ (List.mem_append_left _ (List.mem_of_getElem? (i := 62) rfl)))))), (lc_mt rfl (List.mem_append_right _ (List.mem_append_right _ (List.mem_append_right _ (List.mem_append_left _ (List.mem_of_getElem? (i := 60) rfl)))))), (lc_mt rfl (List.mem_append_right _ (List.mem_append_right _ (List.mem_append_right _ (List.mem_append_left _ (List.mem_of_getElem? (i := 61) rfl)))))), (lc_mt rfl (List.mem_append_left _ (List.mem_of_getElem? (i := 0) rfl))), (by decide), (by decide), (by decide +kernel)⟩
theorem kvLaw_72 : lc_KV "LinearCellsLaw" 72 yQ_value prog_10_method_54_code 2 (some .int) 1 := ⟨(lc_mt rfl (List.mem_append_right _ (List.mem_append_right _ (List.mem_append_right _ (List.mem_append_right _ (List.mem_append_right _ (List.mem_of_getElem? (i := 20) rfl))))))), (lc_mt rfl (List.mem_append_right _ (List.mem_append_right _ (List.mem_append_right _ (List.mem_append_right _ (List.mem_append_right _ (List.mem_of_getElem? (i := 17) rfl))))))), (lc_mt rfl (List.mem_append_right _ (List.mem_append_right _ (List.mem_append_right _ (List.mem_append_right _ (List.mem_append_right _ (List.mem_of_getElem? (i := 18) rfl))))))), (lc_mt rfl (List.mem_append_right _ (List.mem_append_right _ (List.mem_append_right _ (List.mem_append_right _ (List.mem_append_right _ (List.mem_of_getElem? (i := 19) rfl))))))), (lc_mt rfl (List.mem_append_left _ (List.mem_of_getElem? (i := 8) rfl))), (by decide), (by decide), (by decide +kernel)⟩
theorem kwLaw_73 : lc_KW "LinearCellsLaw" 73 yL_heap method_7_code 4 (some .int) [(0, 9, 12, 13)] 3 := ⟨(lc_mt rfl (List.mem_append_right _ (List.mem_append_right _ (List.mem_append_right _ (List.mem_append_left _ (List.mem_of_getElem? (i := 87) rfl)))))), (lc_mt rfl (List.mem_append_right _ (List.mem_append_right _ (List.mem_append_right _ (List.mem_append_left _ (List.mem_of_getElem? (i := 85) rfl)))))), (lc_mt rfl (List.mem_append_right _ (List.mem_append_right _ (List.mem_append_right _ (List.mem_append_left _ (List.mem_of_getElem? (i := 86) rfl)))))), (lc_mt rfl (List.mem_append_left _ (List.mem_of_getElem? (i := 0) rfl))), (by decide), (by decide), (by decide +kernel)⟩
theorem kvLaw_75 : lc_KV "LinearCellsLaw" 75 yQ_heap prog_10_method_55_code 4 (some .int) 1 := ⟨(lc_mt rfl (List.mem_append_right _ (List.mem_append_right _ (List.mem_append_right _ (List.mem_append_right _ (List.mem_append_right _ (List.mem_of_getElem? (i := 48) rfl))))))), (lc_mt rfl (List.mem_append_right _ (List.mem_append_right _ (List.mem_append_right _ (List.mem_append_right _ (List.mem_append_right _ (List.mem_of_getElem? (i := 45) rfl))))))), (lc_mt rfl (List.mem_append_right _ (List.mem_append_right _ (List.mem_append_right _ (List.mem_append_right _ (List.mem_append_right _ (List.mem_of_getElem? (i := 46) rfl))))))), (lc_mt rfl (List.mem_append_right _ (List.mem_append_right _ (List.mem_append_right _ (List.mem_append_right _ (List.mem_append_right _ (List.mem_of_getElem? (i := 47) rfl))))))), (lc_mt rfl (List.mem_append_left _ (List.mem_of_getElem? (i := 8) rfl))), (by decide), (by decide), (by decide +kernel)⟩
theorem kwLaw_76 : lc_KW "LinearCellsLaw" 76 yL_cell method_8_code 4 (some .int) [(0, 9, 12, 35)] 3 := ⟨(lc_mt rfl (List.mem_append_right _ (List.mem_append_right _ (List.mem_append_right _ (List.mem_append_left _ (List.mem_of_getElem? (i := 107) rfl)))))), (lc_mt rfl (List.mem_append_right _ (List.mem_append_right _ (List.mem_append_right _ (List.mem_append_left _ (List.mem_of_getElem? (i := 105) rfl)))))), (lc_mt rfl (List.mem_append_right _ (List.mem_append_right _ (List.mem_append_right _ (List.mem_append_left _ (List.mem_of_getElem? (i := 106) rfl)))))), (lc_mt rfl (List.mem_append_left _ (List.mem_of_getElem? (i := 0) rfl))), (by decide), (by decide), (by decide +kernel)⟩
theorem kvLaw_78 : lc_KV "LinearCellsLaw" 78 yQ_cell prog_10_method_56_code 2 (some .int) 1 := ⟨(lc_mt rfl (List.mem_append_right _ (List.mem_append_right _ (List.mem_append_right _ (List.mem_append_right _ (List.mem_append_right _ (List.mem_of_getElem? (i := 52) rfl))))))), (lc_mt rfl (List.mem_append_right _ (List.mem_append_right _ (List.mem_append_right _ (List.mem_append_right _ (List.mem_append_right _ (List.mem_of_getElem? (i := 49) rfl))))))), (lc_mt rfl (List.mem_append_right _ (List.mem_append_right _ (List.mem_append_right _ (List.mem_append_right _ (List.mem_append_right _ (List.mem_of_getElem? (i := 50) rfl))))))), (lc_mt rfl (List.mem_append_right _ (List.mem_append_right _ (List.mem_append_right _ (List.mem_append_right _ (List.mem_append_right _ (List.mem_of_getElem? (i := 51) rfl))))))), (lc_mt rfl (List.mem_append_left _ (List.mem_of_getElem? (i := 8) rfl))), (by decide), (by decide), (by decide +kernel)⟩
theorem kcLaw_41 : Cond.constantLong "LinearCellsLaw" 41 4294967295 ∈ lc_ALL := (lc_mt rfl (List.mem_append_right _ (List.mem_append_right _ (List.mem_append_right _ (List.mem_append_right _ (List.mem_append_right _ (List.mem_of_getElem? (i := 53) rfl)))))))
/-! the law: one turn of its loop, said of the plain functions -/
def lc_tX (FA : lc_S → Option ((Nat × Int32) × lc_S)) (FQ : lc_S → Option (Int32 × lc_S)) (ks : Nat → Prop) (z z' : lc_S) : Prop :=
  ∃ (k : Nat) (v : Int32) (z1 : lc_S) (rb : Int32) (z2 : lc_S), FA z = some ((k, v), z1) ∧ ks k ∧ FQ (lc_out k v z1) = some (rb, z2) ∧ fQ_thrown z2 = some (lc_code k, z') ∧ (k = 0 → lcL z' 0 (0 : Int32).toNatClampNeg = rb.toInt64)
def lc_tB (FA FQ : lc_S → Option (Int32 × lc_S)) (z z' : lc_S) : Prop := ∃ (r : Int32) (z1 : lc_S), FA z = some (r, z1) ∧ FQ z1 = some (r, z')
def lc_lng (b c : Int32) : Int64 := (b.toInt64 <<< ((32 : Int32).toInt64 &&& 63)) ||| (c.toInt64 &&& 4294967295)
def lc_turn (a b c : Int32) (z z' : lc_S) : Prop :=
  if a &&& 7 = 0 then lc_tB (fA_draft (lc_lng b c)) (fQ_draft (lc_lng b c)) z z'
  else if a &&& 7 = 1 then lc_tX (fA_define b) (fQ_define b) (fun k => k = 0 ∨ k = 1 ∨ k = 2) z z'
  else if a &&& 7 = 2 then lc_tB (fA_sound b) (fQ_sound b) z z'
  else if a &&& 7 = 3 then lc_tX (fA_typed b) (fQ_typed b) (fun k => k = 0 ∨ k = 3) z z'
  else if a &&& 7 = 4 then lc_tX (fA_run b c) (fQ_run b c) (fun k => k = 0 ∨ k = 3) z z'
  else if a &&& 7 = 5 then lc_tX (fA_value b) (fQ_value b) (fun k => k = 0 ∨ k = 1) z z'
  else if a &&& 7 = 6 then lc_tX (fA_heap b) (fQ_heap b) (fun k => k = 0 ∨ k = 1) z z'
  else if a &&& 7 = 7 then lc_tX (fA_cell b) (fQ_cell b) (fun k => k = 0 ∨ k = 4) z z'
  else z' = z
theorem lc_cmp0 {x y : Int64} (h : x = y) : lg_cmp x y = 0 := by
  subst h
  unfold lg_cmp
  rw [if_neg (by simp), if_pos rfl]
theorem lc_if {q : Prop} {_i : Decidable q} {A B : Prop} (h : q) (hf : if q then A else B) : A := by rw [if_pos h] at hf; exact hf
theorem lc_ifn {q : Prop} {_i : Decidable q} {A B : Prop} (h : ¬ q) (hf : if q then A else B) : B := by rw [if_neg h] at hf; exact hf
section LCL
variable {p : Program} {l : Launch} {e : Env} {R : Room} {s : State} {m : MethodId} {args : Array Value} {below : List Frame} {meth : Method} {c : Code} {H : Heap} {locs : List Loc} {cells slots : Nat} {Q : State → Prop}
variable {cc : ByteArray} {pc : Nat} {ls : Array Slot} {rest : List Value} {A : Nat → Prop}
theorem lc_sld (hx : p.tables.exec = Jvm.exec) (hb : c.code = cc) {b L : Nat} {xs : Nat → Int32} (hX : va_X b L xs s s.heap) (hbl : b < s.heap.size) (hbA : ¬ A b) (hS : va_S A s.heap H locs) {i : Int32} (j : Nat) (hi : i = nI j) (hj : j < L) (hL : L < 2 ^ 31) (hdg : decode cc pc = .ok (.iaload, 1))
    (kk : W p l e R s m args below meth c H locs cells slots Q (F0 m (pc + 1) ls (.int (xs j) :: rest))) : W p l e R s m args below meth c H locs cells slots Q (F0 m pc ls (.int i :: .ref b :: rest)) := by
  subst hi
  refine va_sld hx hb hX hbl hbA hS (vp_in_nI hj hL) hdg ?_
  rw [nI_clamp (by omega)]
  exact kk
end LCL
theorem lc_gt {L j : Nat} (hL : L ≤ 1536) (h : ¬ Int32.ofNat L - 3 < nI j) (hj : j ≤ L + 3) : j + 3 ≤ L := by
  rw [Int32.lt_iff_toInt_lt] at h
  have h1 : (Int32.ofNat L - 3).toInt = (L : Int) - 3 := pk_sub_toInt (a := L) (b := 3) (by omega) (by omega)
  rw [h1, nI_toInt (by omega)] at h
  omega
set_option maxHeartbeats 8000000 in
set_option maxRecDepth 100000 in
theorem lc_loop {p : Program} {e : Env} {s : State} {m : MethodId} {below : List Frame} {meth : Method} {c : Code} (l : Launch) (htr : l.stackTraces = false) {b L : Nat} {xs : Nat → Int32} (hL : L ≤ 1536) (C0 : lw_At p s m meth c b L xs) (G : lc_G) (hb0 : G.2.2.2.2 = s.heap.size) (hE : lc_E G s) (hT : lc_T G s)
    (I : Nat → lc_S → Prop) (hstep : ∀ (n : Nat) (z : lc_S), 3 * n + 3 ≤ L → I n z → ∃ z', lc_turn (xs (3 * n)) (xs (3 * n + 1)) (xs (3 * n + 2)) z z' ∧ I (n + 1) z') :
    ∀ (f n : Nat) {z : lc_S} {H : Heap} {locs : List Loc} {ls : Array Slot}, 3 * n ≤ L → L < 3 * n + 3 * f + 3 → I n z → lc_H G z s.heap H locs → lv_has ls 7 [(0, .ref b), (1, .ref (lc_ad G 1)), (2, .ref (lc_ad G 80)), (3, .ref (lc_ad G 0)), (4, .int (nI (3 * n)))] →
      W p l e room_1 s m #[Value.ref b] below meth c H locs (1000 + n) (40000 + 6 * n) (lw_Z below #[Value.ref b] s) (F0 m 23 ls []) := by
  obtain ⟨hx, hb, hr, hml, hown, hts1, hX, hbl, hlocks, hgv⟩ := C0
  have hts : ∀ w ∈ lc_ALL, w.before #[Value.ref b] s = true := fun w h => hts1 w (List.mem_filter.mp h).1
  have hbA : ¬ lc_A G b := by show ¬ G.2.2.2.2 ≤ b; omega
  have hz : G.2.2.2.2 ≤ s.heap.size := by omega
  intro f
  induction f with
  | zero =>
    intro n z H locs ls h1 h2 hI hH hl
    refine lv_iload hx hb dL_law_23 (lv_at hl 4 rfl) ?_
    refine lv_aload_n hx hb dL_law_25 rfl (lv_at hl 0 rfl) ?_
    refine va_slen hx hb hX hbl hbA hH.2 dL_law_26 ?_
    refine lv_iconst (v := 3) hx hb dL_law_27 (by decide) ?_
    refine lv_isub hx hb dL_law_28 ?_
    refine lv_icmp_gt (tgt := 520) hx hb dL_law_29 (by decide) (fun hc => ?_) (fun hc => ?_)
    · refine lv_iconst (v := 1) hx hb dL_law_520 (by decide) ?_
      refine va_forget (fun q hq => by have := hH.2.2.2 q hq; rw [← hb0]; exact this) ?_
      refine W.widen (k := 601024) (n := 7293034) (by omega) (by omega) ?_
      exact lw_ret hx hb hr hlocks dL_law_521
    · have := lc_gt (by omega) hc (by omega)
      omega
  | succ f ih =>
    intro n z H locs ls h1 h2 hI hH hl
    refine lv_iload hx hb dL_law_23 (lv_at hl 4 rfl) ?_
    refine lv_aload_n hx hb dL_law_25 rfl (lv_at hl 0 rfl) ?_
    refine va_slen hx hb hX hbl hbA hH.2 dL_law_26 ?_
    refine lv_iconst (v := 3) hx hb dL_law_27 (by decide) ?_
    refine lv_isub hx hb dL_law_28 ?_
    refine lv_icmp_gt (tgt := 520) hx hb dL_law_29 (by decide) (fun hc => ?_) (fun hc => ?_)
    · refine lv_iconst (v := 1) hx hb dL_law_520 (by decide) ?_
      refine va_forget (fun q hq => by have := hH.2.2.2 q hq; rw [← hb0]; exact this) ?_
      refine W.widen (k := 601024) (n := 7293034) (by omega) (by omega) ?_
      exact lw_ret hx hb hr hlocks dL_law_521
    have hin : 3 * n + 3 ≤ L := lc_gt (by omega) hc (by omega)
    have hcn : 1000 + n + 1 ≤ room_1.cells := by show 1000 + n + 1 ≤ 601024; omega
    have hsn : 40000 + 6 * n + 6 ≤ room_1.slots := by show 40000 + 6 * n + 6 ≤ 7293034; omega
    obtain ⟨z', ht, hI'⟩ := hstep n z hin hI
    refine lv_aload_n hx hb dL_law_32 rfl (lv_at hl 0 rfl) ?_
    refine lv_iload hx hb dL_law_33 (lv_at hl 4 rfl) ?_
    refine lc_sld hx hb hX hbl hbA hH.2 (3 * n) rfl (by omega) (by omega) dL_law_35 ?_
    refine lv_bipush (v := 7) hx hb dL_law_36 (by decide) ?_
    refine lv_iand hx hb dL_law_38 ?_
    by_cases hc0 : xs (3 * n) &&& 7 = 0
    · replace ht := lc_if hc0 ht
      refine lv_tableIn (tgt := 84) hx hb dL_law_39 (by rw [hc0]; decide) (by rw [hc0]; decide) (by rw [hc0] <;> rfl) (by decide) ?_
      obtain ⟨r, z1, hf1, hf2⟩ := ht
      refine lv_aload_n hx hb dL_law_84 rfl (lv_at hl 1 rfl) ?_
      refine lv_aload_n hx hb dL_law_85 rfl (lv_at hl 0 rfl) ?_
      refine lv_iload hx hb dL_law_86 (lv_at hl 4 rfl) ?_
      refine lv_iconst (v := 1) hx hb dL_law_88 (by decide) ?_
      refine lv_iadd hx hb dL_law_89 ?_
      refine lc_sld hx hb hX hbl hbA hH.2 (3 * n + 1) (by rw [show ((1 : Int32)) = nI 1 from rfl, nI_add]) (by omega) (by omega) dL_law_90 ?_
      refine lv_i2l hx hb dL_law_91 rfl ?_
      refine lv_bipush (v := 32) hx hb dL_law_92 (by decide) ?_
      refine lv_lshl hx hb dL_law_94 rfl ?_
      refine lv_aload_n hx hb dL_law_95 rfl (lv_at hl 0 rfl) ?_
      refine lv_iload hx hb dL_law_96 (lv_at hl 4 rfl) ?_
      refine lv_iconst (v := 2) hx hb dL_law_98 (by decide) ?_
      refine lv_iadd hx hb dL_law_99 ?_
      refine lc_sld hx hb hX hbl hbA hH.2 (3 * n + 2) (by rw [show ((2 : Int32)) = nI 2 from rfl, nI_add]) (by omega) (by omega) dL_law_100 ?_
      refine lv_i2l hx hb dL_law_101 rfl ?_
      refine lv_ldc2 hx hb hown (hts _ kcLaw_41) dL_law_102 ?_
      refine lv_land hx hb dL_law_105 ?_
      refine lv_lor hx hb dL_law_106 ?_
      refine lc_calli (va_runV (As := [.long (lc_lng (xs (3 * n + 1)) (xs (3 * n + 2)))]) (rest := []) ⟨hx, hb, hml, hown, hts⟩ (cA_draft l G hf1) (lc_cwV hts kvLaw_43 ⟨by decide, by decide⟩) (lc_preV hE hH lc_h1 rfl _) rfl rfl hl.1 rfl (lv_room (Nat.le_of_ble_eq_true rfl)) dL_law_107 ⟨by omega, by omega⟩) hH (fun H locs hH => ?_)
      refine lv_aload_n hx hb dL_law_110 rfl (lv_at hl 2 rfl) ?_
      refine lv_aload_n hx hb dL_law_111 rfl (lv_at hl 0 rfl) ?_
      refine lv_iload hx hb dL_law_112 (lv_at hl 4 rfl) ?_
      refine lv_iconst (v := 1) hx hb dL_law_114 (by decide) ?_
      refine lv_iadd hx hb dL_law_115 ?_
      refine lc_sld hx hb hX hbl hbA hH.2 (3 * n + 1) (by rw [show ((1 : Int32)) = nI 1 from rfl, nI_add]) (by omega) (by omega) dL_law_116 ?_
      refine lv_i2l hx hb dL_law_117 rfl ?_
      refine lv_bipush (v := 32) hx hb dL_law_118 (by decide) ?_
      refine lv_lshl hx hb dL_law_120 rfl ?_
      refine lv_aload_n hx hb dL_law_121 rfl (lv_at hl 0 rfl) ?_
      refine lv_iload hx hb dL_law_122 (lv_at hl 4 rfl) ?_
      refine lv_iconst (v := 2) hx hb dL_law_124 (by decide) ?_
      refine lv_iadd hx hb dL_law_125 ?_
      refine lc_sld hx hb hX hbl hbA hH.2 (3 * n + 2) (by rw [show ((2 : Int32)) = nI 2 from rfl, nI_add]) (by omega) (by omega) dL_law_126 ?_
      refine lv_i2l hx hb dL_law_127 rfl ?_
      refine lv_ldc2 hx hb hown (hts _ kcLaw_41) dL_law_128 ?_
      refine lv_land hx hb dL_law_131 ?_
      refine lv_lor hx hb dL_law_132 ?_
      refine lc_calli (va_runV (As := [.long (lc_lng (xs (3 * n + 1)) (xs (3 * n + 2)))]) (rest := [.int r]) ⟨hx, hb, hml, hown, hts⟩ (cQ_draft l G hf2) (lc_cwV hts kvLaw_47 ⟨by decide, by decide⟩) (lc_preV hE hH lc_h80 rfl _) rfl rfl hl.1 rfl (lv_room (Nat.le_of_ble_eq_true rfl)) dL_law_133 ⟨by omega, by omega⟩) hH (fun H locs hH => ?_)
      refine lv_icmp_eq (tgt := 514) hx hb dL_law_136 (by decide) (fun _ => ?_) (fun hc => absurd rfl hc)
      refine lv_iinc (k := 4) (v := nI (3 * (n + 1))) hx hb dL_law_514 hl rfl (by rw [show Int32.ofInt 3 = nI 3 from rfl, nI_add]; rfl) (by decide) rfl (fun ls hl => ?_)
      replace hl : lv_has ls 7 [(4, .int (nI (3 * (n + 1)))), (0, .ref b), (1, .ref (lc_ad G 1)), (2, .ref (lc_ad G 80)), (3, .ref (lc_ad G 0))] := hl
      refine lv_goto (tgt := 23) hx hb dL_law_517 (by decide) ?_
      refine W.widen (k := 1000 + (n + 1)) (n := 40000 + 6 * (n + 1)) (by omega) (by omega) ?_
      exact ih (n + 1) (by omega) (by omega) hI' hH (lv_sub hl [1, 2, 3, 4, 0] rfl)
    replace ht := lc_ifn hc0 ht
    by_cases hc1 : xs (3 * n) &&& 7 = 1
    · replace ht := lc_if hc1 ht
      refine lv_tableIn (tgt := 141) hx hb dL_law_39 (by rw [hc1]; decide) (by rw [hc1]; decide) (by rw [hc1] <;> rfl) (by decide) ?_
      obtain ⟨k, v, z1, rb, z2, hf1, hk, hf2, hf3, hf4⟩ := ht
      refine lv_aload_n hx hb dL_law_141 rfl (lv_at hl 1 rfl) ?_
      refine lv_aload_n hx hb dL_law_142 rfl (lv_at hl 0 rfl) ?_
      refine lv_iload hx hb dL_law_143 (lv_at hl 4 rfl) ?_
      refine lv_iconst (v := 1) hx hb dL_law_145 (by decide) ?_
      refine lv_iadd hx hb dL_law_146 ?_
      refine lc_sld hx hb hX hbl hbA hH.2 (3 * n + 1) (by rw [show ((1 : Int32)) = nI 1 from rfl, nI_add]) (by omega) (by omega) dL_law_147 ?_
      refine lv_aload_n hx hb dL_law_148 rfl (lv_at hl 3 rfl) ?_
      refine lc_callW (As := [.ref (lc_ad G 1), .int (xs (3 * n + 1)), .ref (lc_ad G 0)]) (rest := []) hx hb (hml.trans hl.1.symm) hown hts hE hT hz hH (cL_define l G htr hf1 hk) kwLaw_48 ⟨by decide, by decide⟩ rfl (Nat.le_of_ble_eq_true rfl) hcn hsn dL_law_149 (fun H locs hH => ?_)
      refine lv_istore hx hb dL_law_152 hl (by decide) rfl (fun ls hl => ?_)
      replace hl : lv_has ls 7 [(5, .int (lc_code k)), (0, .ref b), (1, .ref (lc_ad G 1)), (2, .ref (lc_ad G 80)), (3, .ref (lc_ad G 0)), (4, .int (nI (3 * n)))] := hl
      refine lv_aload_n hx hb dL_law_154 rfl (lv_at hl 3 rfl) ?_
      refine lv_aload_n hx hb dL_law_155 rfl (lv_at hl 1 rfl) ?_
      refine lv_iload hx hb dL_law_156 (lv_at hl 5 rfl) ?_
      refine lv_iconst (v := 1) hx hb dL_law_158 (by decide) ?_
      refine lv_iadd hx hb dL_law_159 ?_
      refine lc_sld hx hb hX hbl hbA hH.2 (3 * n + 1) (by rw [show ((1 : Int32)) = nI 1 from rfl, nI_add]) (by omega) (by omega) dL_law_160 ?_
      refine lc_calli (va_runV (As := [.int (xs (3 * n + 1))]) (rest := []) ⟨hx, hb, hml, hown, hts⟩ (cQ_define l G hf2) (lc_cwV hts kvLaw_53 ⟨by decide, by decide⟩) (lc_preV hE hH lc_h80 rfl _) rfl rfl hl.1 rfl (lv_room (Nat.le_of_ble_eq_true rfl)) dL_law_161 ⟨by omega, by omega⟩) hH (fun H locs hH => ?_)
      refine lv_istore hx hb dL_law_164 hl (by decide) rfl (fun ls hl => ?_)
      replace hl : lv_has ls 7 [(6, .int rb), (5, .int (lc_code k)), (0, .ref b), (1, .ref (lc_ad G 1)), (2, .ref (lc_ad G 80)), (3, .ref (lc_ad G 0)), (4, .int (nI (3 * n)))] := hl
      refine lv_aload_n hx hb dL_law_166 rfl (lv_at hl 4 rfl) ?_
      refine lc_calli (va_runV (As := []) (rest := []) ⟨hx, hb, hml, hown, hts⟩ (cQ_thrown l G hf3) (lc_cwV hts kvLaw_54 ⟨by decide, by decide⟩) (lc_preV hE hH lc_h80 rfl _) rfl rfl hl.1 rfl (lv_room (Nat.le_of_ble_eq_true rfl)) dL_law_167 ⟨by omega, by omega⟩) hH (fun H locs hH => ?_)
      refine lv_iload hx hb dL_law_170 (lv_at hl 1 rfl) ?_
      refine lv_icmp_eq (tgt := 177) hx hb dL_law_172 (by decide) (fun _ => ?_) (fun hc => absurd rfl hc)
      refine lv_iload hx hb dL_law_177 (lv_at hl 1 rfl) ?_
      refine lv_if_ne (tgt := 194) hx hb dL_law_179 (by decide) (fun hc => ?_) (fun hc => ?_)
      · refine lv_goto (tgt := 514) hx hb dL_law_194 (by decide) ?_
        refine lv_iinc (k := 6) (v := nI (3 * (n + 1))) hx hb dL_law_514 hl rfl (by rw [show Int32.ofInt 3 = nI 3 from rfl, nI_add]; rfl) (by decide) rfl (fun ls hl => ?_)
        replace hl : lv_has ls 7 [(4, .int (nI (3 * (n + 1)))), (6, .int rb), (5, .int (lc_code k)), (0, .ref b), (1, .ref (lc_ad G 1)), (2, .ref (lc_ad G 80)), (3, .ref (lc_ad G 0))] := hl
        refine lv_goto (tgt := 23) hx hb dL_law_517 (by decide) ?_
        refine W.widen (k := 1000 + (n + 1)) (n := 40000 + 6 * (n + 1)) (by omega) (by omega) ?_
        exact ih (n + 1) (by omega) (by omega) hI' hH (lv_sub hl [3, 4, 5, 6, 0] rfl)
      · have hk0 : k = 0 := by
          by_cases h0 : k = 0
          · exact h0
          · exfalso
            unfold lc_code at hc
            rw [if_neg h0] at hc
            by_cases h2 : k = 2
            · rw [if_pos h2] at hc; exact absurd hc (by decide)
            · rw [if_neg h2] at hc; exact absurd hc (by decide)
        refine lv_aload_n hx hb dL_law_182 rfl (lv_at hl 5 rfl) ?_
        refine lv_iconst (v := 0) hx hb dL_law_183 (by decide) ?_
        refine lc_lald hx hb hE hH lc_h0 rfl (by decide) dL_law_184 ?_
        refine lv_iload hx hb dL_law_185 (lv_at hl 0 rfl) ?_
        refine lv_i2l hx hb dL_law_187 rfl ?_
        refine W.lcmp hx hb dL_law_188 ?_
        refine lv_if_eq (tgt := 194) hx hb dL_law_189 (by decide) (fun _ => ?_) (fun hc => absurd (lc_cmp0 (hf4 hk0)) hc)
        refine lv_goto (tgt := 514) hx hb dL_law_194 (by decide) ?_
        refine lv_iinc (k := 6) (v := nI (3 * (n + 1))) hx hb dL_law_514 hl rfl (by rw [show Int32.ofInt 3 = nI 3 from rfl, nI_add]; rfl) (by decide) rfl (fun ls hl => ?_)
        replace hl : lv_has ls 7 [(4, .int (nI (3 * (n + 1)))), (6, .int rb), (5, .int (lc_code k)), (0, .ref b), (1, .ref (lc_ad G 1)), (2, .ref (lc_ad G 80)), (3, .ref (lc_ad G 0))] := hl
        refine lv_goto (tgt := 23) hx hb dL_law_517 (by decide) ?_
        refine W.widen (k := 1000 + (n + 1)) (n := 40000 + 6 * (n + 1)) (by omega) (by omega) ?_
        exact ih (n + 1) (by omega) (by omega) hI' hH (lv_sub hl [3, 4, 5, 6, 0] rfl)
    replace ht := lc_ifn hc1 ht
    by_cases hc2 : xs (3 * n) &&& 7 = 2
    · replace ht := lc_if hc2 ht
      refine lv_tableIn (tgt := 197) hx hb dL_law_39 (by rw [hc2]; decide) (by rw [hc2]; decide) (by rw [hc2] <;> rfl) (by decide) ?_
      obtain ⟨r, z1, hf1, hf2⟩ := ht
      refine lv_aload_n hx hb dL_law_197 rfl (lv_at hl 1 rfl) ?_
      refine lv_aload_n hx hb dL_law_198 rfl (lv_at hl 0 rfl) ?_
      refine lv_iload hx hb dL_law_199 (lv_at hl 4 rfl) ?_
      refine lv_iconst (v := 1) hx hb dL_law_201 (by decide) ?_
      refine lv_iadd hx hb dL_law_202 ?_
      refine lc_sld hx hb hX hbl hbA hH.2 (3 * n + 1) (by rw [show ((1 : Int32)) = nI 1 from rfl, nI_add]) (by omega) (by omega) dL_law_203 ?_
      refine lc_calli (va_runV (As := [.int (xs (3 * n + 1))]) (rest := []) ⟨hx, hb, hml, hown, hts⟩ (cA_sound l G hf1) (lc_cwV hts kvLaw_58 ⟨by decide, by decide⟩) (lc_preV hE hH lc_h1 rfl _) rfl rfl hl.1 rfl (lv_room (Nat.le_of_ble_eq_true rfl)) dL_law_204 ⟨by omega, by omega⟩) hH (fun H locs hH => ?_)
      refine lv_aload_n hx hb dL_law_207 rfl (lv_at hl 2 rfl) ?_
      refine lv_aload_n hx hb dL_law_208 rfl (lv_at hl 0 rfl) ?_
      refine lv_iload hx hb dL_law_209 (lv_at hl 4 rfl) ?_
      refine lv_iconst (v := 1) hx hb dL_law_211 (by decide) ?_
      refine lv_iadd hx hb dL_law_212 ?_
      refine lc_sld hx hb hX hbl hbA hH.2 (3 * n + 1) (by rw [show ((1 : Int32)) = nI 1 from rfl, nI_add]) (by omega) (by omega) dL_law_213 ?_
      refine lc_calli (va_runV (As := [.int (xs (3 * n + 1))]) (rest := [.int r]) ⟨hx, hb, hml, hown, hts⟩ (cQ_sound l G hf2) (lc_cwV hts kvLaw_62 ⟨by decide, by decide⟩) (lc_preV hE hH lc_h80 rfl _) rfl rfl hl.1 rfl (lv_room (Nat.le_of_ble_eq_true rfl)) dL_law_214 ⟨by omega, by omega⟩) hH (fun H locs hH => ?_)
      refine lv_icmp_eq (tgt := 514) hx hb dL_law_217 (by decide) (fun _ => ?_) (fun hc => absurd rfl hc)
      refine lv_iinc (k := 4) (v := nI (3 * (n + 1))) hx hb dL_law_514 hl rfl (by rw [show Int32.ofInt 3 = nI 3 from rfl, nI_add]; rfl) (by decide) rfl (fun ls hl => ?_)
      replace hl : lv_has ls 7 [(4, .int (nI (3 * (n + 1)))), (0, .ref b), (1, .ref (lc_ad G 1)), (2, .ref (lc_ad G 80)), (3, .ref (lc_ad G 0))] := hl
      refine lv_goto (tgt := 23) hx hb dL_law_517 (by decide) ?_
      refine W.widen (k := 1000 + (n + 1)) (n := 40000 + 6 * (n + 1)) (by omega) (by omega) ?_
      exact ih (n + 1) (by omega) (by omega) hI' hH (lv_sub hl [1, 2, 3, 4, 0] rfl)
    replace ht := lc_ifn hc2 ht
    by_cases hc3 : xs (3 * n) &&& 7 = 3
    · replace ht := lc_if hc3 ht
      refine lv_tableIn (tgt := 222) hx hb dL_law_39 (by rw [hc3]; decide) (by rw [hc3]; decide) (by rw [hc3] <;> rfl) (by decide) ?_
      obtain ⟨k, v, z1, rb, z2, hf1, hk, hf2, hf3, hf4⟩ := ht
      refine lv_aload_n hx hb dL_law_222 rfl (lv_at hl 1 rfl) ?_
      refine lv_aload_n hx hb dL_law_223 rfl (lv_at hl 0 rfl) ?_
      refine lv_iload hx hb dL_law_224 (lv_at hl 4 rfl) ?_
      refine lv_iconst (v := 1) hx hb dL_law_226 (by decide) ?_
      refine lv_iadd hx hb dL_law_227 ?_
      refine lc_sld hx hb hX hbl hbA hH.2 (3 * n + 1) (by rw [show ((1 : Int32)) = nI 1 from rfl, nI_add]) (by omega) (by omega) dL_law_228 ?_
      refine lv_aload_n hx hb dL_law_229 rfl (lv_at hl 3 rfl) ?_
      refine lc_callW (As := [.ref (lc_ad G 1), .int (xs (3 * n + 1)), .ref (lc_ad G 0)]) (rest := []) hx hb (hml.trans hl.1.symm) hown hts hE hT hz hH (cL_typed l G htr hf1 hk) kwLaw_63 ⟨by decide, by decide⟩ rfl (Nat.le_of_ble_eq_true rfl) hcn hsn dL_law_230 (fun H locs hH => ?_)
      refine lv_istore hx hb dL_law_233 hl (by decide) rfl (fun ls hl => ?_)
      replace hl : lv_has ls 7 [(5, .int (lc_code k)), (0, .ref b), (1, .ref (lc_ad G 1)), (2, .ref (lc_ad G 80)), (3, .ref (lc_ad G 0)), (4, .int (nI (3 * n)))] := hl
      refine lv_aload_n hx hb dL_law_235 rfl (lv_at hl 3 rfl) ?_
      refine lv_aload_n hx hb dL_law_236 rfl (lv_at hl 1 rfl) ?_
      refine lv_iload hx hb dL_law_237 (lv_at hl 5 rfl) ?_
      refine lv_iconst (v := 1) hx hb dL_law_239 (by decide) ?_
      refine lv_iadd hx hb dL_law_240 ?_
      refine lc_sld hx hb hX hbl hbA hH.2 (3 * n + 1) (by rw [show ((1 : Int32)) = nI 1 from rfl, nI_add]) (by omega) (by omega) dL_law_241 ?_
      refine lc_calli (va_runV (As := [.int (xs (3 * n + 1))]) (rest := []) ⟨hx, hb, hml, hown, hts⟩ (cQ_typed l G hf2) (lc_cwV hts kvLaw_65 ⟨by decide, by decide⟩) (lc_preV hE hH lc_h80 rfl _) rfl rfl hl.1 rfl (lv_room (Nat.le_of_ble_eq_true rfl)) dL_law_242 ⟨by omega, by omega⟩) hH (fun H locs hH => ?_)
      refine lv_istore hx hb dL_law_245 hl (by decide) rfl (fun ls hl => ?_)
      replace hl : lv_has ls 7 [(6, .int rb), (5, .int (lc_code k)), (0, .ref b), (1, .ref (lc_ad G 1)), (2, .ref (lc_ad G 80)), (3, .ref (lc_ad G 0)), (4, .int (nI (3 * n)))] := hl
      refine lv_aload_n hx hb dL_law_247 rfl (lv_at hl 4 rfl) ?_
      refine lc_calli (va_runV (As := []) (rest := []) ⟨hx, hb, hml, hown, hts⟩ (cQ_thrown l G hf3) (lc_cwV hts kvLaw_54 ⟨by decide, by decide⟩) (lc_preV hE hH lc_h80 rfl _) rfl rfl hl.1 rfl (lv_room (Nat.le_of_ble_eq_true rfl)) dL_law_248 ⟨by omega, by omega⟩) hH (fun H locs hH => ?_)
      refine lv_iload hx hb dL_law_251 (lv_at hl 1 rfl) ?_
      refine lv_icmp_eq (tgt := 258) hx hb dL_law_253 (by decide) (fun _ => ?_) (fun hc => absurd rfl hc)
      refine lv_iload hx hb dL_law_258 (lv_at hl 1 rfl) ?_
      refine lv_if_ne (tgt := 275) hx hb dL_law_260 (by decide) (fun hc => ?_) (fun hc => ?_)
      · refine lv_goto (tgt := 514) hx hb dL_law_275 (by decide) ?_
        refine lv_iinc (k := 6) (v := nI (3 * (n + 1))) hx hb dL_law_514 hl rfl (by rw [show Int32.ofInt 3 = nI 3 from rfl, nI_add]; rfl) (by decide) rfl (fun ls hl => ?_)
        replace hl : lv_has ls 7 [(4, .int (nI (3 * (n + 1)))), (6, .int rb), (5, .int (lc_code k)), (0, .ref b), (1, .ref (lc_ad G 1)), (2, .ref (lc_ad G 80)), (3, .ref (lc_ad G 0))] := hl
        refine lv_goto (tgt := 23) hx hb dL_law_517 (by decide) ?_
        refine W.widen (k := 1000 + (n + 1)) (n := 40000 + 6 * (n + 1)) (by omega) (by omega) ?_
        exact ih (n + 1) (by omega) (by omega) hI' hH (lv_sub hl [3, 4, 5, 6, 0] rfl)
      · have hk0 : k = 0 := by
          by_cases h0 : k = 0
          · exact h0
          · exfalso
            unfold lc_code at hc
            rw [if_neg h0] at hc
            by_cases h2 : k = 2
            · rw [if_pos h2] at hc; exact absurd hc (by decide)
            · rw [if_neg h2] at hc; exact absurd hc (by decide)
        refine lv_aload_n hx hb dL_law_263 rfl (lv_at hl 5 rfl) ?_
        refine lv_iconst (v := 0) hx hb dL_law_264 (by decide) ?_
        refine lc_lald hx hb hE hH lc_h0 rfl (by decide) dL_law_265 ?_
        refine lv_iload hx hb dL_law_266 (lv_at hl 0 rfl) ?_
        refine lv_i2l hx hb dL_law_268 rfl ?_
        refine W.lcmp hx hb dL_law_269 ?_
        refine lv_if_eq (tgt := 275) hx hb dL_law_270 (by decide) (fun _ => ?_) (fun hc => absurd (lc_cmp0 (hf4 hk0)) hc)
        refine lv_goto (tgt := 514) hx hb dL_law_275 (by decide) ?_
        refine lv_iinc (k := 6) (v := nI (3 * (n + 1))) hx hb dL_law_514 hl rfl (by rw [show Int32.ofInt 3 = nI 3 from rfl, nI_add]; rfl) (by decide) rfl (fun ls hl => ?_)
        replace hl : lv_has ls 7 [(4, .int (nI (3 * (n + 1)))), (6, .int rb), (5, .int (lc_code k)), (0, .ref b), (1, .ref (lc_ad G 1)), (2, .ref (lc_ad G 80)), (3, .ref (lc_ad G 0))] := hl
        refine lv_goto (tgt := 23) hx hb dL_law_517 (by decide) ?_
        refine W.widen (k := 1000 + (n + 1)) (n := 40000 + 6 * (n + 1)) (by omega) (by omega) ?_
        exact ih (n + 1) (by omega) (by omega) hI' hH (lv_sub hl [3, 4, 5, 6, 0] rfl)
    replace ht := lc_ifn hc3 ht
    by_cases hc4 : xs (3 * n) &&& 7 = 4
    · replace ht := lc_if hc4 ht
      refine lv_tableIn (tgt := 278) hx hb dL_law_39 (by rw [hc4]; decide) (by rw [hc4]; decide) (by rw [hc4] <;> rfl) (by decide) ?_
      obtain ⟨k, v, z1, rb, z2, hf1, hk, hf2, hf3, hf4⟩ := ht
      refine lv_aload_n hx hb dL_law_278 rfl (lv_at hl 1 rfl) ?_
      refine lv_aload_n hx hb dL_law_279 rfl (lv_at hl 0 rfl) ?_
      refine lv_iload hx hb dL_law_280 (lv_at hl 4 rfl) ?_
      refine lv_iconst (v := 1) hx hb dL_law_282 (by decide) ?_
      refine lv_iadd hx hb dL_law_283 ?_
      refine lc_sld hx hb hX hbl hbA hH.2 (3 * n + 1) (by rw [show ((1 : Int32)) = nI 1 from rfl, nI_add]) (by omega) (by omega) dL_law_284 ?_
      refine lv_aload_n hx hb dL_law_285 rfl (lv_at hl 0 rfl) ?_
      refine lv_iload hx hb dL_law_286 (lv_at hl 4 rfl) ?_
      refine lv_iconst (v := 2) hx hb dL_law_288 (by decide) ?_
      refine lv_iadd hx hb dL_law_289 ?_
      refine lc_sld hx hb hX hbl hbA hH.2 (3 * n + 2) (by rw [show ((2 : Int32)) = nI 2 from rfl, nI_add]) (by omega) (by omega) dL_law_290 ?_
      refine lv_aload_n hx hb dL_law_291 rfl (lv_at hl 3 rfl) ?_
      refine lc_callW (As := [.ref (lc_ad G 1), .int (xs (3 * n + 1)), .int (xs (3 * n + 2)), .ref (lc_ad G 0)]) (rest := []) hx hb (hml.trans hl.1.symm) hown hts hE hT hz hH (cL_run l G htr hf1 hk) kwLaw_66 ⟨by decide, by decide⟩ rfl (Nat.le_of_ble_eq_true rfl) hcn hsn dL_law_292 (fun H locs hH => ?_)
      refine lv_istore hx hb dL_law_295 hl (by decide) rfl (fun ls hl => ?_)
      replace hl : lv_has ls 7 [(5, .int (lc_code k)), (0, .ref b), (1, .ref (lc_ad G 1)), (2, .ref (lc_ad G 80)), (3, .ref (lc_ad G 0)), (4, .int (nI (3 * n)))] := hl
      refine lv_aload_n hx hb dL_law_297 rfl (lv_at hl 3 rfl) ?_
      refine lv_aload_n hx hb dL_law_298 rfl (lv_at hl 1 rfl) ?_
      refine lv_iload hx hb dL_law_299 (lv_at hl 5 rfl) ?_
      refine lv_iconst (v := 1) hx hb dL_law_301 (by decide) ?_
      refine lv_iadd hx hb dL_law_302 ?_
      refine lc_sld hx hb hX hbl hbA hH.2 (3 * n + 1) (by rw [show ((1 : Int32)) = nI 1 from rfl, nI_add]) (by omega) (by omega) dL_law_303 ?_
      refine lv_aload_n hx hb dL_law_304 rfl (lv_at hl 1 rfl) ?_
      refine lv_iload hx hb dL_law_305 (lv_at hl 5 rfl) ?_
      refine lv_iconst (v := 2) hx hb dL_law_307 (by decide) ?_
      refine lv_iadd hx hb dL_law_308 ?_
      refine lc_sld hx hb hX hbl hbA hH.2 (3 * n + 2) (by rw [show ((2 : Int32)) = nI 2 from rfl, nI_add]) (by omega) (by omega) dL_law_309 ?_
      refine lc_calli (va_runV (As := [.int (xs (3 * n + 1)), .int (xs (3 * n + 2))]) (rest := []) ⟨hx, hb, hml, hown, hts⟩ (cQ_run l G hf2) (lc_cwV hts kvLaw_69 ⟨by decide, by decide⟩) (lc_preV hE hH lc_h80 rfl _) rfl rfl hl.1 rfl (lv_room (Nat.le_of_ble_eq_true rfl)) dL_law_310 ⟨by omega, by omega⟩) hH (fun H locs hH => ?_)
      refine lv_istore hx hb dL_law_313 hl (by decide) rfl (fun ls hl => ?_)
      replace hl : lv_has ls 7 [(6, .int rb), (5, .int (lc_code k)), (0, .ref b), (1, .ref (lc_ad G 1)), (2, .ref (lc_ad G 80)), (3, .ref (lc_ad G 0)), (4, .int (nI (3 * n)))] := hl
      refine lv_aload_n hx hb dL_law_315 rfl (lv_at hl 4 rfl) ?_
      refine lc_calli (va_runV (As := []) (rest := []) ⟨hx, hb, hml, hown, hts⟩ (cQ_thrown l G hf3) (lc_cwV hts kvLaw_54 ⟨by decide, by decide⟩) (lc_preV hE hH lc_h80 rfl _) rfl rfl hl.1 rfl (lv_room (Nat.le_of_ble_eq_true rfl)) dL_law_316 ⟨by omega, by omega⟩) hH (fun H locs hH => ?_)
      refine lv_iload hx hb dL_law_319 (lv_at hl 1 rfl) ?_
      refine lv_icmp_eq (tgt := 326) hx hb dL_law_321 (by decide) (fun _ => ?_) (fun hc => absurd rfl hc)
      refine lv_iload hx hb dL_law_326 (lv_at hl 1 rfl) ?_
      refine lv_if_ne (tgt := 343) hx hb dL_law_328 (by decide) (fun hc => ?_) (fun hc => ?_)
      · refine lv_goto (tgt := 514) hx hb dL_law_343 (by decide) ?_
        refine lv_iinc (k := 6) (v := nI (3 * (n + 1))) hx hb dL_law_514 hl rfl (by rw [show Int32.ofInt 3 = nI 3 from rfl, nI_add]; rfl) (by decide) rfl (fun ls hl => ?_)
        replace hl : lv_has ls 7 [(4, .int (nI (3 * (n + 1)))), (6, .int rb), (5, .int (lc_code k)), (0, .ref b), (1, .ref (lc_ad G 1)), (2, .ref (lc_ad G 80)), (3, .ref (lc_ad G 0))] := hl
        refine lv_goto (tgt := 23) hx hb dL_law_517 (by decide) ?_
        refine W.widen (k := 1000 + (n + 1)) (n := 40000 + 6 * (n + 1)) (by omega) (by omega) ?_
        exact ih (n + 1) (by omega) (by omega) hI' hH (lv_sub hl [3, 4, 5, 6, 0] rfl)
      · have hk0 : k = 0 := by
          by_cases h0 : k = 0
          · exact h0
          · exfalso
            unfold lc_code at hc
            rw [if_neg h0] at hc
            by_cases h2 : k = 2
            · rw [if_pos h2] at hc; exact absurd hc (by decide)
            · rw [if_neg h2] at hc; exact absurd hc (by decide)
        refine lv_aload_n hx hb dL_law_331 rfl (lv_at hl 5 rfl) ?_
        refine lv_iconst (v := 0) hx hb dL_law_332 (by decide) ?_
        refine lc_lald hx hb hE hH lc_h0 rfl (by decide) dL_law_333 ?_
        refine lv_iload hx hb dL_law_334 (lv_at hl 0 rfl) ?_
        refine lv_i2l hx hb dL_law_336 rfl ?_
        refine W.lcmp hx hb dL_law_337 ?_
        refine lv_if_eq (tgt := 343) hx hb dL_law_338 (by decide) (fun _ => ?_) (fun hc => absurd (lc_cmp0 (hf4 hk0)) hc)
        refine lv_goto (tgt := 514) hx hb dL_law_343 (by decide) ?_
        refine lv_iinc (k := 6) (v := nI (3 * (n + 1))) hx hb dL_law_514 hl rfl (by rw [show Int32.ofInt 3 = nI 3 from rfl, nI_add]; rfl) (by decide) rfl (fun ls hl => ?_)
        replace hl : lv_has ls 7 [(4, .int (nI (3 * (n + 1)))), (6, .int rb), (5, .int (lc_code k)), (0, .ref b), (1, .ref (lc_ad G 1)), (2, .ref (lc_ad G 80)), (3, .ref (lc_ad G 0))] := hl
        refine lv_goto (tgt := 23) hx hb dL_law_517 (by decide) ?_
        refine W.widen (k := 1000 + (n + 1)) (n := 40000 + 6 * (n + 1)) (by omega) (by omega) ?_
        exact ih (n + 1) (by omega) (by omega) hI' hH (lv_sub hl [3, 4, 5, 6, 0] rfl)
    replace ht := lc_ifn hc4 ht
    by_cases hc5 : xs (3 * n) &&& 7 = 5
    · replace ht := lc_if hc5 ht
      refine lv_tableIn (tgt := 346) hx hb dL_law_39 (by rw [hc5]; decide) (by rw [hc5]; decide) (by rw [hc5] <;> rfl) (by decide) ?_
      obtain ⟨k, v, z1, rb, z2, hf1, hk, hf2, hf3, hf4⟩ := ht
      refine lv_aload_n hx hb dL_law_346 rfl (lv_at hl 1 rfl) ?_
      refine lv_aload_n hx hb dL_law_347 rfl (lv_at hl 0 rfl) ?_
      refine lv_iload hx hb dL_law_348 (lv_at hl 4 rfl) ?_
      refine lv_iconst (v := 1) hx hb dL_law_350 (by decide) ?_
      refine lv_iadd hx hb dL_law_351 ?_
      refine lc_sld hx hb hX hbl hbA hH.2 (3 * n + 1) (by rw [show ((1 : Int32)) = nI 1 from rfl, nI_add]) (by omega) (by omega) dL_law_352 ?_
      refine lv_aload_n hx hb dL_law_353 rfl (lv_at hl 3 rfl) ?_
      refine lc_callW (As := [.ref (lc_ad G 1), .int (xs (3 * n + 1)), .ref (lc_ad G 0)]) (rest := []) hx hb (hml.trans hl.1.symm) hown hts hE hT hz hH (cL_value l G htr hf1 hk) kwLaw_70 ⟨by decide, by decide⟩ rfl (Nat.le_of_ble_eq_true rfl) hcn hsn dL_law_354 (fun H locs hH => ?_)
      refine lv_istore hx hb dL_law_357 hl (by decide) rfl (fun ls hl => ?_)
      replace hl : lv_has ls 7 [(5, .int (lc_code k)), (0, .ref b), (1, .ref (lc_ad G 1)), (2, .ref (lc_ad G 80)), (3, .ref (lc_ad G 0)), (4, .int (nI (3 * n)))] := hl
      refine lv_aload_n hx hb dL_law_359 rfl (lv_at hl 3 rfl) ?_
      refine lv_aload_n hx hb dL_law_360 rfl (lv_at hl 1 rfl) ?_
      refine lv_iload hx hb dL_law_361 (lv_at hl 5 rfl) ?_
      refine lv_iconst (v := 1) hx hb dL_law_363 (by decide) ?_
      refine lv_iadd hx hb dL_law_364 ?_
      refine lc_sld hx hb hX hbl hbA hH.2 (3 * n + 1) (by rw [show ((1 : Int32)) = nI 1 from rfl, nI_add]) (by omega) (by omega) dL_law_365 ?_
      refine lc_calli (va_runV (As := [.int (xs (3 * n + 1))]) (rest := []) ⟨hx, hb, hml, hown, hts⟩ (cQ_value l G hf2) (lc_cwV hts kvLaw_72 ⟨by decide, by decide⟩) (lc_preV hE hH lc_h80 rfl _) rfl rfl hl.1 rfl (lv_room (Nat.le_of_ble_eq_true rfl)) dL_law_366 ⟨by omega, by omega⟩) hH (fun H locs hH => ?_)
      refine lv_istore hx hb dL_law_369 hl (by decide) rfl (fun ls hl => ?_)
      replace hl : lv_has ls 7 [(6, .int rb), (5, .int (lc_code k)), (0, .ref b), (1, .ref (lc_ad G 1)), (2, .ref (lc_ad G 80)), (3, .ref (lc_ad G 0)), (4, .int (nI (3 * n)))] := hl
      refine lv_aload_n hx hb dL_law_371 rfl (lv_at hl 4 rfl) ?_
      refine lc_calli (va_runV (As := []) (rest := []) ⟨hx, hb, hml, hown, hts⟩ (cQ_thrown l G hf3) (lc_cwV hts kvLaw_54 ⟨by decide, by decide⟩) (lc_preV hE hH lc_h80 rfl _) rfl rfl hl.1 rfl (lv_room (Nat.le_of_ble_eq_true rfl)) dL_law_372 ⟨by omega, by omega⟩) hH (fun H locs hH => ?_)
      refine lv_iload hx hb dL_law_375 (lv_at hl 1 rfl) ?_
      refine lv_icmp_eq (tgt := 382) hx hb dL_law_377 (by decide) (fun _ => ?_) (fun hc => absurd rfl hc)
      refine lv_iload hx hb dL_law_382 (lv_at hl 1 rfl) ?_
      refine lv_if_ne (tgt := 399) hx hb dL_law_384 (by decide) (fun hc => ?_) (fun hc => ?_)
      · refine lv_goto (tgt := 514) hx hb dL_law_399 (by decide) ?_
        refine lv_iinc (k := 6) (v := nI (3 * (n + 1))) hx hb dL_law_514 hl rfl (by rw [show Int32.ofInt 3 = nI 3 from rfl, nI_add]; rfl) (by decide) rfl (fun ls hl => ?_)
        replace hl : lv_has ls 7 [(4, .int (nI (3 * (n + 1)))), (6, .int rb), (5, .int (lc_code k)), (0, .ref b), (1, .ref (lc_ad G 1)), (2, .ref (lc_ad G 80)), (3, .ref (lc_ad G 0))] := hl
        refine lv_goto (tgt := 23) hx hb dL_law_517 (by decide) ?_
        refine W.widen (k := 1000 + (n + 1)) (n := 40000 + 6 * (n + 1)) (by omega) (by omega) ?_
        exact ih (n + 1) (by omega) (by omega) hI' hH (lv_sub hl [3, 4, 5, 6, 0] rfl)
      · have hk0 : k = 0 := by
          by_cases h0 : k = 0
          · exact h0
          · exfalso
            unfold lc_code at hc
            rw [if_neg h0] at hc
            by_cases h2 : k = 2
            · rw [if_pos h2] at hc; exact absurd hc (by decide)
            · rw [if_neg h2] at hc; exact absurd hc (by decide)
        refine lv_aload_n hx hb dL_law_387 rfl (lv_at hl 5 rfl) ?_
        refine lv_iconst (v := 0) hx hb dL_law_388 (by decide) ?_
        refine lc_lald hx hb hE hH lc_h0 rfl (by decide) dL_law_389 ?_
        refine lv_iload hx hb dL_law_390 (lv_at hl 0 rfl) ?_
        refine lv_i2l hx hb dL_law_392 rfl ?_
        refine W.lcmp hx hb dL_law_393 ?_
        refine lv_if_eq (tgt := 399) hx hb dL_law_394 (by decide) (fun _ => ?_) (fun hc => absurd (lc_cmp0 (hf4 hk0)) hc)
        refine lv_goto (tgt := 514) hx hb dL_law_399 (by decide) ?_
        refine lv_iinc (k := 6) (v := nI (3 * (n + 1))) hx hb dL_law_514 hl rfl (by rw [show Int32.ofInt 3 = nI 3 from rfl, nI_add]; rfl) (by decide) rfl (fun ls hl => ?_)
        replace hl : lv_has ls 7 [(4, .int (nI (3 * (n + 1)))), (6, .int rb), (5, .int (lc_code k)), (0, .ref b), (1, .ref (lc_ad G 1)), (2, .ref (lc_ad G 80)), (3, .ref (lc_ad G 0))] := hl
        refine lv_goto (tgt := 23) hx hb dL_law_517 (by decide) ?_
        refine W.widen (k := 1000 + (n + 1)) (n := 40000 + 6 * (n + 1)) (by omega) (by omega) ?_
        exact ih (n + 1) (by omega) (by omega) hI' hH (lv_sub hl [3, 4, 5, 6, 0] rfl)
    replace ht := lc_ifn hc5 ht
    by_cases hc6 : xs (3 * n) &&& 7 = 6
    · replace ht := lc_if hc6 ht
      refine lv_tableIn (tgt := 402) hx hb dL_law_39 (by rw [hc6]; decide) (by rw [hc6]; decide) (by rw [hc6] <;> rfl) (by decide) ?_
      obtain ⟨k, v, z1, rb, z2, hf1, hk, hf2, hf3, hf4⟩ := ht
      refine lv_aload_n hx hb dL_law_402 rfl (lv_at hl 1 rfl) ?_
      refine lv_aload_n hx hb dL_law_403 rfl (lv_at hl 0 rfl) ?_
      refine lv_iload hx hb dL_law_404 (lv_at hl 4 rfl) ?_
      refine lv_iconst (v := 1) hx hb dL_law_406 (by decide) ?_
      refine lv_iadd hx hb dL_law_407 ?_
      refine lc_sld hx hb hX hbl hbA hH.2 (3 * n + 1) (by rw [show ((1 : Int32)) = nI 1 from rfl, nI_add]) (by omega) (by omega) dL_law_408 ?_
      refine lv_aload_n hx hb dL_law_409 rfl (lv_at hl 3 rfl) ?_
      refine lc_callW (As := [.ref (lc_ad G 1), .int (xs (3 * n + 1)), .ref (lc_ad G 0)]) (rest := []) hx hb (hml.trans hl.1.symm) hown hts hE hT hz hH (cL_heap l G htr hf1 hk) kwLaw_73 ⟨by decide, by decide⟩ rfl (Nat.le_of_ble_eq_true rfl) hcn hsn dL_law_410 (fun H locs hH => ?_)
      refine lv_istore hx hb dL_law_413 hl (by decide) rfl (fun ls hl => ?_)
      replace hl : lv_has ls 7 [(5, .int (lc_code k)), (0, .ref b), (1, .ref (lc_ad G 1)), (2, .ref (lc_ad G 80)), (3, .ref (lc_ad G 0)), (4, .int (nI (3 * n)))] := hl
      refine lv_aload_n hx hb dL_law_415 rfl (lv_at hl 3 rfl) ?_
      refine lv_aload_n hx hb dL_law_416 rfl (lv_at hl 1 rfl) ?_
      refine lv_iload hx hb dL_law_417 (lv_at hl 5 rfl) ?_
      refine lv_iconst (v := 1) hx hb dL_law_419 (by decide) ?_
      refine lv_iadd hx hb dL_law_420 ?_
      refine lc_sld hx hb hX hbl hbA hH.2 (3 * n + 1) (by rw [show ((1 : Int32)) = nI 1 from rfl, nI_add]) (by omega) (by omega) dL_law_421 ?_
      refine lc_calli (va_runV (As := [.int (xs (3 * n + 1))]) (rest := []) ⟨hx, hb, hml, hown, hts⟩ (cQ_heap l G hf2) (lc_cwV hts kvLaw_75 ⟨by decide, by decide⟩) (lc_preV hE hH lc_h80 rfl _) rfl rfl hl.1 rfl (lv_room (Nat.le_of_ble_eq_true rfl)) dL_law_422 ⟨by omega, by omega⟩) hH (fun H locs hH => ?_)
      refine lv_istore hx hb dL_law_425 hl (by decide) rfl (fun ls hl => ?_)
      replace hl : lv_has ls 7 [(6, .int rb), (5, .int (lc_code k)), (0, .ref b), (1, .ref (lc_ad G 1)), (2, .ref (lc_ad G 80)), (3, .ref (lc_ad G 0)), (4, .int (nI (3 * n)))] := hl
      refine lv_aload_n hx hb dL_law_427 rfl (lv_at hl 4 rfl) ?_
      refine lc_calli (va_runV (As := []) (rest := []) ⟨hx, hb, hml, hown, hts⟩ (cQ_thrown l G hf3) (lc_cwV hts kvLaw_54 ⟨by decide, by decide⟩) (lc_preV hE hH lc_h80 rfl _) rfl rfl hl.1 rfl (lv_room (Nat.le_of_ble_eq_true rfl)) dL_law_428 ⟨by omega, by omega⟩) hH (fun H locs hH => ?_)
      refine lv_iload hx hb dL_law_431 (lv_at hl 1 rfl) ?_
      refine lv_icmp_eq (tgt := 438) hx hb dL_law_433 (by decide) (fun _ => ?_) (fun hc => absurd rfl hc)
      refine lv_iload hx hb dL_law_438 (lv_at hl 1 rfl) ?_
      refine lv_if_ne (tgt := 455) hx hb dL_law_440 (by decide) (fun hc => ?_) (fun hc => ?_)
      · refine lv_goto (tgt := 514) hx hb dL_law_455 (by decide) ?_
        refine lv_iinc (k := 6) (v := nI (3 * (n + 1))) hx hb dL_law_514 hl rfl (by rw [show Int32.ofInt 3 = nI 3 from rfl, nI_add]; rfl) (by decide) rfl (fun ls hl => ?_)
        replace hl : lv_has ls 7 [(4, .int (nI (3 * (n + 1)))), (6, .int rb), (5, .int (lc_code k)), (0, .ref b), (1, .ref (lc_ad G 1)), (2, .ref (lc_ad G 80)), (3, .ref (lc_ad G 0))] := hl
        refine lv_goto (tgt := 23) hx hb dL_law_517 (by decide) ?_
        refine W.widen (k := 1000 + (n + 1)) (n := 40000 + 6 * (n + 1)) (by omega) (by omega) ?_
        exact ih (n + 1) (by omega) (by omega) hI' hH (lv_sub hl [3, 4, 5, 6, 0] rfl)
      · have hk0 : k = 0 := by
          by_cases h0 : k = 0
          · exact h0
          · exfalso
            unfold lc_code at hc
            rw [if_neg h0] at hc
            by_cases h2 : k = 2
            · rw [if_pos h2] at hc; exact absurd hc (by decide)
            · rw [if_neg h2] at hc; exact absurd hc (by decide)
        refine lv_aload_n hx hb dL_law_443 rfl (lv_at hl 5 rfl) ?_
        refine lv_iconst (v := 0) hx hb dL_law_444 (by decide) ?_
        refine lc_lald hx hb hE hH lc_h0 rfl (by decide) dL_law_445 ?_
        refine lv_iload hx hb dL_law_446 (lv_at hl 0 rfl) ?_
        refine lv_i2l hx hb dL_law_448 rfl ?_
        refine W.lcmp hx hb dL_law_449 ?_
        refine lv_if_eq (tgt := 455) hx hb dL_law_450 (by decide) (fun _ => ?_) (fun hc => absurd (lc_cmp0 (hf4 hk0)) hc)
        refine lv_goto (tgt := 514) hx hb dL_law_455 (by decide) ?_
        refine lv_iinc (k := 6) (v := nI (3 * (n + 1))) hx hb dL_law_514 hl rfl (by rw [show Int32.ofInt 3 = nI 3 from rfl, nI_add]; rfl) (by decide) rfl (fun ls hl => ?_)
        replace hl : lv_has ls 7 [(4, .int (nI (3 * (n + 1)))), (6, .int rb), (5, .int (lc_code k)), (0, .ref b), (1, .ref (lc_ad G 1)), (2, .ref (lc_ad G 80)), (3, .ref (lc_ad G 0))] := hl
        refine lv_goto (tgt := 23) hx hb dL_law_517 (by decide) ?_
        refine W.widen (k := 1000 + (n + 1)) (n := 40000 + 6 * (n + 1)) (by omega) (by omega) ?_
        exact ih (n + 1) (by omega) (by omega) hI' hH (lv_sub hl [3, 4, 5, 6, 0] rfl)
    replace ht := lc_ifn hc6 ht
    by_cases hc7 : xs (3 * n) &&& 7 = 7
    · replace ht := lc_if hc7 ht
      refine lv_tableIn (tgt := 458) hx hb dL_law_39 (by rw [hc7]; decide) (by rw [hc7]; decide) (by rw [hc7] <;> rfl) (by decide) ?_
      obtain ⟨k, v, z1, rb, z2, hf1, hk, hf2, hf3, hf4⟩ := ht
      refine lv_aload_n hx hb dL_law_458 rfl (lv_at hl 1 rfl) ?_
      refine lv_aload_n hx hb dL_law_459 rfl (lv_at hl 0 rfl) ?_
      refine lv_iload hx hb dL_law_460 (lv_at hl 4 rfl) ?_
      refine lv_iconst (v := 1) hx hb dL_law_462 (by decide) ?_
      refine lv_iadd hx hb dL_law_463 ?_
      refine lc_sld hx hb hX hbl hbA hH.2 (3 * n + 1) (by rw [show ((1 : Int32)) = nI 1 from rfl, nI_add]) (by omega) (by omega) dL_law_464 ?_
      refine lv_aload_n hx hb dL_law_465 rfl (lv_at hl 3 rfl) ?_
      refine lc_callW (As := [.ref (lc_ad G 1), .int (xs (3 * n + 1)), .ref (lc_ad G 0)]) (rest := []) hx hb (hml.trans hl.1.symm) hown hts hE hT hz hH (cL_cell l G htr hf1 hk) kwLaw_76 ⟨by decide, by decide⟩ rfl (Nat.le_of_ble_eq_true rfl) hcn hsn dL_law_466 (fun H locs hH => ?_)
      refine lv_istore hx hb dL_law_469 hl (by decide) rfl (fun ls hl => ?_)
      replace hl : lv_has ls 7 [(5, .int (lc_code k)), (0, .ref b), (1, .ref (lc_ad G 1)), (2, .ref (lc_ad G 80)), (3, .ref (lc_ad G 0)), (4, .int (nI (3 * n)))] := hl
      refine lv_aload_n hx hb dL_law_471 rfl (lv_at hl 3 rfl) ?_
      refine lv_aload_n hx hb dL_law_472 rfl (lv_at hl 1 rfl) ?_
      refine lv_iload hx hb dL_law_473 (lv_at hl 5 rfl) ?_
      refine lv_iconst (v := 1) hx hb dL_law_475 (by decide) ?_
      refine lv_iadd hx hb dL_law_476 ?_
      refine lc_sld hx hb hX hbl hbA hH.2 (3 * n + 1) (by rw [show ((1 : Int32)) = nI 1 from rfl, nI_add]) (by omega) (by omega) dL_law_477 ?_
      refine lc_calli (va_runV (As := [.int (xs (3 * n + 1))]) (rest := []) ⟨hx, hb, hml, hown, hts⟩ (cQ_cell l G hf2) (lc_cwV hts kvLaw_78 ⟨by decide, by decide⟩) (lc_preV hE hH lc_h80 rfl _) rfl rfl hl.1 rfl (lv_room (Nat.le_of_ble_eq_true rfl)) dL_law_478 ⟨by omega, by omega⟩) hH (fun H locs hH => ?_)
      refine lv_istore hx hb dL_law_481 hl (by decide) rfl (fun ls hl => ?_)
      replace hl : lv_has ls 7 [(6, .int rb), (5, .int (lc_code k)), (0, .ref b), (1, .ref (lc_ad G 1)), (2, .ref (lc_ad G 80)), (3, .ref (lc_ad G 0)), (4, .int (nI (3 * n)))] := hl
      refine lv_aload_n hx hb dL_law_483 rfl (lv_at hl 4 rfl) ?_
      refine lc_calli (va_runV (As := []) (rest := []) ⟨hx, hb, hml, hown, hts⟩ (cQ_thrown l G hf3) (lc_cwV hts kvLaw_54 ⟨by decide, by decide⟩) (lc_preV hE hH lc_h80 rfl _) rfl rfl hl.1 rfl (lv_room (Nat.le_of_ble_eq_true rfl)) dL_law_484 ⟨by omega, by omega⟩) hH (fun H locs hH => ?_)
      refine lv_iload hx hb dL_law_487 (lv_at hl 1 rfl) ?_
      refine lv_icmp_eq (tgt := 494) hx hb dL_law_489 (by decide) (fun _ => ?_) (fun hc => absurd rfl hc)
      refine lv_iload hx hb dL_law_494 (lv_at hl 1 rfl) ?_
      refine lv_if_ne (tgt := 511) hx hb dL_law_496 (by decide) (fun hc => ?_) (fun hc => ?_)
      · refine lv_goto (tgt := 514) hx hb dL_law_511 (by decide) ?_
        refine lv_iinc (k := 6) (v := nI (3 * (n + 1))) hx hb dL_law_514 hl rfl (by rw [show Int32.ofInt 3 = nI 3 from rfl, nI_add]; rfl) (by decide) rfl (fun ls hl => ?_)
        replace hl : lv_has ls 7 [(4, .int (nI (3 * (n + 1)))), (6, .int rb), (5, .int (lc_code k)), (0, .ref b), (1, .ref (lc_ad G 1)), (2, .ref (lc_ad G 80)), (3, .ref (lc_ad G 0))] := hl
        refine lv_goto (tgt := 23) hx hb dL_law_517 (by decide) ?_
        refine W.widen (k := 1000 + (n + 1)) (n := 40000 + 6 * (n + 1)) (by omega) (by omega) ?_
        exact ih (n + 1) (by omega) (by omega) hI' hH (lv_sub hl [3, 4, 5, 6, 0] rfl)
      · have hk0 : k = 0 := by
          by_cases h0 : k = 0
          · exact h0
          · exfalso
            unfold lc_code at hc
            rw [if_neg h0] at hc
            by_cases h2 : k = 2
            · rw [if_pos h2] at hc; exact absurd hc (by decide)
            · rw [if_neg h2] at hc; exact absurd hc (by decide)
        refine lv_aload_n hx hb dL_law_499 rfl (lv_at hl 5 rfl) ?_
        refine lv_iconst (v := 0) hx hb dL_law_500 (by decide) ?_
        refine lc_lald hx hb hE hH lc_h0 rfl (by decide) dL_law_501 ?_
        refine lv_iload hx hb dL_law_502 (lv_at hl 0 rfl) ?_
        refine lv_i2l hx hb dL_law_504 rfl ?_
        refine W.lcmp hx hb dL_law_505 ?_
        refine lv_if_eq (tgt := 511) hx hb dL_law_506 (by decide) (fun _ => ?_) (fun hc => absurd (lc_cmp0 (hf4 hk0)) hc)
        refine lv_goto (tgt := 514) hx hb dL_law_511 (by decide) ?_
        refine lv_iinc (k := 6) (v := nI (3 * (n + 1))) hx hb dL_law_514 hl rfl (by rw [show Int32.ofInt 3 = nI 3 from rfl, nI_add]; rfl) (by decide) rfl (fun ls hl => ?_)
        replace hl : lv_has ls 7 [(4, .int (nI (3 * (n + 1)))), (6, .int rb), (5, .int (lc_code k)), (0, .ref b), (1, .ref (lc_ad G 1)), (2, .ref (lc_ad G 80)), (3, .ref (lc_ad G 0))] := hl
        refine lv_goto (tgt := 23) hx hb dL_law_517 (by decide) ?_
        refine W.widen (k := 1000 + (n + 1)) (n := 40000 + 6 * (n + 1)) (by omega) (by omega) ?_
        exact ih (n + 1) (by omega) (by omega) hI' hH (lv_sub hl [3, 4, 5, 6, 0] rfl)
    replace ht := lc_ifn hc7 ht
    have nhc0 := lv_neT (a := 0) hc0 (by decide)
    have nhc1 := lv_neT (a := 1) hc1 (by decide)
    have nhc2 := lv_neT (a := 2) hc2 (by decide)
    have nhc3 := lv_neT (a := 3) hc3 (by decide)
    have nhc4 := lv_neT (a := 4) hc4 (by decide)
    have nhc5 := lv_neT (a := 5) hc5 (by decide)
    have nhc6 := lv_neT (a := 6) hc6 (by decide)
    have nhc7 := lv_neT (a := 7) hc7 (by decide)
    refine lv_tableOut (tgt := 514) hx hb dL_law_39 (by omega) (by decide) ?_
    have ht : z' = z := ht
    subst ht
    refine lv_iinc (k := 4) (v := nI (3 * (n + 1))) hx hb dL_law_514 hl rfl (by rw [show Int32.ofInt 3 = nI 3 from rfl, nI_add]; rfl) (by decide) rfl (fun ls hl => ?_)
    replace hl : lv_has ls 7 [(4, .int (nI (3 * (n + 1)))), (0, .ref b), (1, .ref (lc_ad G 1)), (2, .ref (lc_ad G 80)), (3, .ref (lc_ad G 0))] := hl
    refine lv_goto (tgt := 23) hx hb dL_law_517 (by decide) ?_
    refine W.widen (k := 1000 + (n + 1)) (n := 40000 + 6 * (n + 1)) (by omega) (by omega) ?_
    exact ih (n + 1) (by omega) (by omega) hI' hH (lv_sub hl [1, 2, 3, 4, 0] rfl)
