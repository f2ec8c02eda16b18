theorem dQ_typeBy_0 : decode prog_10_method_28_code 0 = .ok (.bipush 120, 2) := by decide +kernel
theorem dQ_typeBy_2 : decode prog_10_method_28_code 2 = .ok (.iload_n 1, 1) := by decide +kernel
theorem dQ_typeBy_3 : decode prog_10_method_28_code 3 = .ok (.iconst 1, 1) := by decide +kernel
theorem dQ_typeBy_4 : decode prog_10_method_28_code 4 = .ok (.iadd, 1) := by decide +kernel
theorem dQ_typeBy_5 : decode prog_10_method_28_code 5 = .ok (.imul, 1) := by decide +kernel
theorem dQ_typeBy_6 : decode prog_10_method_28_code 6 = .ok (.iload_n 2, 1) := by decide +kernel
theorem dQ_typeBy_7 : decode prog_10_method_28_code 7 = .ok (.iadd, 1) := by decide +kernel
theorem dQ_typeBy_8 : decode prog_10_method_28_code 8 = .ok (.istore_n 3, 1) := by decide +kernel
theorem dQ_typeBy_9 : decode prog_10_method_28_code 9 = .ok (.aload_n 0, 1) := by decide +kernel
theorem dQ_typeBy_10 : decode prog_10_method_28_code 10 = .ok (.getfield 13, 3) := by decide +kernel
theorem dQ_typeBy_13 : decode prog_10_method_28_code 13 = .ok (.iload_n 3, 1) := by decide +kernel
theorem dQ_typeBy_14 : decode prog_10_method_28_code 14 = .ok (.iaload, 1) := by decide +kernel
theorem dQ_typeBy_15 : decode prog_10_method_28_code 15 = .ok (.istore 4, 2) := by decide +kernel
theorem dQ_typeBy_17 : decode prog_10_method_28_code 17 = .ok (.iload 4, 2) := by decide +kernel
theorem dQ_typeBy_19 : decode prog_10_method_28_code 19 = .ok (.bipush 48, 2) := by decide +kernel
theorem dQ_typeBy_21 : decode prog_10_method_28_code 21 = .ok (.if_icmp .ne 5, 3) := by decide +kernel
theorem dQ_typeBy_24 : decode prog_10_method_28_code 24 = .ok (.iconst 0, 1) := by decide +kernel
theorem dQ_typeBy_25 : decode prog_10_method_28_code 25 = .ok (.ireturn, 1) := by decide +kernel
theorem dQ_typeBy_26 : decode prog_10_method_28_code 26 = .ok (.iload 4, 2) := by decide +kernel
theorem dQ_typeBy_28 : decode prog_10_method_28_code 28 = .ok (.bipush 120, 2) := by decide +kernel
theorem dQ_typeBy_30 : decode prog_10_method_28_code 30 = .ok (.if_icmp .ne 21, 3) := by decide +kernel
theorem dQ_typeBy_33 : decode prog_10_method_28_code 33 = .ok (.aload_n 0, 1) := by decide +kernel
theorem dQ_typeBy_34 : decode prog_10_method_28_code 34 = .ok (.iload_n 1, 1) := by decide +kernel
theorem dQ_typeBy_35 : decode prog_10_method_28_code 35 = .ok (.aload_n 0, 1) := by decide +kernel
theorem dQ_typeBy_36 : decode prog_10_method_28_code 36 = .ok (.getfield 28, 3) := by decide +kernel
theorem dQ_typeBy_39 : decode prog_10_method_28_code 39 = .ok (.iload_n 3, 1) := by decide +kernel
theorem dQ_typeBy_40 : decode prog_10_method_28_code 40 = .ok (.iaload, 1) := by decide +kernel
theorem dQ_typeBy_41 : decode prog_10_method_28_code 41 = .ok (.aload_n 0, 1) := by decide +kernel
theorem dQ_typeBy_42 : decode prog_10_method_28_code 42 = .ok (.getfield 31, 3) := by decide +kernel
theorem dQ_typeBy_45 : decode prog_10_method_28_code 45 = .ok (.iload_n 3, 1) := by decide +kernel
theorem dQ_typeBy_46 : decode prog_10_method_28_code 46 = .ok (.baload, 1) := by decide +kernel
theorem dQ_typeBy_47 : decode prog_10_method_28_code 47 = .ok (.invokevirtual 240, 3) := by decide +kernel
theorem dQ_typeBy_50 : decode prog_10_method_28_code 50 = .ok (.ireturn, 1) := by decide +kernel
theorem dQ_typeBy_51 : decode prog_10_method_28_code 51 = .ok (.iload 4, 2) := by decide +kernel
theorem dQ_typeBy_53 : decode prog_10_method_28_code 53 = .ok (.invokestatic 214, 3) := by decide +kernel
theorem dQ_typeBy_56 : decode prog_10_method_28_code 56 = .ok (.istore 5, 2) := by decide +kernel
theorem dQ_typeBy_58 : decode prog_10_method_28_code 58 = .ok (.aload_n 0, 1) := by decide +kernel
theorem dQ_typeBy_59 : decode prog_10_method_28_code 59 = .ok (.getfield 68, 3) := by decide +kernel
theorem dQ_typeBy_62 : decode prog_10_method_28_code 62 = .ok (.aload_n 0, 1) := by decide +kernel
theorem dQ_typeBy_63 : decode prog_10_method_28_code 63 = .ok (.getfield 19, 3) := by decide +kernel
theorem dQ_typeBy_66 : decode prog_10_method_28_code 66 = .ok (.iload_n 3, 1) := by decide +kernel
theorem dQ_typeBy_67 : decode prog_10_method_28_code 67 = .ok (.iaload, 1) := by decide +kernel
theorem dQ_typeBy_68 : decode prog_10_method_28_code 68 = .ok (.iaload, 1) := by decide +kernel
theorem dQ_typeBy_69 : decode prog_10_method_28_code 69 = .ok (.istore 6, 2) := by decide +kernel
theorem dQ_typeBy_71 : decode prog_10_method_28_code 71 = .ok (.iload 5, 2) := by decide +kernel
theorem dQ_typeBy_73 : decode prog_10_method_28_code 73 = .ok (.iconst 1, 1) := by decide +kernel
theorem dQ_typeBy_74 : decode prog_10_method_28_code 74 = .ok (.if_icmp .le 17, 3) := by decide +kernel
theorem dQ_typeBy_77 : decode prog_10_method_28_code 77 = .ok (.aload_n 0, 1) := by decide +kernel
theorem dQ_typeBy_78 : decode prog_10_method_28_code 78 = .ok (.getfield 68, 3) := by decide +kernel
theorem dQ_typeBy_81 : decode prog_10_method_28_code 81 = .ok (.aload_n 0, 1) := by decide +kernel
theorem dQ_typeBy_82 : decode prog_10_method_28_code 82 = .ok (.getfield 22, 3) := by decide +kernel
theorem dQ_typeBy_85 : decode prog_10_method_28_code 85 = .ok (.iload_n 3, 1) := by decide +kernel
theorem dQ_typeBy_86 : decode prog_10_method_28_code 86 = .ok (.iaload, 1) := by decide +kernel
theorem dQ_typeBy_87 : decode prog_10_method_28_code 87 = .ok (.iaload, 1) := by decide +kernel
theorem dQ_typeBy_88 : decode prog_10_method_28_code 88 = .ok (.goto 4, 3) := by decide +kernel
theorem dQ_typeBy_91 : decode prog_10_method_28_code 91 = .ok (.iconst 0, 1) := by decide +kernel
theorem dQ_typeBy_92 : decode prog_10_method_28_code 92 = .ok (.istore 7, 2) := by decide +kernel
theorem dQ_typeBy_94 : decode prog_10_method_28_code 94 = .ok (.iload 5, 2) := by decide +kernel
theorem dQ_typeBy_96 : decode prog_10_method_28_code 96 = .ok (.iconst 2, 1) := by decide +kernel
theorem dQ_typeBy_97 : decode prog_10_method_28_code 97 = .ok (.if_icmp .le 17, 3) := by decide +kernel
theorem dQ_typeBy_100 : decode prog_10_method_28_code 100 = .ok (.aload_n 0, 1) := by decide +kernel
theorem dQ_typeBy_101 : decode prog_10_method_28_code 101 = .ok (.getfield 68, 3) := by decide +kernel
theorem dQ_typeBy_104 : decode prog_10_method_28_code 104 = .ok (.aload_n 0, 1) := by decide +kernel
theorem dQ_typeBy_105 : decode prog_10_method_28_code 105 = .ok (.getfield 25, 3) := by decide +kernel
theorem dQ_typeBy_108 : decode prog_10_method_28_code 108 = .ok (.iload_n 3, 1) := by decide +kernel
theorem dQ_typeBy_109 : decode prog_10_method_28_code 109 = .ok (.iaload, 1) := by decide +kernel
theorem dQ_typeBy_110 : decode prog_10_method_28_code 110 = .ok (.iaload, 1) := by decide +kernel
theorem dQ_typeBy_111 : decode prog_10_method_28_code 111 = .ok (.goto 4, 3) := by decide +kernel
theorem dQ_typeBy_114 : decode prog_10_method_28_code 114 = .ok (.iconst 0, 1) := by decide +kernel
theorem dQ_typeBy_115 : decode prog_10_method_28_code 115 = .ok (.istore 8, 2) := by decide +kernel
theorem dQ_typeBy_117 : decode prog_10_method_28_code 117 = .ok (.iload 6, 2) := by decide +kernel
theorem dQ_typeBy_119 : decode prog_10_method_28_code 119 = .ok (.iconst (-1), 1) := by decide +kernel
theorem dQ_typeBy_120 : decode prog_10_method_28_code 120 = .ok (.if_icmp .eq 15, 3) := by decide +kernel
theorem dQ_typeBy_123 : decode prog_10_method_28_code 123 = .ok (.iload 7, 2) := by decide +kernel
theorem dQ_typeBy_125 : decode prog_10_method_28_code 125 = .ok (.iconst (-1), 1) := by decide +kernel
theorem dQ_typeBy_126 : decode prog_10_method_28_code 126 = .ok (.if_icmp .eq 9, 3) := by decide +kernel
theorem dQ_typeBy_129 : decode prog_10_method_28_code 129 = .ok (.iload 8, 2) := by decide +kernel
theorem dQ_typeBy_131 : decode prog_10_method_28_code 131 = .ok (.iconst (-1), 1) := by decide +kernel
theorem dQ_typeBy_132 : decode prog_10_method_28_code 132 = .ok (.if_icmp .ne 5, 3) := by decide +kernel
theorem dQ_typeBy_135 : decode prog_10_method_28_code 135 = .ok (.iconst (-1), 1) := by decide +kernel
theorem dQ_typeBy_136 : decode prog_10_method_28_code 136 = .ok (.ireturn, 1) := by decide +kernel
theorem dQ_typeBy_137 : decode prog_10_method_28_code 137 = .ok (.iload 6, 2) := by decide +kernel
theorem dQ_typeBy_139 : decode prog_10_method_28_code 139 = .ok (.ifCond .lt 13, 3) := by decide +kernel
theorem dQ_typeBy_142 : decode prog_10_method_28_code 142 = .ok (.iload 7, 2) := by decide +kernel
theorem dQ_typeBy_144 : decode prog_10_method_28_code 144 = .ok (.ifCond .lt 8, 3) := by decide +kernel
theorem dQ_typeBy_147 : decode prog_10_method_28_code 147 = .ok (.iload 8, 2) := by decide +kernel
theorem dQ_typeBy_149 : decode prog_10_method_28_code 149 = .ok (.ifCond .ge 6, 3) := by decide +kernel
theorem dQ_typeBy_152 : decode prog_10_method_28_code 152 = .ok (.bipush (-2), 2) := by decide +kernel
theorem dQ_typeBy_154 : decode prog_10_method_28_code 154 = .ok (.ireturn, 1) := by decide +kernel
theorem dQ_typeBy_155 : decode prog_10_method_28_code 155 = .ok (.iload 4, 2) := by decide +kernel
theorem dQ_typeBy_157 : decode prog_10_method_28_code 157 = .ok (.lookupswitch 224 #[(42, 107), (43, 107), (44, 158), (45, 107), (47, 145), (58, 142), (60, 107), (63, 123), (100, 212), (103, 178), (110, 167), (112, 195)], 107) := by decide +kernel
theorem dQ_typeBy_264 : decode prog_10_method_28_code 264 = .ok (.iload 6, 2) := by decide +kernel
theorem dQ_typeBy_266 : decode prog_10_method_28_code 266 = .ok (.ifCond .ne 12, 3) := by decide +kernel
theorem dQ_typeBy_269 : decode prog_10_method_28_code 269 = .ok (.iload 7, 2) := by decide +kernel
theorem dQ_typeBy_271 : decode prog_10_method_28_code 271 = .ok (.ifCond .ne 7, 3) := by decide +kernel
theorem dQ_typeBy_274 : decode prog_10_method_28_code 274 = .ok (.iconst 0, 1) := by decide +kernel
theorem dQ_typeBy_275 : decode prog_10_method_28_code 275 = .ok (.goto 4, 3) := by decide +kernel
theorem dQ_typeBy_278 : decode prog_10_method_28_code 278 = .ok (.iconst (-1), 1) := by decide +kernel
theorem dQ_typeBy_279 : decode prog_10_method_28_code 279 = .ok (.ireturn, 1) := by decide +kernel
theorem dQ_typeBy_280 : decode prog_10_method_28_code 280 = .ok (.iload 6, 2) := by decide +kernel
theorem dQ_typeBy_282 : decode prog_10_method_28_code 282 = .ok (.ifCond .ne 15, 3) := by decide +kernel
theorem dQ_typeBy_285 : decode prog_10_method_28_code 285 = .ok (.iload 7, 2) := by decide +kernel
theorem dQ_typeBy_287 : decode prog_10_method_28_code 287 = .ok (.iload 8, 2) := by decide +kernel
theorem dQ_typeBy_289 : decode prog_10_method_28_code 289 = .ok (.if_icmp .ne 8, 3) := by decide +kernel
theorem dQ_typeBy_292 : decode prog_10_method_28_code 292 = .ok (.iload 7, 2) := by decide +kernel
theorem dQ_typeBy_294 : decode prog_10_method_28_code 294 = .ok (.goto 4, 3) := by decide +kernel
theorem dQ_typeBy_297 : decode prog_10_method_28_code 297 = .ok (.iconst (-1), 1) := by decide +kernel
theorem dQ_typeBy_298 : decode prog_10_method_28_code 298 = .ok (.ireturn, 1) := by decide +kernel
theorem dQ_typeBy_299 : decode prog_10_method_28_code 299 = .ok (.iload 7, 2) := by decide +kernel
theorem dQ_typeBy_301 : decode prog_10_method_28_code 301 = .ok (.ireturn, 1) := by decide +kernel
theorem dQ_typeBy_302 : decode prog_10_method_28_code 302 = .ok (.iload 6, 2) := by decide +kernel
theorem dQ_typeBy_304 : decode prog_10_method_28_code 304 = .ok (.iconst 1, 1) := by decide +kernel
theorem dQ_typeBy_305 : decode prog_10_method_28_code 305 = .ok (.if_icmp .le 8, 3) := by decide +kernel
theorem dQ_typeBy_308 : decode prog_10_method_28_code 308 = .ok (.iload 7, 2) := by decide +kernel
theorem dQ_typeBy_310 : decode prog_10_method_28_code 310 = .ok (.goto 4, 3) := by decide +kernel
theorem dQ_typeBy_313 : decode prog_10_method_28_code 313 = .ok (.iconst (-1), 1) := by decide +kernel
theorem dQ_typeBy_314 : decode prog_10_method_28_code 314 = .ok (.ireturn, 1) := by decide +kernel
theorem dQ_typeBy_315 : decode prog_10_method_28_code 315 = .ok (.aload_n 0, 1) := by decide +kernel
theorem dQ_typeBy_316 : decode prog_10_method_28_code 316 = .ok (.iload 6, 2) := by decide +kernel
theorem dQ_typeBy_318 : decode prog_10_method_28_code 318 = .ok (.iload 7, 2) := by decide +kernel
theorem dQ_typeBy_320 : decode prog_10_method_28_code 320 = .ok (.invokevirtual 226, 3) := by decide +kernel
theorem dQ_typeBy_323 : decode prog_10_method_28_code 323 = .ok (.ireturn, 1) := by decide +kernel
theorem dQ_typeBy_324 : decode prog_10_method_28_code 324 = .ok (.iload 6, 2) := by decide +kernel
theorem dQ_typeBy_326 : decode prog_10_method_28_code 326 = .ok (.ifCond .ne 7, 3) := by decide +kernel
theorem dQ_typeBy_329 : decode prog_10_method_28_code 329 = .ok (.iconst 1, 1) := by decide +kernel
theorem dQ_typeBy_330 : decode prog_10_method_28_code 330 = .ok (.goto 4, 3) := by decide +kernel
theorem dQ_typeBy_333 : decode prog_10_method_28_code 333 = .ok (.iconst (-1), 1) := by decide +kernel
theorem dQ_typeBy_334 : decode prog_10_method_28_code 334 = .ok (.ireturn, 1) := by decide +kernel
theorem dQ_typeBy_335 : decode prog_10_method_28_code 335 = .ok (.iload 6, 2) := by decide +kernel
theorem dQ_typeBy_337 : decode prog_10_method_28_code 337 = .ok (.iconst 1, 1) := by decide +kernel
theorem dQ_typeBy_338 : decode prog_10_method_28_code 338 = .ok (.if_icmp .ne 12, 3) := by decide +kernel
theorem dQ_typeBy_341 : decode prog_10_method_28_code 341 = .ok (.aload_n 0, 1) := by decide +kernel
theorem dQ_typeBy_342 : decode prog_10_method_28_code 342 = .ok (.iconst 0, 1) := by decide +kernel
theorem dQ_typeBy_343 : decode prog_10_method_28_code 343 = .ok (.iconst 1, 1) := by decide +kernel
theorem dQ_typeBy_344 : decode prog_10_method_28_code 344 = .ok (.invokevirtual 226, 3) := by decide +kernel
theorem dQ_typeBy_347 : decode prog_10_method_28_code 347 = .ok (.goto 4, 3) := by decide +kernel
theorem dQ_typeBy_350 : decode prog_10_method_28_code 350 = .ok (.iconst (-1), 1) := by decide +kernel
theorem dQ_typeBy_351 : decode prog_10_method_28_code 351 = .ok (.ireturn, 1) := by decide +kernel
theorem dQ_typeBy_352 : decode prog_10_method_28_code 352 = .ok (.iload 6, 2) := by decide +kernel
theorem dQ_typeBy_354 : decode prog_10_method_28_code 354 = .ok (.iconst 1, 1) := by decide +kernel
theorem dQ_typeBy_355 : decode prog_10_method_28_code 355 = .ok (.if_icmp .ne 12, 3) := by decide +kernel
theorem dQ_typeBy_358 : decode prog_10_method_28_code 358 = .ok (.iload 7, 2) := by decide +kernel
theorem dQ_typeBy_360 : decode prog_10_method_28_code 360 = .ok (.ifCond .ne 7, 3) := by decide +kernel
theorem dQ_typeBy_363 : decode prog_10_method_28_code 363 = .ok (.iconst 1, 1) := by decide +kernel
theorem dQ_typeBy_364 : decode prog_10_method_28_code 364 = .ok (.goto 4, 3) := by decide +kernel
theorem dQ_typeBy_367 : decode prog_10_method_28_code 367 = .ok (.iconst (-1), 1) := by decide +kernel
theorem dQ_typeBy_368 : decode prog_10_method_28_code 368 = .ok (.ireturn, 1) := by decide +kernel
theorem dQ_typeBy_369 : decode prog_10_method_28_code 369 = .ok (.iload 6, 2) := by decide +kernel
theorem dQ_typeBy_371 : decode prog_10_method_28_code 371 = .ok (.iconst 1, 1) := by decide +kernel
theorem dQ_typeBy_372 : decode prog_10_method_28_code 372 = .ok (.if_icmp .ne 7, 3) := by decide +kernel
theorem dQ_typeBy_375 : decode prog_10_method_28_code 375 = .ok (.iconst 0, 1) := by decide +kernel
theorem dQ_typeBy_376 : decode prog_10_method_28_code 376 = .ok (.goto 4, 3) := by decide +kernel
theorem dQ_typeBy_379 : decode prog_10_method_28_code 379 = .ok (.iconst (-1), 1) := by decide +kernel
theorem dQ_typeBy_380 : decode prog_10_method_28_code 380 = .ok (.ireturn, 1) := by decide +kernel
theorem dQ_typeBy_381 : decode prog_10_method_28_code 381 = .ok (.aload_n 0, 1) := by decide +kernel
theorem dQ_typeBy_382 : decode prog_10_method_28_code 382 = .ok (.aload_n 0, 1) := by decide +kernel
theorem dQ_typeBy_383 : decode prog_10_method_28_code 383 = .ok (.getfield 16, 3) := by decide +kernel
theorem dQ_typeBy_386 : decode prog_10_method_28_code 386 = .ok (.iload_n 3, 1) := by decide +kernel
theorem dQ_typeBy_387 : decode prog_10_method_28_code 387 = .ok (.iaload, 1) := by decide +kernel
theorem dQ_typeBy_388 : decode prog_10_method_28_code 388 = .ok (.invokevirtual 230, 3) := by decide +kernel
theorem dQ_typeBy_391 : decode prog_10_method_28_code 391 = .ok (.ifCond .eq 33, 3) := by decide +kernel
theorem dQ_typeBy_394 : decode prog_10_method_28_code 394 = .ok (.iload 6, 2) := by decide +kernel
theorem dQ_typeBy_396 : decode prog_10_method_28_code 396 = .ok (.aload_n 0, 1) := by decide +kernel
theorem dQ_typeBy_397 : decode prog_10_method_28_code 397 = .ok (.getfield 71, 3) := by decide +kernel
theorem dQ_typeBy_400 : decode prog_10_method_28_code 400 = .ok (.aload_n 0, 1) := by decide +kernel
theorem dQ_typeBy_401 : decode prog_10_method_28_code 401 = .ok (.getfield 16, 3) := by decide +kernel
theorem dQ_typeBy_404 : decode prog_10_method_28_code 404 = .ok (.iload_n 3, 1) := by decide +kernel
theorem dQ_typeBy_405 : decode prog_10_method_28_code 405 = .ok (.iaload, 1) := by decide +kernel
theorem dQ_typeBy_406 : decode prog_10_method_28_code 406 = .ok (.iaload, 1) := by decide +kernel
theorem dQ_typeBy_407 : decode prog_10_method_28_code 407 = .ok (.if_icmp .ne 17, 3) := by decide +kernel
theorem dQ_typeBy_410 : decode prog_10_method_28_code 410 = .ok (.aload_n 0, 1) := by decide +kernel
theorem dQ_typeBy_411 : decode prog_10_method_28_code 411 = .ok (.getfield 74, 3) := by decide +kernel
theorem dQ_typeBy_414 : decode prog_10_method_28_code 414 = .ok (.aload_n 0, 1) := by decide +kernel
theorem dQ_typeBy_415 : decode prog_10_method_28_code 415 = .ok (.getfield 16, 3) := by decide +kernel
theorem dQ_typeBy_418 : decode prog_10_method_28_code 418 = .ok (.iload_n 3, 1) := by decide +kernel
theorem dQ_typeBy_419 : decode prog_10_method_28_code 419 = .ok (.iaload, 1) := by decide +kernel
theorem dQ_typeBy_420 : decode prog_10_method_28_code 420 = .ok (.iaload, 1) := by decide +kernel
theorem dQ_typeBy_421 : decode prog_10_method_28_code 421 = .ok (.goto 4, 3) := by decide +kernel
theorem dQ_typeBy_424 : decode prog_10_method_28_code 424 = .ok (.iconst (-1), 1) := by decide +kernel
theorem dQ_typeBy_425 : decode prog_10_method_28_code 425 = .ok (.ireturn, 1) := by decide +kernel
def fQ_typeBy_135 (z : lc_S) : Option ((Int32) × lc_S) :=
  some ((-1), z)
def fQ_typeBy_152 (z : lc_S) : Option ((Int32) × lc_S) :=
  some ((-2), z)
def fQ_typeBy_424 (z : lc_S) : Option ((Int32) × lc_S) :=
  some ((-1), z)
def fQ_typeBy_367 (z : lc_S) : Option ((Int32) × lc_S) :=
  some ((-1), z)
def fQ_typeBy_297 (z : lc_S) : Option ((Int32) × lc_S) :=
  some ((-1), z)
def fQ_typeBy_278 (z : lc_S) : Option ((Int32) × lc_S) :=
  some ((-1), z)
def fQ_typeBy_264 (x6 : Int32) (x7 : Int32) (z : lc_S) : Option ((Int32) × lc_S) :=
  if x6 = 0 then (if x7 = 0 then (some (0, z)) else (fQ_typeBy_278 z)) else (fQ_typeBy_278 z)
def fQ_typeBy_115 (x3 : Int32) (x4 : Int32) (x6 : Int32) (x7 : Int32) (t0 : Int32) (z : lc_S) : Option ((Int32) × lc_S) :=
  if x6 = (-1) then (fQ_typeBy_135 z) else (if x7 = (-1) then (fQ_typeBy_135 z) else (if t0 = (-1) then (fQ_typeBy_135 z) else (if x6 < 0 then (fQ_typeBy_152 z) else (if x7 < 0 then (fQ_typeBy_152 z) else (if 0 ≤ t0 then (if x4 = 42 then (fQ_typeBy_264 x6 x7 z) else (if x4 = 43 then (fQ_typeBy_264 x6 x7 z) else (if x4 = 44 then (lc_bnd (fQ_pairType x6 x7 z) (fun r320 z320 => some (r320, z320))) else (if x4 = 45 then (fQ_typeBy_264 x6 x7 z) else (if x4 = 47 then (if x6 ≤ 1 then (some ((-1), z)) else (some (x7, z))) else (if x4 = 58 then (some (x7, z)) else (if x4 = 60 then (fQ_typeBy_264 x6 x7 z) else (if x4 = 63 then (if x6 = 0 then (if x7 = t0 then (some (x7, z)) else (fQ_typeBy_297 z)) else (fQ_typeBy_297 z)) else (if x4 = 100 then (if x6 = 1 then (some (0, z)) else (some ((-1), z))) else (if x4 = 103 then (if x6 = 1 then (lc_bnd (fQ_pairType 0 1 z) (fun r344 z344 => some (r344, z344))) else (some ((-1), z))) else (if x4 = 110 then (if x6 = 0 then (some (1, z)) else (some ((-1), z))) else (if x4 = 112 then (if x6 = 1 then (if x7 = 0 then (some (1, z)) else (fQ_typeBy_367 z)) else (fQ_typeBy_367 z)) else (lc_chk (lc_in x3 600) (lc_bnd (fQ_isThere (lcI z 83 x3.toNatClampNeg) z) (fun r388 z388 => if r388 = 0 then (fQ_typeBy_424 z388) else (lc_chk (lc_in x3 600) (lc_chk (lc_in (lcI z388 83 x3.toNatClampNeg) 4) (if x6 = (lcI z388 101 (lcI z388 83 x3.toNatClampNeg).toNatClampNeg) then (lc_chk (lc_in x3 600) (lc_chk (lc_in (lcI z388 83 x3.toNatClampNeg) 4) (some (lcI z388 102 (lcI z388 83 x3.toNatClampNeg).toNatClampNeg, z388)))) else (fQ_typeBy_424 z388))))))))))))))))))) else (fQ_typeBy_152 z))))))
def fQ_typeBy_92 (x3 : Int32) (x4 : Int32) (x5 : Int32) (x6 : Int32) (t0 : Int32) (z : lc_S) : Option ((Int32) × lc_S) :=
  if x5 ≤ 2 then (fQ_typeBy_115 x3 x4 x6 t0 0 z) else (lc_chk (lc_in x3 600) (lc_chk (lc_in (lcI z 86 x3.toNatClampNeg) 120) (fQ_typeBy_115 x3 x4 x6 t0 (lcI z 100 (lcI z 86 x3.toNatClampNeg).toNatClampNeg) z)))
def fQ_typeBy (a1 : Int32) (a2 : Int32) (z : lc_S) : Option ((Int32) × lc_S) :=
  lc_let ((120 * (a1 + 1)) + a2) (fun x8 => lc_chk (lc_in x8 600) (lc_let (lcI z 82 x8.toNatClampNeg) (fun x15 => if x15 = 48 then (some (0, z)) else (if x15 = 120 then (lc_chk (lc_in x8 600) (lc_chk (lc_in x8 600) (lc_bnd (fQ_bindingType a1 (lcI z 87 x8.toNatClampNeg) (lcI z 88 x8.toNatClampNeg) z) (fun r47 z47 => some (r47, z47))))) else (lc_bnd (fQ_partsOf x15 z) (fun r53 z53 => lc_chk (lc_in x8 600) (lc_chk (lc_in (lcI z53 84 x8.toNatClampNeg) 120) (lc_let (lcI z53 100 (lcI z53 84 x8.toNatClampNeg).toNatClampNeg) (fun x69 => if r53 ≤ 1 then (fQ_typeBy_92 x8 x15 r53 x69 0 z53) else (lc_chk (lc_in x8 600) (lc_chk (lc_in (lcI z53 85 x8.toNatClampNeg) 120) (fQ_typeBy_92 x8 x15 r53 x69 (lcI z53 100 (lcI z53 85 x8.toNatClampNeg).toNatClampNeg) z53))))))))))))
set_option maxHeartbeats 4000000 in
set_option maxRecDepth 100000 in
theorem bQ_typeBy_135 {p : Program} {l : Launch} {e : Env} {s : State} {m : MethodId} {args : Array Value} {below : List Frame} {meth : Method} {c : Code} {G : lc_G} (hx : p.tables.exec = Jvm.exec) (hb : c.code = prog_10_method_28_code) (hml : c.maxLocals = 9) (hr : meth.sig.returnType = (some .int)) (hlocks : meth.locks = false) (hown : s.vm.findClass "LinearCellsModel" = some m.cls) (hts : ∀ w ∈ lc_ALL, w.before args s = true) (hE : lc_E G s) {r : Int32} {z' : lc_S} : ∀ {z : lc_S} {H : Heap} {locs : List Loc} {ls : Array Slot}, fQ_typeBy_135 z = some (r, z') → lv_has ls 9 [] → lc_H G z s.heap H locs → W p l e (lc_rm 2) s m args below meth c H locs 0 0 (MQ below (lc_Q G (some (.int r)) z') args s 0 0 (lc_A G)) (F0 m 135 ls []) := by
  intro z H locs ls hf hl hH
  rw [fQ_typeBy_135] at hf
  refine lv_iconst (v := (-1)) hx hb dQ_typeBy_135 (by decide) ?_
  exact lc_iret hx hb hr hlocks hH hf dQ_typeBy_136
set_option maxHeartbeats 4000000 in
set_option maxRecDepth 100000 in
theorem bQ_typeBy_152 {p : Program} {l : Launch} {e : Env} {s : State} {m : MethodId} {args : Array Value} {below : List Frame} {meth : Method} {c : Code} {G : lc_G} (hx : p.tables.exec = Jvm.exec) (hb : c.code = prog_10_method_28_code) (hml : c.maxLocals = 9) (hr : meth.sig.returnType = (some .int)) (hlocks : meth.locks = false) (hown : s.vm.findClass "LinearCellsModel" = some m.cls) (hts : ∀ w ∈ lc_ALL, w.before args s = true) (hE : lc_E G s) {r : Int32} {z' : lc_S} : ∀ {z : lc_S} {H : Heap} {locs : List Loc} {ls : Array Slot}, fQ_typeBy_152 z = some (r, z') → lv_has ls 9 [] → lc_H G z s.heap H locs → W p l e (lc_rm 2) s m args below meth c H locs 0 0 (MQ below (lc_Q G (some (.int r)) z') args s 0 0 (lc_A G)) (F0 m 152 ls []) := by
  intro z H locs ls hf hl hH
  rw [fQ_typeBy_152] at hf
  refine lv_bipush (v := (-2)) hx hb dQ_typeBy_152 (by decide) ?_
  exact lc_iret hx hb hr hlocks hH hf dQ_typeBy_154
set_option maxHeartbeats 4000000 in
set_option maxRecDepth 100000 in
theorem bQ_typeBy_424 {p : Program} {l : Launch} {e : Env} {s : State} {m : MethodId} {args : Array Value} {below : List Frame} {meth : Method} {c : Code} {G : lc_G} (hx : p.tables.exec = Jvm.exec) (hb : c.code = prog_10_method_28_code) (hml : c.maxLocals = 9) (hr : meth.sig.returnType = (some .int)) (hlocks : meth.locks = false) (hown : s.vm.findClass "LinearCellsModel" = some m.cls) (hts : ∀ w ∈ lc_ALL, w.before args s = true) (hE : lc_E G s) {r : Int32} {z' : lc_S} : ∀ {z : lc_S} {H : Heap} {locs : List Loc} {ls : Array Slot}, fQ_typeBy_424 z = some (r, z') → lv_has ls 9 [] → lc_H G z s.heap H locs → W p l e (lc_rm 2) s m args below meth c H locs 0 0 (MQ below (lc_Q G (some (.int r)) z') args s 0 0 (lc_A G)) (F0 m 424 ls []) := by
  intro z H locs ls hf hl hH
  rw [fQ_typeBy_424] at hf
  refine lv_iconst (v := (-1)) hx hb dQ_typeBy_424 (by decide) ?_
  exact lc_iret hx hb hr hlocks hH hf dQ_typeBy_425
set_option maxHeartbeats 4000000 in
set_option maxRecDepth 100000 in
theorem bQ_typeBy_367 {p : Program} {l : Launch} {e : Env} {s : State} {m : MethodId} {args : Array Value} {below : List Frame} {meth : Method} {c : Code} {G : lc_G} (hx : p.tables.exec = Jvm.exec) (hb : c.code = prog_10_method_28_code) (hml : c.maxLocals = 9) (hr : meth.sig.returnType = (some .int)) (hlocks : meth.locks = false) (hown : s.vm.findClass "LinearCellsModel" = some m.cls) (hts : ∀ w ∈ lc_ALL, w.before args s = true) (hE : lc_E G s) {r : Int32} {z' : lc_S} : ∀ {z : lc_S} {H : Heap} {locs : List Loc} {ls : Array Slot}, fQ_typeBy_367 z = some (r, z') → lv_has ls 9 [] → lc_H G z s.heap H locs → W p l e (lc_rm 2) s m args below meth c H locs 0 0 (MQ below (lc_Q G (some (.int r)) z') args s 0 0 (lc_A G)) (F0 m 367 ls []) := by
  intro z H locs ls hf hl hH
  rw [fQ_typeBy_367] at hf
  refine lv_iconst (v := (-1)) hx hb dQ_typeBy_367 (by decide) ?_
  exact lc_iret hx hb hr hlocks hH hf dQ_typeBy_368
set_option maxHeartbeats 4000000 in
set_option maxRecDepth 100000 in
theorem bQ_typeBy_297 {p : Program} {l : Launch} {e : Env} {s : State} {m : MethodId} {args : Array Value} {below : List Frame} {meth : Method} {c : Code} {G : lc_G} (hx : p.tables.exec = Jvm.exec) (hb : c.code = prog_10_method_28_code) (hml : c.maxLocals = 9) (hr : meth.sig.returnType = (some .int)) (hlocks : meth.locks = false) (hown : s.vm.findClass "LinearCellsModel" = some m.cls) (hts : ∀ w ∈ lc_ALL, w.before args s = true) (hE : lc_E G s) {r : Int32} {z' : lc_S} : ∀ {z : lc_S} {H : Heap} {locs : List Loc} {ls : Array Slot}, fQ_typeBy_297 z = some (r, z') → lv_has ls 9 [] → lc_H G z s.heap H locs → W p l e (lc_rm 2) s m args below meth c H locs 0 0 (MQ below (lc_Q G (some (.int r)) z') args s 0 0 (lc_A G)) (F0 m 297 ls []) := by
  intro z H locs ls hf hl hH
  rw [fQ_typeBy_297] at hf
  refine lv_iconst (v := (-1)) hx hb dQ_typeBy_297 (by decide) ?_
  exact lc_iret hx hb hr hlocks hH hf dQ_typeBy_298
set_option maxHeartbeats 4000000 in
set_option maxRecDepth 100000 in
theorem bQ_typeBy_278 {p : Program} {l : Launch} {e : Env} {s : State} {m : MethodId} {args : Array Value} {below : List Frame} {meth : Method} {c : Code} {G : lc_G} (hx : p.tables.exec = Jvm.exec) (hb : c.code = prog_10_method_28_code) (hml : c.maxLocals = 9) (hr : meth.sig.returnType = (some .int)) (hlocks : meth.locks = false) (hown : s.vm.findClass "LinearCellsModel" = some m.cls) (hts : ∀ w ∈ lc_ALL, w.before args s = true) (hE : lc_E G s) {r : Int32} {z' : lc_S} : ∀ {z : lc_S} {H : Heap} {locs : List Loc} {ls : Array Slot}, fQ_typeBy_278 z = some (r, z') → lv_has ls 9 [] → lc_H G z s.heap H locs → W p l e (lc_rm 2) s m args below meth c H locs 0 0 (MQ below (lc_Q G (some (.int r)) z') args s 0 0 (lc_A G)) (F0 m 278 ls []) := by
  intro z H locs ls hf hl hH
  rw [fQ_typeBy_278] at hf
  refine lv_iconst (v := (-1)) hx hb dQ_typeBy_278 (by decide) ?_
  exact lc_iret hx hb hr hlocks hH hf dQ_typeBy_279
set_option maxHeartbeats 4000000 in
set_option maxRecDepth 100000 in
theorem bQ_typeBy_264 {p : Program} {l : Launch} {e : Env} {s : State} {m : MethodId} {args : Array Value} {below : List Frame} {meth : Method} {c : Code} {G : lc_G} (hx : p.tables.exec = Jvm.exec) (hb : c.code = prog_10_method_28_code) (hml : c.maxLocals = 9) (hr : meth.sig.returnType = (some .int)) (hlocks : meth.locks = false) (hown : s.vm.findClass "LinearCellsModel" = some m.cls) (hts : ∀ w ∈ lc_ALL, w.before args s = true) (hE : lc_E G s) {r : Int32} {z' : lc_S} : ∀ {x6 : Int32} {x7 : Int32} {z : lc_S} {H : Heap} {locs : List Loc} {ls : Array Slot}, fQ_typeBy_264 x6 x7 z = some (r, z') → lv_has ls 9 [(6, .int x6), (7, .int x7)] → lc_H G z s.heap H locs → W p l e (lc_rm 2) s m args below meth c H locs 0 0 (MQ below (lc_Q G (some (.int r)) z') args s 0 0 (lc_A G)) (F0 m 264 ls []) := by
  intro x6 x7 z H locs ls hf hl hH
  rw [fQ_typeBy_264] at hf
  refine lv_iload hx hb dQ_typeBy_264 (lv_at hl 0 rfl) ?_
  refine lv_if_ne (tgt := 278) hx hb dQ_typeBy_266 (by decide) (fun hc => ?_) (fun hc => ?_)
  · replace hf := lc_ite_neg hc hf
    exact bQ_typeBy_278 hx hb hml hr hlocks hown hts hE hf (lv_sub hl [] rfl) hH
  · replace hf := lc_ite_pos hc hf
    refine lv_iload hx hb dQ_typeBy_269 (lv_at hl 1 rfl) ?_
    refine lv_if_ne (tgt := 278) hx hb dQ_typeBy_271 (by decide) (fun hc => ?_) (fun hc => ?_)
    · replace hf := lc_ite_neg hc hf
      exact bQ_typeBy_278 hx hb hml hr hlocks hown hts hE hf (lv_sub hl [] rfl) hH
    · replace hf := lc_ite_pos hc hf
      refine lv_iconst (v := 0) hx hb dQ_typeBy_274 (by decide) ?_
      refine lv_goto (tgt := 279) hx hb dQ_typeBy_275 (by decide) ?_
      exact lc_iret hx hb hr hlocks hH hf dQ_typeBy_279
set_option maxHeartbeats 4000000 in
set_option maxRecDepth 100000 in
theorem bQ_typeBy_115 {p : Program} {l : Launch} {e : Env} {s : State} {m : MethodId} {args : Array Value} {below : List Frame} {meth : Method} {c : Code} {G : lc_G} (hx : p.tables.exec = Jvm.exec) (hb : c.code = prog_10_method_28_code) (hml : c.maxLocals = 9) (hr : meth.sig.returnType = (some .int)) (hlocks : meth.locks = false) (hown : s.vm.findClass "LinearCellsModel" = some m.cls) (hts : ∀ w ∈ lc_ALL, w.before args s = true) (hE : lc_E G s) {r : Int32} {z' : lc_S} : ∀ {x3 : Int32} {x4 : Int32} {x6 : Int32} {x7 : Int32} {t0 : Int32} {z : lc_S} {H : Heap} {locs : List Loc} {ls : Array Slot}, fQ_typeBy_115 x3 x4 x6 x7 t0 z = some (r, z') → lv_has ls 9 [(0, .ref (lc_ad G 80)), (3, .int x3), (4, .int x4), (6, .int x6), (7, .int x7)] → lc_H G z s.heap H locs → W p l e (lc_rm 2) s m args below meth c H locs 0 0 (MQ below (lc_Q G (some (.int r)) z') args s 0 0 (lc_A G)) (F0 m 115 ls [.int t0]) := by
  intro x3 x4 x6 x7 t0 z H locs ls hf hl hH
  rw [fQ_typeBy_115] at hf
  refine lv_istore hx hb dQ_typeBy_115 hl (by decide) rfl (fun ls hl => ?_)
  replace hl : lv_has ls 9 [(8, .int t0), (0, .ref (lc_ad G 80)), (3, .int x3), (4, .int x4), (6, .int x6), (7, .int x7)] := hl
  refine lv_iload hx hb dQ_typeBy_117 (lv_at hl 4 rfl) ?_
  refine lv_iconst (v := (-1)) hx hb dQ_typeBy_119 (by decide) ?_
  refine lv_icmp_eq (tgt := 135) hx hb dQ_typeBy_120 (by decide) (fun hc => ?_) (fun hc => ?_)
  · replace hf := lc_ite_pos hc hf
    exact bQ_typeBy_135 hx hb hml hr hlocks hown hts hE hf (lv_sub hl [] rfl) hH
  · replace hf := lc_ite_neg hc hf
    refine lv_iload hx hb dQ_typeBy_123 (lv_at hl 5 rfl) ?_
    refine lv_iconst (v := (-1)) hx hb dQ_typeBy_125 (by decide) ?_
    refine lv_icmp_eq (tgt := 135) hx hb dQ_typeBy_126 (by decide) (fun hc => ?_) (fun hc => ?_)
    · replace hf := lc_ite_pos hc hf
      exact bQ_typeBy_135 hx hb hml hr hlocks hown hts hE hf (lv_sub hl [] rfl) hH
    · replace hf := lc_ite_neg hc hf
      refine lv_iload hx hb dQ_typeBy_129 (lv_at hl 0 rfl) ?_
      refine lv_iconst (v := (-1)) hx hb dQ_typeBy_131 (by decide) ?_
      refine lv_icmp_ne (tgt := 137) hx hb dQ_typeBy_132 (by decide) (fun hc => ?_) (fun hc => ?_)
      · replace hf := lc_ite_neg hc hf
        refine lv_iload hx hb dQ_typeBy_137 (lv_at hl 4 rfl) ?_
        refine lv_if_lt (tgt := 152) hx hb dQ_typeBy_139 (by decide) (fun hc => ?_) (fun hc => ?_)
        · replace hf := lc_ite_pos hc hf
          exact bQ_typeBy_152 hx hb hml hr hlocks hown hts hE hf (lv_sub hl [] rfl) hH
        · replace hf := lc_ite_neg hc hf
          refine lv_iload hx hb dQ_typeBy_142 (lv_at hl 5 rfl) ?_
          refine lv_if_lt (tgt := 152) hx hb dQ_typeBy_144 (by decide) (fun hc => ?_) (fun hc => ?_)
          · replace hf := lc_ite_pos hc hf
            exact bQ_typeBy_152 hx hb hml hr hlocks hown hts hE hf (lv_sub hl [] rfl) hH
          · replace hf := lc_ite_neg hc hf
            refine lv_iload hx hb dQ_typeBy_147 (lv_at hl 0 rfl) ?_
            refine lv_if_ge (tgt := 155) hx hb dQ_typeBy_149 (by decide) (fun hc => ?_) (fun hc => ?_)
            · replace hf := lc_ite_pos hc hf
              refine lv_iload hx hb dQ_typeBy_155 (lv_at hl 3 rfl) ?_
              by_cases hc42 : x4 = 42
              · replace hf := lc_ite_pos hc42 hf
                refine lv_lookup (tgt := 264) (off := 107) hx hb dQ_typeBy_157 (by decide) (by rw [hc42] <;> rfl) (by decide) ?_
                exact bQ_typeBy_264 hx hb hml hr hlocks hown hts hE hf (lv_sub hl [4, 5] rfl) hH
              replace hf := lc_ite_neg hc42 hf
              by_cases hc43 : x4 = 43
              · replace hf := lc_ite_pos hc43 hf
                refine lv_lookup (tgt := 264) (off := 107) hx hb dQ_typeBy_157 (by decide) (by rw [hc43] <;> rfl) (by decide) ?_
                exact bQ_typeBy_264 hx hb hml hr hlocks hown hts hE hf (lv_sub hl [4, 5] rfl) hH
              replace hf := lc_ite_neg hc43 hf
              by_cases hc44 : x4 = 44
              · replace hf := lc_ite_pos hc44 hf
                refine lv_lookup (tgt := 315) (off := 158) hx hb dQ_typeBy_157 (by decide) (by rw [hc44] <;> rfl) (by decide) ?_
                refine lv_aload_n hx hb dQ_typeBy_315 rfl (lv_at hl 1 rfl) ?_
                refine lv_iload hx hb dQ_typeBy_316 (lv_at hl 4 rfl) ?_
                refine lv_iload hx hb dQ_typeBy_318 (lv_at hl 5 rfl) ?_
                obtain ⟨r320, z320, h320, hf⟩ := lc_bnd_some hf
                refine lc_calli (va_runV (As := [.int x6, .int x7]) (rest := []) ⟨hx, hb, hml, hown, hts⟩ (cQ_pairType l G h320) (lc_cwV hts kvQ_226 (lc_room (by decide) (by decide))) (lc_preV hE hH lc_h80 rfl _) rfl rfl hl.1 rfl (lv_room (Nat.le_of_ble_eq_true rfl)) dQ_typeBy_320 ⟨Nat.zero_le _, Nat.zero_le _⟩) hH (fun H locs hH => ?_)
                exact lc_iret hx hb hr hlocks hH hf dQ_typeBy_323
              replace hf := lc_ite_neg hc44 hf
              by_cases hc45 : x4 = 45
              · replace hf := lc_ite_pos hc45 hf
                refine lv_lookup (tgt := 264) (off := 107) hx hb dQ_typeBy_157 (by decide) (by rw [hc45] <;> rfl) (by decide) ?_
                exact bQ_typeBy_264 hx hb hml hr hlocks hown hts hE hf (lv_sub hl [4, 5] rfl) hH
              replace hf := lc_ite_neg hc45 hf
              by_cases hc47 : x4 = 47
              · replace hf := lc_ite_pos hc47 hf
                refine lv_lookup (tgt := 302) (off := 145) hx hb dQ_typeBy_157 (by decide) (by rw [hc47] <;> rfl) (by decide) ?_
                refine lv_iload hx hb dQ_typeBy_302 (lv_at hl 4 rfl) ?_
                refine lv_iconst (v := 1) hx hb dQ_typeBy_304 (by decide) ?_
                refine lv_icmp_le (tgt := 313) hx hb dQ_typeBy_305 (by decide) (fun hc => ?_) (fun hc => ?_)
                · replace hf := lc_ite_pos hc hf
                  refine lv_iconst (v := (-1)) hx hb dQ_typeBy_313 (by decide) ?_
                  exact lc_iret hx hb hr hlocks hH hf dQ_typeBy_314
                · replace hf := lc_ite_neg hc hf
                  refine lv_iload hx hb dQ_typeBy_308 (lv_at hl 5 rfl) ?_
                  refine lv_goto (tgt := 314) hx hb dQ_typeBy_310 (by decide) ?_
                  exact lc_iret hx hb hr hlocks hH hf dQ_typeBy_314
              replace hf := lc_ite_neg hc47 hf
              by_cases hc58 : x4 = 58
              · replace hf := lc_ite_pos hc58 hf
                refine lv_lookup (tgt := 299) (off := 142) hx hb dQ_typeBy_157 (by decide) (by rw [hc58] <;> rfl) (by decide) ?_
                refine lv_iload hx hb dQ_typeBy_299 (lv_at hl 5 rfl) ?_
                exact lc_iret hx hb hr hlocks hH hf dQ_typeBy_301
              replace hf := lc_ite_neg hc58 hf
              by_cases hc60 : x4 = 60
              · replace hf := lc_ite_pos hc60 hf
                refine lv_lookup (tgt := 264) (off := 107) hx hb dQ_typeBy_157 (by decide) (by rw [hc60] <;> rfl) (by decide) ?_
                exact bQ_typeBy_264 hx hb hml hr hlocks hown hts hE hf (lv_sub hl [4, 5] rfl) hH
              replace hf := lc_ite_neg hc60 hf
              by_cases hc63 : x4 = 63
              · replace hf := lc_ite_pos hc63 hf
                refine lv_lookup (tgt := 280) (off := 123) hx hb dQ_typeBy_157 (by decide) (by rw [hc63] <;> rfl) (by decide) ?_
                refine lv_iload hx hb dQ_typeBy_280 (lv_at hl 4 rfl) ?_
                refine lv_if_ne (tgt := 297) hx hb dQ_typeBy_282 (by decide) (fun hc => ?_) (fun hc => ?_)
                · replace hf := lc_ite_neg hc hf
                  exact bQ_typeBy_297 hx hb hml hr hlocks hown hts hE hf (lv_sub hl [] rfl) hH
                · replace hf := lc_ite_pos hc hf
                  refine lv_iload hx hb dQ_typeBy_285 (lv_at hl 5 rfl) ?_
                  refine lv_iload hx hb dQ_typeBy_287 (lv_at hl 0 rfl) ?_
                  refine lv_icmp_ne (tgt := 297) hx hb dQ_typeBy_289 (by decide) (fun hc => ?_) (fun hc => ?_)
                  · replace hf := lc_ite_neg hc hf
                    exact bQ_typeBy_297 hx hb hml hr hlocks hown hts hE hf (lv_sub hl [] rfl) hH
                  · replace hf := lc_ite_pos hc hf
                    refine lv_iload hx hb dQ_typeBy_292 (lv_at hl 5 rfl) ?_
                    refine lv_goto (tgt := 298) hx hb dQ_typeBy_294 (by decide) ?_
                    exact lc_iret hx hb hr hlocks hH hf dQ_typeBy_298
              replace hf := lc_ite_neg hc63 hf
              by_cases hc100 : x4 = 100
              · replace hf := lc_ite_pos hc100 hf
                refine lv_lookup (tgt := 369) (off := 212) hx hb dQ_typeBy_157 (by decide) (by rw [hc100] <;> rfl) (by decide) ?_
                refine lv_iload hx hb dQ_typeBy_369 (lv_at hl 4 rfl) ?_
                refine lv_iconst (v := 1) hx hb dQ_typeBy_371 (by decide) ?_
                refine lv_icmp_ne (tgt := 379) hx hb dQ_typeBy_372 (by decide) (fun hc => ?_) (fun hc => ?_)
                · replace hf := lc_ite_neg hc hf
                  refine lv_iconst (v := (-1)) hx hb dQ_typeBy_379 (by decide) ?_
                  exact lc_iret hx hb hr hlocks hH hf dQ_typeBy_380
                · replace hf := lc_ite_pos hc hf
                  refine lv_iconst (v := 0) hx hb dQ_typeBy_375 (by decide) ?_
                  refine lv_goto (tgt := 380) hx hb dQ_typeBy_376 (by decide) ?_
                  exact lc_iret hx hb hr hlocks hH hf dQ_typeBy_380
              replace hf := lc_ite_neg hc100 hf
              by_cases hc103 : x4 = 103
              · replace hf := lc_ite_pos hc103 hf
                refine lv_lookup (tgt := 335) (off := 178) hx hb dQ_typeBy_157 (by decide) (by rw [hc103] <;> rfl) (by decide) ?_
                refine lv_iload hx hb dQ_typeBy_335 (lv_at hl 4 rfl) ?_
                refine lv_iconst (v := 1) hx hb dQ_typeBy_337 (by decide) ?_
                refine lv_icmp_ne (tgt := 350) hx hb dQ_typeBy_338 (by decide) (fun hc => ?_) (fun hc => ?_)
                · replace hf := lc_ite_neg hc hf
                  refine lv_iconst (v := (-1)) hx hb dQ_typeBy_350 (by decide) ?_
                  exact lc_iret hx hb hr hlocks hH hf dQ_typeBy_351
                · replace hf := lc_ite_pos hc hf
                  refine lv_aload_n hx hb dQ_typeBy_341 rfl (lv_at hl 1 rfl) ?_
                  refine lv_iconst (v := 0) hx hb dQ_typeBy_342 (by decide) ?_
                  refine lv_iconst (v := 1) hx hb dQ_typeBy_343 (by decide) ?_
                  obtain ⟨r344, z344, h344, hf⟩ := lc_bnd_some hf
                  refine lc_calli (va_runV (As := [.int 0, .int 1]) (rest := []) ⟨hx, hb, hml, hown, hts⟩ (cQ_pairType l G h344) (lc_cwV hts kvQ_226 (lc_room (by decide) (by decide))) (lc_preV hE hH lc_h80 rfl _) rfl rfl hl.1 rfl (lv_room (Nat.le_of_ble_eq_true rfl)) dQ_typeBy_344 ⟨Nat.zero_le _, Nat.zero_le _⟩) hH (fun H locs hH => ?_)
                  refine lv_goto (tgt := 351) hx hb dQ_typeBy_347 (by decide) ?_
                  exact lc_iret hx hb hr hlocks hH hf dQ_typeBy_351
              replace hf := lc_ite_neg hc103 hf
              by_cases hc110 : x4 = 110
              · replace hf := lc_ite_pos hc110 hf
                refine lv_lookup (tgt := 324) (off := 167) hx hb dQ_typeBy_157 (by decide) (by rw [hc110] <;> rfl) (by decide) ?_
                refine lv_iload hx hb dQ_typeBy_324 (lv_at hl 4 rfl) ?_
                refine lv_if_ne (tgt := 333) hx hb dQ_typeBy_326 (by decide) (fun hc => ?_) (fun hc => ?_)
                · replace hf := lc_ite_neg hc hf
                  refine lv_iconst (v := (-1)) hx hb dQ_typeBy_333 (by decide) ?_
                  exact lc_iret hx hb hr hlocks hH hf dQ_typeBy_334
                · replace hf := lc_ite_pos hc hf
                  refine lv_iconst (v := 1) hx hb dQ_typeBy_329 (by decide) ?_
                  refine lv_goto (tgt := 334) hx hb dQ_typeBy_330 (by decide) ?_
                  exact lc_iret hx hb hr hlocks hH hf dQ_typeBy_334
              replace hf := lc_ite_neg hc110 hf
              by_cases hc112 : x4 = 112
              · replace hf := lc_ite_pos hc112 hf
                refine lv_lookup (tgt := 352) (off := 195) hx hb dQ_typeBy_157 (by decide) (by rw [hc112] <;> rfl) (by decide) ?_
                refine lv_iload hx hb dQ_typeBy_352 (lv_at hl 4 rfl) ?_
                refine lv_iconst (v := 1) hx hb dQ_typeBy_354 (by decide) ?_
                refine lv_icmp_ne (tgt := 367) hx hb dQ_typeBy_355 (by decide) (fun hc => ?_) (fun hc => ?_)
                · replace hf := lc_ite_neg hc hf
                  exact bQ_typeBy_367 hx hb hml hr hlocks hown hts hE hf (lv_sub hl [] rfl) hH
                · replace hf := lc_ite_pos hc hf
                  refine lv_iload hx hb dQ_typeBy_358 (lv_at hl 5 rfl) ?_
                  refine lv_if_ne (tgt := 367) hx hb dQ_typeBy_360 (by decide) (fun hc => ?_) (fun hc => ?_)
                  · replace hf := lc_ite_neg hc hf
                    exact bQ_typeBy_367 hx hb hml hr hlocks hown hts hE hf (lv_sub hl [] rfl) hH
                  · replace hf := lc_ite_pos hc hf
                    refine lv_iconst (v := 1) hx hb dQ_typeBy_363 (by decide) ?_
                    refine lv_goto (tgt := 368) hx hb dQ_typeBy_364 (by decide) ?_
                    exact lc_iret hx hb hr hlocks hH hf dQ_typeBy_368
              replace hf := lc_ite_neg hc112 hf
              refine lv_lookup (tgt := 381) (off := 224) hx hb dQ_typeBy_157 (by decide) ((lv_osw hc42 (by decide)).trans ((lv_osw hc43 (by decide)).trans ((lv_osw hc44 (by decide)).trans ((lv_osw hc45 (by decide)).trans ((lv_osw hc47 (by decide)).trans ((lv_osw hc58 (by decide)).trans ((lv_osw hc60 (by decide)).trans ((lv_osw hc63 (by decide)).trans ((lv_osw hc100 (by decide)).trans ((lv_osw hc103 (by decide)).trans ((lv_osw hc110 (by decide)).trans ((lv_osw hc112 (by decide)).trans rfl)))))))))))) (by decide) ?_
              refine lv_aload_n hx hb dQ_typeBy_381 rfl (lv_at hl 1 rfl) ?_
              refine lv_aload_n hx hb dQ_typeBy_382 rfl (lv_at hl 1 rfl) ?_
              refine lc_getf (d := 3) (q := 83) hx hb hts hown hE hH flQ_16 lc_h80 rfl rfl dQ_typeBy_383 ?_
              refine lv_iload_n hx hb dQ_typeBy_386 rfl (lv_at hl 2 rfl) ?_
              obtain ⟨hi387, hf⟩ := lc_chk_some hf
              refine lc_iald hx hb hE hH lc_h83 rfl hi387 dQ_typeBy_387 ?_
              obtain ⟨r388, z388, h388, hf⟩ := lc_bnd_some hf
              refine lc_calli (va_runV (As := [.int (lcI z 83 x3.toNatClampNeg)]) (rest := []) ⟨hx, hb, hml, hown, hts⟩ (cQ_isThere l G h388) (lc_cwV hts kvQ_230 (lc_room (by decide) (by decide))) (lc_preV hE hH lc_h80 rfl _) rfl rfl hl.1 rfl (lv_room (Nat.le_of_ble_eq_true rfl)) dQ_typeBy_388 ⟨Nat.zero_le _, Nat.zero_le _⟩) hH (fun H locs hH => ?_)
              refine lv_if_eq (tgt := 424) hx hb dQ_typeBy_391 (by decide) (fun hc => ?_) (fun hc => ?_)
              · replace hf := lc_ite_pos hc hf
                exact bQ_typeBy_424 hx hb hml hr hlocks hown hts hE hf (lv_sub hl [] rfl) hH
              · replace hf := lc_ite_neg hc hf
                refine lv_iload hx hb dQ_typeBy_394 (lv_at hl 4 rfl) ?_
                refine lv_aload_n hx hb dQ_typeBy_396 rfl (lv_at hl 1 rfl) ?_
                refine lc_getf (d := 21) (q := 101) hx hb hts hown hE hH flQ_71 lc_h80 rfl rfl dQ_typeBy_397 ?_
                refine lv_aload_n hx hb dQ_typeBy_400 rfl (lv_at hl 1 rfl) ?_
                refine lc_getf (d := 3) (q := 83) hx hb hts hown hE hH flQ_16 lc_h80 rfl rfl dQ_typeBy_401 ?_
                refine lv_iload_n hx hb dQ_typeBy_404 rfl (lv_at hl 2 rfl) ?_
                obtain ⟨hi405, hf⟩ := lc_chk_some hf
                refine lc_iald hx hb hE hH lc_h83 rfl hi405 dQ_typeBy_405 ?_
                obtain ⟨hi406, hf⟩ := lc_chk_some hf
                refine lc_iald hx hb hE hH lc_h101 rfl hi406 dQ_typeBy_406 ?_
                refine lv_icmp_ne (tgt := 424) hx hb dQ_typeBy_407 (by decide) (fun hc => ?_) (fun hc => ?_)
                · replace hf := lc_ite_neg hc hf
                  exact bQ_typeBy_424 hx hb hml hr hlocks hown hts hE hf (lv_sub hl [] rfl) hH
                · replace hf := lc_ite_pos hc hf
                  refine lv_aload_n hx hb dQ_typeBy_410 rfl (lv_at hl 1 rfl) ?_
                  refine lc_getf (d := 22) (q := 102) hx hb hts hown hE hH flQ_74 lc_h80 rfl rfl dQ_typeBy_411 ?_
                  refine lv_aload_n hx hb dQ_typeBy_414 rfl (lv_at hl 1 rfl) ?_
                  refine lc_getf (d := 3) (q := 83) hx hb hts hown hE hH flQ_16 lc_h80 rfl rfl dQ_typeBy_415 ?_
                  refine lv_iload_n hx hb dQ_typeBy_418 rfl (lv_at hl 2 rfl) ?_
                  obtain ⟨hi419, hf⟩ := lc_chk_some hf
                  refine lc_iald hx hb hE hH lc_h83 rfl hi419 dQ_typeBy_419 ?_
                  obtain ⟨hi420, hf⟩ := lc_chk_some hf
                  refine lc_iald hx hb hE hH lc_h102 rfl hi420 dQ_typeBy_420 ?_
                  refine lv_goto (tgt := 425) hx hb dQ_typeBy_421 (by decide) ?_
                  exact lc_iret hx hb hr hlocks hH hf dQ_typeBy_425
            · replace hf := lc_ite_neg hc hf
              exact bQ_typeBy_152 hx hb hml hr hlocks hown hts hE hf (lv_sub hl [] rfl) hH
      · replace hf := lc_ite_pos hc hf
        exact bQ_typeBy_135 hx hb hml hr hlocks hown hts hE hf (lv_sub hl [] rfl) hH
set_option maxHeartbeats 4000000 in
set_option maxRecDepth 100000 in
theorem bQ_typeBy_92 {p : Program} {l : Launch} {e : Env} {s : State} {m : MethodId} {args : Array Value} {below : List Frame} {meth : Method} {c : Code} {G : lc_G} (hx : p.tables.exec = Jvm.exec) (hb : c.code = prog_10_method_28_code) (hml : c.maxLocals = 9) (hr : meth.sig.returnType = (some .int)) (hlocks : meth.locks = false) (hown : s.vm.findClass "LinearCellsModel" = some m.cls) (hts : ∀ w ∈ lc_ALL, w.before args s = true) (hE : lc_E G s) {r : Int32} {z' : lc_S} : ∀ {x3 : Int32} {x4 : Int32} {x5 : Int32} {x6 : Int32} {t0 : Int32} {z : lc_S} {H : Heap} {locs : List Loc} {ls : Array Slot}, fQ_typeBy_92 x3 x4 x5 x6 t0 z = some (r, z') → lv_has ls 9 [(0, .ref (lc_ad G 80)), (3, .int x3), (4, .int x4), (5, .int x5), (6, .int x6)] → lc_H G z s.heap H locs → W p l e (lc_rm 2) s m args below meth c H locs 0 0 (MQ below (lc_Q G (some (.int r)) z') args s 0 0 (lc_A G)) (F0 m 92 ls [.int t0]) := by
  intro x3 x4 x5 x6 t0 z H locs ls hf hl hH
  rw [fQ_typeBy_92] at hf
  refine lv_istore hx hb dQ_typeBy_92 hl (by decide) rfl (fun ls hl => ?_)
  replace hl : lv_has ls 9 [(7, .int t0), (0, .ref (lc_ad G 80)), (3, .int x3), (4, .int x4), (5, .int x5), (6, .int x6)] := hl
  refine lv_iload hx hb dQ_typeBy_94 (lv_at hl 4 rfl) ?_
  refine lv_iconst (v := 2) hx hb dQ_typeBy_96 (by decide) ?_
  refine lv_icmp_le (tgt := 114) hx hb dQ_typeBy_97 (by decide) (fun hc => ?_) (fun hc => ?_)
  · replace hf := lc_ite_pos hc hf
    refine lv_iconst (v := 0) hx hb dQ_typeBy_114 (by decide) ?_
    exact bQ_typeBy_115 hx hb hml hr hlocks hown hts hE hf (lv_sub hl [1, 2, 3, 5, 0] rfl) hH
  · replace hf := lc_ite_neg hc hf
    refine lv_aload_n hx hb dQ_typeBy_100 rfl (lv_at hl 1 rfl) ?_
    refine lc_getf (d := 20) (q := 100) hx hb hts hown hE hH flQ_68 lc_h80 rfl rfl dQ_typeBy_101 ?_
    refine lv_aload_n hx hb dQ_typeBy_104 rfl (lv_at hl 1 rfl) ?_
    refine lc_getf (d := 6) (q := 86) hx hb hts hown hE hH flQ_25 lc_h80 rfl rfl dQ_typeBy_105 ?_
    refine lv_iload_n hx hb dQ_typeBy_108 rfl (lv_at hl 2 rfl) ?_
    obtain ⟨hi109, hf⟩ := lc_chk_some hf
    refine lc_iald hx hb hE hH lc_h86 rfl hi109 dQ_typeBy_109 ?_
    obtain ⟨hi110, hf⟩ := lc_chk_some hf
    refine lc_iald hx hb hE hH lc_h100 rfl hi110 dQ_typeBy_110 ?_
    refine lv_goto (tgt := 115) hx hb dQ_typeBy_111 (by decide) ?_
    exact bQ_typeBy_115 hx hb hml hr hlocks hown hts hE hf (lv_sub hl [1, 2, 3, 5, 0] rfl) hH
set_option maxHeartbeats 4000000 in
set_option maxRecDepth 100000 in
theorem cQ_typeBy (l : Launch) (G : lc_G) {a1 : Int32} {a2 : Int32} {r : Int32} {z z' : lc_S} (hf : fQ_typeBy a1 a2 z = some (r, z')) : lc_M l G yQ_typeBy wQ_typeBy 2 [.ref (lc_ad G 80), .int a1, .int a2] z (some (.int r)) z' := by
  refine lc_M_of (cc := prog_10_method_28_code) (maxL := 9) (ret := (some .int)) (own := "LinearCellsModel") (by decide) rfl (fun w h => List.mem_cons_of_mem _ h) (Nat.le_of_ble_eq_true rfl) rfl ?_
  intro p e s m below meth c hx hb hml hr hlocks hown hts hE ls hl hH
  replace hl : lv_has ls 9 [(0, .ref (lc_ad G 80)), (1, .int a1), (2, .int a2)] := hl
  rw [fQ_typeBy] at hf
  refine lv_bipush (v := 120) hx hb dQ_typeBy_0 (by decide) ?_
  refine lv_iload_n hx hb dQ_typeBy_2 rfl (lv_at hl 1 rfl) ?_
  refine lv_iconst (v := 1) hx hb dQ_typeBy_3 (by decide) ?_
  refine lv_iadd hx hb dQ_typeBy_4 ?_
  refine lv_imul hx hb dQ_typeBy_5 ?_
  refine lv_iload_n hx hb dQ_typeBy_6 rfl (lv_at hl 2 rfl) ?_
  refine lv_iadd hx hb dQ_typeBy_7 ?_
  refine lv_topi (fun x8 e8 => ?_)
  replace hf := lc_let_of e8 hf
  refine lv_istore_n hx hb dQ_typeBy_8 rfl hl (by decide) rfl (fun ls hl => ?_)
  replace hl : lv_has ls 9 [(3, .int x8), (0, .ref (lc_ad G 80)), (1, .int a1), (2, .int a2)] := hl
  refine lv_aload_n hx hb dQ_typeBy_9 rfl (lv_at hl 1 rfl) ?_
  refine lc_getf (d := 2) (q := 82) hx hb hts hown hE hH flQ_13 lc_h80 rfl rfl dQ_typeBy_10 ?_
  refine lv_iload_n hx hb dQ_typeBy_13 rfl (lv_at hl 0 rfl) ?_
  obtain ⟨hi14, hf⟩ := lc_chk_some hf
  refine lc_iald hx hb hE hH lc_h82 rfl hi14 dQ_typeBy_14 ?_
  refine lv_topi (fun x15 e15 => ?_)
  replace hf := lc_let_of e15 hf
  refine lv_istore hx hb dQ_typeBy_15 hl (by decide) rfl (fun ls hl => ?_)
  replace hl : lv_has ls 9 [(4, .int x15), (3, .int x8), (0, .ref (lc_ad G 80)), (1, .int a1), (2, .int a2)] := hl
  refine lv_iload hx hb dQ_typeBy_17 (lv_at hl 0 rfl) ?_
  refine lv_bipush (v := 48) hx hb dQ_typeBy_19 (by decide) ?_
  refine lv_icmp_ne (tgt := 26) hx hb dQ_typeBy_21 (by decide) (fun hc => ?_) (fun hc => ?_)
  · replace hf := lc_ite_neg hc hf
    refine lv_iload hx hb dQ_typeBy_26 (lv_at hl 0 rfl) ?_
    refine lv_bipush (v := 120) hx hb dQ_typeBy_28 (by decide) ?_
    refine lv_icmp_ne (tgt := 51) hx hb dQ_typeBy_30 (by decide) (fun hc => ?_) (fun hc => ?_)
    · replace hf := lc_ite_neg hc hf
      refine lv_iload hx hb dQ_typeBy_51 (lv_at hl 0 rfl) ?_
      obtain ⟨r53, z53, h53, hf⟩ := lc_bnd_some hf
      refine lc_calli (va_runS (As := [.int x15]) (rest := []) ⟨hx, hb, hml, hown, hts⟩ (cQ_partsOf l G h53) (lc_cwS hts ksQ_214 (lc_room (by decide) (by decide))) (lc_preS hE hH _) rfl rfl hl.1 rfl (lv_room (Nat.le_of_ble_eq_true rfl)) dQ_typeBy_53 ⟨Nat.zero_le _, Nat.zero_le _⟩) hH (fun H locs hH => ?_)
      refine lv_istore hx hb dQ_typeBy_56 hl (by decide) rfl (fun ls hl => ?_)
      replace hl : lv_has ls 9 [(5, .int r53), (4, .int x15), (3, .int x8), (0, .ref (lc_ad G 80)), (1, .int a1), (2, .int a2)] := hl
      refine lv_aload_n hx hb dQ_typeBy_58 rfl (lv_at hl 3 rfl) ?_
      refine lc_getf (d := 20) (q := 100) hx hb hts hown hE hH flQ_68 lc_h80 rfl rfl dQ_typeBy_59 ?_
      refine lv_aload_n hx hb dQ_typeBy_62 rfl (lv_at hl 3 rfl) ?_
      refine lc_getf (d := 4) (q := 84) hx hb hts hown hE hH flQ_19 lc_h80 rfl rfl dQ_typeBy_63 ?_
      refine lv_iload_n hx hb dQ_typeBy_66 rfl (lv_at hl 2 rfl) ?_
      obtain ⟨hi67, hf⟩ := lc_chk_some hf
      refine lc_iald hx hb hE hH lc_h84 rfl hi67 dQ_typeBy_67 ?_
      obtain ⟨hi68, hf⟩ := lc_chk_some hf
      refine lc_iald hx hb hE hH lc_h100 rfl hi68 dQ_typeBy_68 ?_
      refine lv_topi (fun x69 e69 => ?_)
      replace hf := lc_let_of e69 hf
      refine lv_istore hx hb dQ_typeBy_69 hl (by decide) rfl (fun ls hl => ?_)
      replace hl : lv_has ls 9 [(6, .int x69), (5, .int r53), (4, .int x15), (3, .int x8), (0, .ref (lc_ad G 80)), (1, .int a1), (2, .int a2)] := hl
      refine lv_iload hx hb dQ_typeBy_71 (lv_at hl 1 rfl) ?_
      refine lv_iconst (v := 1) hx hb dQ_typeBy_73 (by decide) ?_
      refine lv_icmp_le (tgt := 91) hx hb dQ_typeBy_74 (by decide) (fun hc => ?_) (fun hc => ?_)
      · replace hf := lc_ite_pos hc hf
        refine lv_iconst (v := 0) hx hb dQ_typeBy_91 (by decide) ?_
        exact bQ_typeBy_92 hx hb hml hr hlocks hown hts hE hf (lv_sub hl [4, 3, 2, 1, 0] rfl) hH
      · replace hf := lc_ite_neg hc hf
        refine lv_aload_n hx hb dQ_typeBy_77 rfl (lv_at hl 4 rfl) ?_
        refine lc_getf (d := 20) (q := 100) hx hb hts hown hE hH flQ_68 lc_h80 rfl rfl dQ_typeBy_78 ?_
        refine lv_aload_n hx hb dQ_typeBy_81 rfl (lv_at hl 4 rfl) ?_
        refine lc_getf (d := 5) (q := 85) hx hb hts hown hE hH flQ_22 lc_h80 rfl rfl dQ_typeBy_82 ?_
        refine lv_iload_n hx hb dQ_typeBy_85 rfl (lv_at hl 3 rfl) ?_
        obtain ⟨hi86, hf⟩ := lc_chk_some hf
        refine lc_iald hx hb hE hH lc_h85 rfl hi86 dQ_typeBy_86 ?_
        obtain ⟨hi87, hf⟩ := lc_chk_some hf
        refine lc_iald hx hb hE hH lc_h100 rfl hi87 dQ_typeBy_87 ?_
        refine lv_goto (tgt := 92) hx hb dQ_typeBy_88 (by decide) ?_
        exact bQ_typeBy_92 hx hb hml hr hlocks hown hts hE hf (lv_sub hl [4, 3, 2, 1, 0] rfl) hH
    · replace hf := lc_ite_pos hc hf
      refine lv_aload_n hx hb dQ_typeBy_33 rfl (lv_at hl 2 rfl) ?_
      refine lv_iload_n hx hb dQ_typeBy_34 rfl (lv_at hl 3 rfl) ?_
      refine lv_aload_n hx hb dQ_typeBy_35 rfl (lv_at hl 2 rfl) ?_
      refine lc_getf (d := 7) (q := 87) hx hb hts hown hE hH flQ_28 lc_h80 rfl rfl dQ_typeBy_36 ?_
      refine lv_iload_n hx hb dQ_typeBy_39 rfl (lv_at hl 1 rfl) ?_
      obtain ⟨hi40, hf⟩ := lc_chk_some hf
      refine lc_iald hx hb hE hH lc_h87 rfl hi40 dQ_typeBy_40 ?_
      refine lv_aload_n hx hb dQ_typeBy_41 rfl (lv_at hl 2 rfl) ?_
      refine lc_getf (d := 8) (q := 88) hx hb hts hown hE hH flQ_31 lc_h80 rfl rfl dQ_typeBy_42 ?_
      refine lv_iload_n hx hb dQ_typeBy_45 rfl (lv_at hl 1 rfl) ?_
      obtain ⟨hi46, hf⟩ := lc_chk_some hf
      refine lc_zald hx hb hE hH lc_h88 rfl hi46 dQ_typeBy_46 ?_
      obtain ⟨r47, z47, h47, hf⟩ := lc_bnd_some hf
      refine lc_calli (va_runV (As := [.int a1, .int (lcI z 87 x8.toNatClampNeg), .int (lcI z 88 x8.toNatClampNeg)]) (rest := []) ⟨hx, hb, hml, hown, hts⟩ (cQ_bindingType l G h47) (lc_cwV hts kvQ_240 (lc_room (by decide) (by decide))) (lc_preV hE hH lc_h80 rfl _) rfl rfl hl.1 rfl (lv_room (Nat.le_of_ble_eq_true rfl)) dQ_typeBy_47 ⟨Nat.zero_le _, Nat.zero_le _⟩) hH (fun H locs hH => ?_)
      exact lc_iret hx hb hr hlocks hH hf dQ_typeBy_50
  · replace hf := lc_ite_pos hc hf
    refine lv_iconst (v := 0) hx hb dQ_typeBy_24 (by decide) ?_
    exact lc_iret hx hb hr hlocks hH hf dQ_typeBy_25
