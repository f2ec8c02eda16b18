theorem dK_findType_0 : decode prog_2_method_7_code 0 = .ok (.aload_n 0, 1) := by decide +kernel
theorem dK_findType_1 : decode prog_2_method_7_code 1 = .ok (.aload_n 0, 1) := by decide +kernel
theorem dK_findType_2 : decode prog_2_method_7_code 2 = .ok (.getfield 57, 3) := by decide +kernel
theorem dK_findType_5 : decode prog_2_method_7_code 5 = .ok (.getfield 87, 3) := by decide +kernel
theorem dK_findType_8 : decode prog_2_method_7_code 8 = .ok (.iload_n 1, 1) := by decide +kernel
theorem dK_findType_9 : decode prog_2_method_7_code 9 = .ok (.iaload, 1) := by decide +kernel
theorem dK_findType_10 : decode prog_2_method_7_code 10 = .ok (.invokevirtual 71, 3) := by decide +kernel
theorem dK_findType_13 : decode prog_2_method_7_code 13 = .ok (.istore_n 2, 1) := by decide +kernel
theorem dK_findType_14 : decode prog_2_method_7_code 14 = .ok (.aload_n 0, 1) := by decide +kernel
theorem dK_findType_15 : decode prog_2_method_7_code 15 = .ok (.aload_n 0, 1) := by decide +kernel
theorem dK_findType_16 : decode prog_2_method_7_code 16 = .ok (.getfield 57, 3) := by decide +kernel
theorem dK_findType_19 : decode prog_2_method_7_code 19 = .ok (.getfield 90, 3) := by decide +kernel
theorem dK_findType_22 : decode prog_2_method_7_code 22 = .ok (.iload_n 1, 1) := by decide +kernel
theorem dK_findType_23 : decode prog_2_method_7_code 23 = .ok (.iaload, 1) := by decide +kernel
theorem dK_findType_24 : decode prog_2_method_7_code 24 = .ok (.invokevirtual 71, 3) := by decide +kernel
theorem dK_findType_27 : decode prog_2_method_7_code 27 = .ok (.istore_n 3, 1) := by decide +kernel
theorem dK_findType_28 : decode prog_2_method_7_code 28 = .ok (.aload_n 0, 1) := by decide +kernel
theorem dK_findType_29 : decode prog_2_method_7_code 29 = .ok (.getfield 57, 3) := by decide +kernel
theorem dK_findType_32 : decode prog_2_method_7_code 32 = .ok (.getfield 93, 3) := by decide +kernel
theorem dK_findType_35 : decode prog_2_method_7_code 35 = .ok (.iload_n 1, 1) := by decide +kernel
theorem dK_findType_36 : decode prog_2_method_7_code 36 = .ok (.iaload, 1) := by decide +kernel
theorem dK_findType_37 : decode prog_2_method_7_code 37 = .ok (.lookupswitch 290 #[(35, 99), (44, 186), (47, 169), (58, 159), (63, 131), (64, 253), (100, 242), (103, 207), (110, 196), (112, 226), (118, 101)], 99) := by decide +kernel
theorem dK_findType_136 : decode prog_2_method_7_code 136 = .ok (.iconst 1, 1) := by decide +kernel
theorem dK_findType_137 : decode prog_2_method_7_code 137 = .ok (.ireturn, 1) := by decide +kernel
theorem dK_findType_138 : decode prog_2_method_7_code 138 = .ok (.aload_n 0, 1) := by decide +kernel
theorem dK_findType_139 : decode prog_2_method_7_code 139 = .ok (.getfield 12, 3) := by decide +kernel
theorem dK_findType_142 : decode prog_2_method_7_code 142 = .ok (.aload_n 0, 1) := by decide +kernel
theorem dK_findType_143 : decode prog_2_method_7_code 143 = .ok (.aload_n 0, 1) := by decide +kernel
theorem dK_findType_144 : decode prog_2_method_7_code 144 = .ok (.getfield 57, 3) := by decide +kernel
theorem dK_findType_147 : decode prog_2_method_7_code 147 = .ok (.getfield 96, 3) := by decide +kernel
theorem dK_findType_150 : decode prog_2_method_7_code 150 = .ok (.iload_n 1, 1) := by decide +kernel
theorem dK_findType_151 : decode prog_2_method_7_code 151 = .ok (.iaload, 1) := by decide +kernel
theorem dK_findType_152 : decode prog_2_method_7_code 152 = .ok (.invokevirtual 99, 3) := by decide +kernel
theorem dK_findType_155 : decode prog_2_method_7_code 155 = .ok (.aload_n 0, 1) := by decide +kernel
theorem dK_findType_156 : decode prog_2_method_7_code 156 = .ok (.getfield 57, 3) := by decide +kernel
theorem dK_findType_159 : decode prog_2_method_7_code 159 = .ok (.getfield 102, 3) := by decide +kernel
theorem dK_findType_162 : decode prog_2_method_7_code 162 = .ok (.iload_n 1, 1) := by decide +kernel
theorem dK_findType_163 : decode prog_2_method_7_code 163 = .ok (.iaload, 1) := by decide +kernel
theorem dK_findType_164 : decode prog_2_method_7_code 164 = .ok (.invokevirtual 105, 3) := by decide +kernel
theorem dK_findType_167 : decode prog_2_method_7_code 167 = .ok (.ireturn, 1) := by decide +kernel
theorem dK_findType_168 : decode prog_2_method_7_code 168 = .ok (.iload_n 2, 1) := by decide +kernel
theorem dK_findType_169 : decode prog_2_method_7_code 169 = .ok (.iconst 1, 1) := by decide +kernel
theorem dK_findType_170 : decode prog_2_method_7_code 170 = .ok (.if_icmp .ne 24, 3) := by decide +kernel
theorem dK_findType_173 : decode prog_2_method_7_code 173 = .ok (.iload_n 3, 1) := by decide +kernel
theorem dK_findType_174 : decode prog_2_method_7_code 174 = .ok (.aload_n 0, 1) := by decide +kernel
theorem dK_findType_175 : decode prog_2_method_7_code 175 = .ok (.aload_n 0, 1) := by decide +kernel
theorem dK_findType_176 : decode prog_2_method_7_code 176 = .ok (.getfield 57, 3) := by decide +kernel
theorem dK_findType_179 : decode prog_2_method_7_code 179 = .ok (.getfield 109, 3) := by decide +kernel
theorem dK_findType_182 : decode prog_2_method_7_code 182 = .ok (.iload_n 1, 1) := by decide +kernel
theorem dK_findType_183 : decode prog_2_method_7_code 183 = .ok (.iaload, 1) := by decide +kernel
theorem dK_findType_184 : decode prog_2_method_7_code 184 = .ok (.invokevirtual 71, 3) := by decide +kernel
theorem dK_findType_187 : decode prog_2_method_7_code 187 = .ok (.if_icmp .ne 7, 3) := by decide +kernel
theorem dK_findType_190 : decode prog_2_method_7_code 190 = .ok (.iload_n 3, 1) := by decide +kernel
theorem dK_findType_191 : decode prog_2_method_7_code 191 = .ok (.goto 4, 3) := by decide +kernel
theorem dK_findType_194 : decode prog_2_method_7_code 194 = .ok (.iconst 0, 1) := by decide +kernel
theorem dK_findType_195 : decode prog_2_method_7_code 195 = .ok (.ireturn, 1) := by decide +kernel
theorem dK_findType_196 : decode prog_2_method_7_code 196 = .ok (.iload_n 2, 1) := by decide +kernel
theorem dK_findType_197 : decode prog_2_method_7_code 197 = .ok (.ifCond .eq 7, 3) := by decide +kernel
theorem dK_findType_200 : decode prog_2_method_7_code 200 = .ok (.iload_n 3, 1) := by decide +kernel
theorem dK_findType_201 : decode prog_2_method_7_code 201 = .ok (.goto 4, 3) := by decide +kernel
theorem dK_findType_204 : decode prog_2_method_7_code 204 = .ok (.iconst 0, 1) := by decide +kernel
theorem dK_findType_205 : decode prog_2_method_7_code 205 = .ok (.ireturn, 1) := by decide +kernel
theorem dK_findType_206 : decode prog_2_method_7_code 206 = .ok (.aload_n 0, 1) := by decide +kernel
theorem dK_findType_207 : decode prog_2_method_7_code 207 = .ok (.getfield 12, 3) := by decide +kernel
theorem dK_findType_210 : decode prog_2_method_7_code 210 = .ok (.iload_n 2, 1) := by decide +kernel
theorem dK_findType_211 : decode prog_2_method_7_code 211 = .ok (.invokevirtual 112, 3) := by decide +kernel
theorem dK_findType_214 : decode prog_2_method_7_code 214 = .ok (.ifCond .eq 7, 3) := by decide +kernel
theorem dK_findType_217 : decode prog_2_method_7_code 217 = .ok (.iload_n 3, 1) := by decide +kernel
theorem dK_findType_218 : decode prog_2_method_7_code 218 = .ok (.goto 4, 3) := by decide +kernel
theorem dK_findType_221 : decode prog_2_method_7_code 221 = .ok (.iconst 0, 1) := by decide +kernel
theorem dK_findType_222 : decode prog_2_method_7_code 222 = .ok (.ireturn, 1) := by decide +kernel
theorem dK_findType_223 : decode prog_2_method_7_code 223 = .ok (.aload_n 0, 1) := by decide +kernel
theorem dK_findType_224 : decode prog_2_method_7_code 224 = .ok (.getfield 12, 3) := by decide +kernel
theorem dK_findType_227 : decode prog_2_method_7_code 227 = .ok (.iload_n 2, 1) := by decide +kernel
theorem dK_findType_228 : decode prog_2_method_7_code 228 = .ok (.iload_n 3, 1) := by decide +kernel
theorem dK_findType_229 : decode prog_2_method_7_code 229 = .ok (.invokevirtual 116, 3) := by decide +kernel
theorem dK_findType_232 : decode prog_2_method_7_code 232 = .ok (.ireturn, 1) := by decide +kernel
theorem dK_findType_233 : decode prog_2_method_7_code 233 = .ok (.iload_n 2, 1) := by decide +kernel
theorem dK_findType_234 : decode prog_2_method_7_code 234 = .ok (.iconst 1, 1) := by decide +kernel
theorem dK_findType_235 : decode prog_2_method_7_code 235 = .ok (.if_icmp .ne 7, 3) := by decide +kernel
theorem dK_findType_238 : decode prog_2_method_7_code 238 = .ok (.iconst 2, 1) := by decide +kernel
theorem dK_findType_239 : decode prog_2_method_7_code 239 = .ok (.goto 4, 3) := by decide +kernel
theorem dK_findType_242 : decode prog_2_method_7_code 242 = .ok (.iconst 0, 1) := by decide +kernel
theorem dK_findType_243 : decode prog_2_method_7_code 243 = .ok (.ireturn, 1) := by decide +kernel
theorem dK_findType_244 : decode prog_2_method_7_code 244 = .ok (.iload_n 2, 1) := by decide +kernel
theorem dK_findType_245 : decode prog_2_method_7_code 245 = .ok (.iconst 2, 1) := by decide +kernel
theorem dK_findType_246 : decode prog_2_method_7_code 246 = .ok (.if_icmp .ne 15, 3) := by decide +kernel
theorem dK_findType_249 : decode prog_2_method_7_code 249 = .ok (.aload_n 0, 1) := by decide +kernel
theorem dK_findType_250 : decode prog_2_method_7_code 250 = .ok (.getfield 12, 3) := by decide +kernel
theorem dK_findType_253 : decode prog_2_method_7_code 253 = .ok (.iconst 1, 1) := by decide +kernel
theorem dK_findType_254 : decode prog_2_method_7_code 254 = .ok (.iconst 2, 1) := by decide +kernel
theorem dK_findType_255 : decode prog_2_method_7_code 255 = .ok (.invokevirtual 116, 3) := by decide +kernel
theorem dK_findType_258 : decode prog_2_method_7_code 258 = .ok (.goto 4, 3) := by decide +kernel
theorem dK_findType_261 : decode prog_2_method_7_code 261 = .ok (.iconst 0, 1) := by decide +kernel
theorem dK_findType_262 : decode prog_2_method_7_code 262 = .ok (.ireturn, 1) := by decide +kernel
theorem dK_findType_263 : decode prog_2_method_7_code 263 = .ok (.iload_n 2, 1) := by decide +kernel
theorem dK_findType_264 : decode prog_2_method_7_code 264 = .ok (.iconst 2, 1) := by decide +kernel
theorem dK_findType_265 : decode prog_2_method_7_code 265 = .ok (.if_icmp .ne 12, 3) := by decide +kernel
theorem dK_findType_268 : decode prog_2_method_7_code 268 = .ok (.iload_n 3, 1) := by decide +kernel
theorem dK_findType_269 : decode prog_2_method_7_code 269 = .ok (.iconst 1, 1) := by decide +kernel
theorem dK_findType_270 : decode prog_2_method_7_code 270 = .ok (.if_icmp .ne 7, 3) := by decide +kernel
theorem dK_findType_273 : decode prog_2_method_7_code 273 = .ok (.iconst 2, 1) := by decide +kernel
theorem dK_findType_274 : decode prog_2_method_7_code 274 = .ok (.goto 4, 3) := by decide +kernel
theorem dK_findType_277 : decode prog_2_method_7_code 277 = .ok (.iconst 0, 1) := by decide +kernel
theorem dK_findType_278 : decode prog_2_method_7_code 278 = .ok (.ireturn, 1) := by decide +kernel
theorem dK_findType_279 : decode prog_2_method_7_code 279 = .ok (.iload_n 2, 1) := by decide +kernel
theorem dK_findType_280 : decode prog_2_method_7_code 280 = .ok (.iconst 2, 1) := by decide +kernel
theorem dK_findType_281 : decode prog_2_method_7_code 281 = .ok (.if_icmp .ne 7, 3) := by decide +kernel
theorem dK_findType_284 : decode prog_2_method_7_code 284 = .ok (.iconst 1, 1) := by decide +kernel
theorem dK_findType_285 : decode prog_2_method_7_code 285 = .ok (.goto 4, 3) := by decide +kernel
theorem dK_findType_288 : decode prog_2_method_7_code 288 = .ok (.iconst 0, 1) := by decide +kernel
theorem dK_findType_289 : decode prog_2_method_7_code 289 = .ok (.ireturn, 1) := by decide +kernel
theorem dK_findType_290 : decode prog_2_method_7_code 290 = .ok (.iload_n 2, 1) := by decide +kernel
theorem dK_findType_291 : decode prog_2_method_7_code 291 = .ok (.aload_n 0, 1) := by decide +kernel
theorem dK_findType_292 : decode prog_2_method_7_code 292 = .ok (.getfield 18, 3) := by decide +kernel
theorem dK_findType_295 : decode prog_2_method_7_code 295 = .ok (.aload_n 0, 1) := by decide +kernel
theorem dK_findType_296 : decode prog_2_method_7_code 296 = .ok (.getfield 57, 3) := by decide +kernel
theorem dK_findType_299 : decode prog_2_method_7_code 299 = .ok (.getfield 102, 3) := by decide +kernel
theorem dK_findType_302 : decode prog_2_method_7_code 302 = .ok (.iload_n 1, 1) := by decide +kernel
theorem dK_findType_303 : decode prog_2_method_7_code 303 = .ok (.iaload, 1) := by decide +kernel
theorem dK_findType_304 : decode prog_2_method_7_code 304 = .ok (.iaload, 1) := by decide +kernel
theorem dK_findType_305 : decode prog_2_method_7_code 305 = .ok (.if_icmp .ne 20, 3) := by decide +kernel
theorem dK_findType_308 : decode prog_2_method_7_code 308 = .ok (.aload_n 0, 1) := by decide +kernel
theorem dK_findType_309 : decode prog_2_method_7_code 309 = .ok (.getfield 22, 3) := by decide +kernel
theorem dK_findType_312 : decode prog_2_method_7_code 312 = .ok (.aload_n 0, 1) := by decide +kernel
theorem dK_findType_313 : decode prog_2_method_7_code 313 = .ok (.getfield 57, 3) := by decide +kernel
theorem dK_findType_316 : decode prog_2_method_7_code 316 = .ok (.getfield 102, 3) := by decide +kernel
theorem dK_findType_319 : decode prog_2_method_7_code 319 = .ok (.iload_n 1, 1) := by decide +kernel
theorem dK_findType_320 : decode prog_2_method_7_code 320 = .ok (.iaload, 1) := by decide +kernel
theorem dK_findType_321 : decode prog_2_method_7_code 321 = .ok (.iaload, 1) := by decide +kernel
theorem dK_findType_322 : decode prog_2_method_7_code 322 = .ok (.goto 4, 3) := by decide +kernel
theorem dK_findType_325 : decode prog_2_method_7_code 325 = .ok (.iconst 0, 1) := by decide +kernel
theorem dK_findType_326 : decode prog_2_method_7_code 326 = .ok (.ireturn, 1) := by decide +kernel
theorem dK_findType_327 : decode prog_2_method_7_code 327 = .ok (.iload_n 2, 1) := by decide +kernel
theorem dK_findType_328 : decode prog_2_method_7_code 328 = .ok (.iconst 1, 1) := by decide +kernel
theorem dK_findType_329 : decode prog_2_method_7_code 329 = .ok (.if_icmp .ne 12, 3) := by decide +kernel
theorem dK_findType_332 : decode prog_2_method_7_code 332 = .ok (.iload_n 3, 1) := by decide +kernel
theorem dK_findType_333 : decode prog_2_method_7_code 333 = .ok (.iconst 1, 1) := by decide +kernel
theorem dK_findType_334 : decode prog_2_method_7_code 334 = .ok (.if_icmp .ne 7, 3) := by decide +kernel
theorem dK_findType_337 : decode prog_2_method_7_code 337 = .ok (.iconst 1, 1) := by decide +kernel
theorem dK_findType_338 : decode prog_2_method_7_code 338 = .ok (.goto 4, 3) := by decide +kernel
theorem dK_findType_341 : decode prog_2_method_7_code 341 = .ok (.iconst 0, 1) := by decide +kernel
theorem dK_findType_342 : decode prog_2_method_7_code 342 = .ok (.ireturn, 1) := by decide +kernel
def fK_findType_341 (z : lc_S) : Option ((Int32) × lc_S) :=
  some (0, z)
def fK_findType_277 (z : lc_S) : Option ((Int32) × lc_S) :=
  some (0, z)
def fK_findType_194 (z : lc_S) : Option ((Int32) × lc_S) :=
  some (0, z)
def fK_findType (a1 : Int32) (z : lc_S) : Option ((Int32) × lc_S) :=
  lc_bnr (lcR z 8 4) (fun q2 => lc_chk (lc_sh q2 = (0, 1, 0)) (lc_chk (lc_in a1 120) (lc_bnd (fK_typeOfPart (lcI z (q2 + 3) a1.toNatClampNeg) z) (fun r10 z10 => lc_bnr (lcR z10 8 4) (fun q16 => lc_chk (lc_sh q16 = (0, 1, 0)) (lc_chk (lc_in a1 120) (lc_bnd (fK_typeOfPart (lcI z10 (q16 + 4) a1.toNatClampNeg) z10) (fun r24 z24 => lc_bnr (lcR z24 8 4) (fun q29 => lc_chk (lc_sh q29 = (0, 1, 0)) (lc_chk (lc_in a1 120) (if (lcI z24 (q29 + 2) a1.toNatClampNeg) = 35 then (some (1, z24)) else (if (lcI z24 (q29 + 2) a1.toNatClampNeg) = 44 then (lc_bnd (fT_pairOf r10 r24 z24) (fun r229 z229 => some (r229, z229))) else (if (lcI z24 (q29 + 2) a1.toNatClampNeg) = 47 then (lc_bnd (fT_isPair r10 z24) (fun r211 z211 => if r211 = 0 then (some (0, z211)) else (some (r24, z211)))) else (if (lcI z24 (q29 + 2) a1.toNatClampNeg) = 58 then (if r10 = 0 then (some (0, z24)) else (some (r24, z24))) else (if (lcI z24 (q29 + 2) a1.toNatClampNeg) = 63 then (if r10 = 1 then (lc_bnr (lcR z24 8 4) (fun q176 => lc_chk (lc_sh q176 = (0, 1, 0)) (lc_chk (lc_in a1 120) (lc_bnd (fK_typeOfPart (lcI z24 (q176 + 5) a1.toNatClampNeg) z24) (fun r184 z184 => if r24 = r184 then (some (r24, z184)) else (fK_findType_194 z184)))))) else (fK_findType_194 z24)) else (if (lcI z24 (q29 + 2) a1.toNatClampNeg) = 64 then (lc_bnr (lcR z24 8 4) (fun q296 => lc_chk (lc_sh q296 = (0, 1, 0)) (lc_chk (lc_in a1 120) (lc_chk (lc_in (lcI z24 (q296 + 6) a1.toNatClampNeg) 4) (if r10 = (lcI z24 15 (lcI z24 (q296 + 6) a1.toNatClampNeg).toNatClampNeg) then (lc_bnr (lcR z24 8 4) (fun q313 => lc_chk (lc_sh q313 = (0, 1, 0)) (lc_chk (lc_in a1 120) (lc_chk (lc_in (lcI z24 (q313 + 6) a1.toNatClampNeg) 4) (some (lcI z24 16 (lcI z24 (q313 + 6) a1.toNatClampNeg).toNatClampNeg, z24)))))) else (some (0, z24))))))) else (if (lcI z24 (q29 + 2) a1.toNatClampNeg) = 100 then (if r10 = 2 then (some (1, z24)) else (some (0, z24))) else (if (lcI z24 (q29 + 2) a1.toNatClampNeg) = 103 then (if r10 = 2 then (lc_bnd (fT_pairOf 1 2 z24) (fun r255 z255 => some (r255, z255))) else (some (0, z24))) else (if (lcI z24 (q29 + 2) a1.toNatClampNeg) = 110 then (if r10 = 1 then (some (2, z24)) else (some (0, z24))) else (if (lcI z24 (q29 + 2) a1.toNatClampNeg) = 112 then (if r10 = 2 then (if r24 = 1 then (some (2, z24)) else (fK_findType_277 z24)) else (fK_findType_277 z24)) else (if (lcI z24 (q29 + 2) a1.toNatClampNeg) = 118 then (lc_bnr (lcR z24 8 4) (fun q144 => lc_chk (lc_sh q144 = (0, 1, 0)) (lc_chk (lc_in a1 120) (lc_bnd (fK_typeOfBound (lcI z24 (q144 + 7) a1.toNatClampNeg) z24) (fun r152 z152 => lc_bnr (lcR z152 8 4) (fun q156 => lc_chk (lc_sh q156 = (0, 1, 0)) (lc_chk (lc_in a1 120) (lc_bnd (fT_partOf r152 (lcI z152 (q156 + 6) a1.toNatClampNeg) z152) (fun r164 z164 => some (r164, z164)))))))))) else (if r10 = 1 then (if r24 = 1 then (some (1, z24)) else (fK_findType_341 z24)) else (fK_findType_341 z24)))))))))))))))))))))))
set_option maxHeartbeats 4000000 in
set_option maxRecDepth 100000 in
theorem bK_findType_341 {p : Program} {l : Launch} {e : Env} {s : State} {m : MethodId} {args : Array Value} {below : List Frame} {meth : Method} {c : Code} {G : lc_G} (hx : p.tables.exec = Jvm.exec) (hb : c.code = prog_2_method_7_code) (hml : c.maxLocals = 4) (hr : meth.sig.returnType = (some .int)) (hlocks : meth.locks = false) (hown : s.vm.findClass "LinearCells$Checker" = some m.cls) (hts : ∀ w ∈ lc_ALL, w.before args s = true) (hE : lc_E G s) {r : Int32} {z' : lc_S} : ∀ {z : lc_S} {H : Heap} {locs : List Loc} {ls : Array Slot}, fK_findType_341 z = some (r, z') → lv_has ls 4 [] → lc_H G z s.heap H locs → W p l e (lc_rm 2) s m args below meth c H locs 0 0 (MQ below (lc_Q G (some (.int r)) z') args s 0 0 (lc_A G)) (F0 m 341 ls []) := by
  intro z H locs ls hf hl hH
  rw [fK_findType_341] at hf
  refine lv_iconst (v := 0) hx hb dK_findType_341 (by decide) ?_
  exact lc_iret hx hb hr hlocks hH hf dK_findType_342
set_option maxHeartbeats 4000000 in
set_option maxRecDepth 100000 in
theorem bK_findType_277 {p : Program} {l : Launch} {e : Env} {s : State} {m : MethodId} {args : Array Value} {below : List Frame} {meth : Method} {c : Code} {G : lc_G} (hx : p.tables.exec = Jvm.exec) (hb : c.code = prog_2_method_7_code) (hml : c.maxLocals = 4) (hr : meth.sig.returnType = (some .int)) (hlocks : meth.locks = false) (hown : s.vm.findClass "LinearCells$Checker" = some m.cls) (hts : ∀ w ∈ lc_ALL, w.before args s = true) (hE : lc_E G s) {r : Int32} {z' : lc_S} : ∀ {z : lc_S} {H : Heap} {locs : List Loc} {ls : Array Slot}, fK_findType_277 z = some (r, z') → lv_has ls 4 [] → lc_H G z s.heap H locs → W p l e (lc_rm 2) s m args below meth c H locs 0 0 (MQ below (lc_Q G (some (.int r)) z') args s 0 0 (lc_A G)) (F0 m 277 ls []) := by
  intro z H locs ls hf hl hH
  rw [fK_findType_277] at hf
  refine lv_iconst (v := 0) hx hb dK_findType_277 (by decide) ?_
  exact lc_iret hx hb hr hlocks hH hf dK_findType_278
set_option maxHeartbeats 4000000 in
set_option maxRecDepth 100000 in
theorem bK_findType_194 {p : Program} {l : Launch} {e : Env} {s : State} {m : MethodId} {args : Array Value} {below : List Frame} {meth : Method} {c : Code} {G : lc_G} (hx : p.tables.exec = Jvm.exec) (hb : c.code = prog_2_method_7_code) (hml : c.maxLocals = 4) (hr : meth.sig.returnType = (some .int)) (hlocks : meth.locks = false) (hown : s.vm.findClass "LinearCells$Checker" = some m.cls) (hts : ∀ w ∈ lc_ALL, w.before args s = true) (hE : lc_E G s) {r : Int32} {z' : lc_S} : ∀ {z : lc_S} {H : Heap} {locs : List Loc} {ls : Array Slot}, fK_findType_194 z = some (r, z') → lv_has ls 4 [] → lc_H G z s.heap H locs → W p l e (lc_rm 2) s m args below meth c H locs 0 0 (MQ below (lc_Q G (some (.int r)) z') args s 0 0 (lc_A G)) (F0 m 194 ls []) := by
  intro z H locs ls hf hl hH
  rw [fK_findType_194] at hf
  refine lv_iconst (v := 0) hx hb dK_findType_194 (by decide) ?_
  exact lc_iret hx hb hr hlocks hH hf dK_findType_195
set_option maxHeartbeats 4000000 in
set_option maxRecDepth 100000 in
theorem cK_findType (l : Launch) (G : lc_G) {a1 : Int32} {r : Int32} {z z' : lc_S} (hf : fK_findType a1 z = some (r, z')) : lc_M l G yK_findType wK_findType 2 [.ref (lc_ad G 8), .int a1] z (some (.int r)) z' := by
  refine lc_M_of (cc := prog_2_method_7_code) (maxL := 4) (ret := (some .int)) (own := "LinearCells$Checker") (by decide) rfl (fun w h => List.mem_cons_of_mem _ h) (Nat.le_of_ble_eq_true rfl) rfl ?_
  intro p e s m below meth c hx hb hml hr hlocks hown hts hE ls hl hH
  replace hl : lv_has ls 4 [(0, .ref (lc_ad G 8)), (1, .int a1)] := hl
  rw [fK_findType] at hf
  refine lv_aload_n hx hb dK_findType_0 rfl (lv_at hl 0 rfl) ?_
  refine lv_aload_n hx hb dK_findType_1 rfl (lv_at hl 0 rfl) ?_
  obtain ⟨q2, hq2, hf⟩ := lc_bnr_some hf
  refine lc_getr hx hb hts hown hE hH flK_57 lc_h8 rfl hq2 dK_findType_2 ?_
  obtain ⟨hs5_0, hf⟩ := lc_chk_some hf
  refine lc_getf (d := 3) (q := q2 + 3) hx hb hts hown hE hH flK_87 hs5_0 rfl rfl dK_findType_5 ?_
  refine lv_iload_n hx hb dK_findType_8 rfl (lv_at hl 1 rfl) ?_
  obtain ⟨hi9, hf⟩ := lc_chk_some hf
  refine lc_iald hx hb hE hH (lc_pr3 hs5_0) rfl hi9 dK_findType_9 ?_
  obtain ⟨r10, z10, h10, hf⟩ := lc_bnd_some hf
  refine lc_calli (va_runV (As := [.int (lcI z (q2 + 3) a1.toNatClampNeg)]) (rest := []) ⟨hx, hb, hml, hown, hts⟩ (cK_typeOfPart l G h10) (lc_cwV hts kvK_71 (lc_room (by decide) (by decide))) (lc_preV hE hH lc_h8 rfl _) rfl rfl hl.1 rfl (lv_room (Nat.le_of_ble_eq_true rfl)) dK_findType_10 ⟨Nat.zero_le _, Nat.zero_le _⟩) hH (fun H locs hH => ?_)
  refine lv_istore_n hx hb dK_findType_13 rfl hl (by decide) rfl (fun ls hl => ?_)
  replace hl : lv_has ls 4 [(2, .int r10), (0, .ref (lc_ad G 8)), (1, .int a1)] := hl
  refine lv_aload_n hx hb dK_findType_14 rfl (lv_at hl 1 rfl) ?_
  refine lv_aload_n hx hb dK_findType_15 rfl (lv_at hl 1 rfl) ?_
  obtain ⟨q16, hq16, hf⟩ := lc_bnr_some hf
  refine lc_getr hx hb hts hown hE hH flK_57 lc_h8 rfl hq16 dK_findType_16 ?_
  obtain ⟨hs19_0, hf⟩ := lc_chk_some hf
  refine lc_getf (d := 4) (q := q16 + 4) hx hb hts hown hE hH flK_90 hs19_0 rfl rfl dK_findType_19 ?_
  refine lv_iload_n hx hb dK_findType_22 rfl (lv_at hl 2 rfl) ?_
  obtain ⟨hi23, hf⟩ := lc_chk_some hf
  refine lc_iald hx hb hE hH (lc_pr4 hs19_0) rfl hi23 dK_findType_23 ?_
  obtain ⟨r24, z24, h24, hf⟩ := lc_bnd_some hf
  refine lc_calli (va_runV (As := [.int (lcI z10 (q16 + 4) a1.toNatClampNeg)]) (rest := []) ⟨hx, hb, hml, hown, hts⟩ (cK_typeOfPart l G h24) (lc_cwV hts kvK_71 (lc_room (by decide) (by decide))) (lc_preV hE hH lc_h8 rfl _) rfl rfl hl.1 rfl (lv_room (Nat.le_of_ble_eq_true rfl)) dK_findType_24 ⟨Nat.zero_le _, Nat.zero_le _⟩) hH (fun H locs hH => ?_)
  refine lv_istore_n hx hb dK_findType_27 rfl hl (by decide) rfl (fun ls hl => ?_)
  replace hl : lv_has ls 4 [(3, .int r24), (2, .int r10), (0, .ref (lc_ad G 8)), (1, .int a1)] := hl
  refine lv_aload_n hx hb dK_findType_28 rfl (lv_at hl 2 rfl) ?_
  obtain ⟨q29, hq29, hf⟩ := lc_bnr_some hf
  refine lc_getr hx hb hts hown hE hH flK_57 lc_h8 rfl hq29 dK_findType_29 ?_
  obtain ⟨hs32_0, hf⟩ := lc_chk_some hf
  refine lc_getf (d := 2) (q := q29 + 2) hx hb hts hown hE hH flK_93 hs32_0 rfl rfl dK_findType_32 ?_
  refine lv_iload_n hx hb dK_findType_35 rfl (lv_at hl 3 rfl) ?_
  obtain ⟨hi36, hf⟩ := lc_chk_some hf
  refine lc_iald hx hb hE hH (lc_pr2 hs32_0) rfl hi36 dK_findType_36 ?_
  by_cases hc35 : (lcI z24 (q29 + 2) a1.toNatClampNeg) = 35
  · replace hf := lc_ite_pos hc35 hf
    refine lv_lookup (tgt := 136) (off := 99) hx hb dK_findType_37 (by decide) (by rw [hc35] <;> rfl) (by decide) ?_
    refine lv_iconst (v := 1) hx hb dK_findType_136 (by decide) ?_
    exact lc_iret hx hb hr hlocks hH hf dK_findType_137
  replace hf := lc_ite_neg hc35 hf
  by_cases hc44 : (lcI z24 (q29 + 2) a1.toNatClampNeg) = 44
  · replace hf := lc_ite_pos hc44 hf
    refine lv_lookup (tgt := 223) (off := 186) hx hb dK_findType_37 (by decide) (by rw [hc44] <;> rfl) (by decide) ?_
    refine lv_aload_n hx hb dK_findType_223 rfl (lv_at hl 2 rfl) ?_
    refine lc_getf (d := 1) (q := 9) hx hb hts hown hE hH flK_12 lc_h8 rfl rfl dK_findType_224 ?_
    refine lv_iload_n hx hb dK_findType_227 rfl (lv_at hl 1 rfl) ?_
    refine lv_iload_n hx hb dK_findType_228 rfl (lv_at hl 0 rfl) ?_
    obtain ⟨r229, z229, h229, hf⟩ := lc_bnd_some hf
    refine lc_calli (va_runV (As := [.int r10, .int r24]) (rest := []) ⟨hx, hb, hml, hown, hts⟩ (cT_pairOf l G h229) (lc_cwV hts kvK_116 (lc_room (by decide) (by decide))) (lc_preV hE hH lc_h9 rfl _) rfl rfl hl.1 rfl (lv_room (Nat.le_of_ble_eq_true rfl)) dK_findType_229 ⟨Nat.zero_le _, Nat.zero_le _⟩) hH (fun H locs hH => ?_)
    exact lc_iret hx hb hr hlocks hH hf dK_findType_232
  replace hf := lc_ite_neg hc44 hf
  by_cases hc47 : (lcI z24 (q29 + 2) a1.toNatClampNeg) = 47
  · replace hf := lc_ite_pos hc47 hf
    refine lv_lookup (tgt := 206) (off := 169) hx hb dK_findType_37 (by decide) (by rw [hc47] <;> rfl) (by decide) ?_
    refine lv_aload_n hx hb dK_findType_206 rfl (lv_at hl 2 rfl) ?_
    refine lc_getf (d := 1) (q := 9) hx hb hts hown hE hH flK_12 lc_h8 rfl rfl dK_findType_207 ?_
    refine lv_iload_n hx hb dK_findType_210 rfl (lv_at hl 1 rfl) ?_
    obtain ⟨r211, z211, h211, hf⟩ := lc_bnd_some hf
    refine lc_calli (va_runV (As := [.int r10]) (rest := []) ⟨hx, hb, hml, hown, hts⟩ (cT_isPair l G h211) (lc_cwV hts kvK_112 (lc_room (by decide) (by decide))) (lc_preV hE hH lc_h9 rfl _) rfl rfl hl.1 rfl (lv_room (Nat.le_of_ble_eq_true rfl)) dK_findType_211 ⟨Nat.zero_le _, Nat.zero_le _⟩) hH (fun H locs hH => ?_)
    refine lv_if_eq (tgt := 221) hx hb dK_findType_214 (by decide) (fun hc => ?_) (fun hc => ?_)
    · replace hf := lc_ite_pos hc hf
      refine lv_iconst (v := 0) hx hb dK_findType_221 (by decide) ?_
      exact lc_iret hx hb hr hlocks hH hf dK_findType_222
    · replace hf := lc_ite_neg hc hf
      refine lv_iload_n hx hb dK_findType_217 rfl (lv_at hl 0 rfl) ?_
      refine lv_goto (tgt := 222) hx hb dK_findType_218 (by decide) ?_
      exact lc_iret hx hb hr hlocks hH hf dK_findType_222
  replace hf := lc_ite_neg hc47 hf
  by_cases hc58 : (lcI z24 (q29 + 2) a1.toNatClampNeg) = 58
  · replace hf := lc_ite_pos hc58 hf
    refine lv_lookup (tgt := 196) (off := 159) hx hb dK_findType_37 (by decide) (by rw [hc58] <;> rfl) (by decide) ?_
    refine lv_iload_n hx hb dK_findType_196 rfl (lv_at hl 1 rfl) ?_
    refine lv_if_eq (tgt := 204) hx hb dK_findType_197 (by decide) (fun hc => ?_) (fun hc => ?_)
    · replace hf := lc_ite_pos hc hf
      refine lv_iconst (v := 0) hx hb dK_findType_204 (by decide) ?_
      exact lc_iret hx hb hr hlocks hH hf dK_findType_205
    · replace hf := lc_ite_neg hc hf
      refine lv_iload_n hx hb dK_findType_200 rfl (lv_at hl 0 rfl) ?_
      refine lv_goto (tgt := 205) hx hb dK_findType_201 (by decide) ?_
      exact lc_iret hx hb hr hlocks hH hf dK_findType_205
  replace hf := lc_ite_neg hc58 hf
  by_cases hc63 : (lcI z24 (q29 + 2) a1.toNatClampNeg) = 63
  · replace hf := lc_ite_pos hc63 hf
    refine lv_lookup (tgt := 168) (off := 131) hx hb dK_findType_37 (by decide) (by rw [hc63] <;> rfl) (by decide) ?_
    refine lv_iload_n hx hb dK_findType_168 rfl (lv_at hl 1 rfl) ?_
    refine lv_iconst (v := 1) hx hb dK_findType_169 (by decide) ?_
    refine lv_icmp_ne (tgt := 194) hx hb dK_findType_170 (by decide) (fun hc => ?_) (fun hc => ?_)
    · replace hf := lc_ite_neg hc hf
      exact bK_findType_194 hx hb hml hr hlocks hown hts hE hf (lv_sub hl [] rfl) hH
    · replace hf := lc_ite_pos hc hf
      refine lv_iload_n hx hb dK_findType_173 rfl (lv_at hl 0 rfl) ?_
      refine lv_aload_n hx hb dK_findType_174 rfl (lv_at hl 2 rfl) ?_
      refine lv_aload_n hx hb dK_findType_175 rfl (lv_at hl 2 rfl) ?_
      obtain ⟨q176, hq176, hf⟩ := lc_bnr_some hf
      refine lc_getr hx hb hts hown hE hH flK_57 lc_h8 rfl hq176 dK_findType_176 ?_
      obtain ⟨hs179_0, hf⟩ := lc_chk_some hf
      refine lc_getf (d := 5) (q := q176 + 5) hx hb hts hown hE hH flK_109 hs179_0 rfl rfl dK_findType_179 ?_
      refine lv_iload_n hx hb dK_findType_182 rfl (lv_at hl 3 rfl) ?_
      obtain ⟨hi183, hf⟩ := lc_chk_some hf
      refine lc_iald hx hb hE hH (lc_pr5 hs179_0) rfl hi183 dK_findType_183 ?_
      obtain ⟨r184, z184, h184, hf⟩ := lc_bnd_some hf
      refine lc_calli (va_runV (As := [.int (lcI z24 (q176 + 5) a1.toNatClampNeg)]) (rest := [.int r24]) ⟨hx, hb, hml, hown, hts⟩ (cK_typeOfPart l G h184) (lc_cwV hts kvK_71 (lc_room (by decide) (by decide))) (lc_preV hE hH lc_h8 rfl _) rfl rfl hl.1 rfl (lv_room (Nat.le_of_ble_eq_true rfl)) dK_findType_184 ⟨Nat.zero_le _, Nat.zero_le _⟩) hH (fun H locs hH => ?_)
      refine lv_icmp_ne (tgt := 194) hx hb dK_findType_187 (by decide) (fun hc => ?_) (fun hc => ?_)
      · replace hf := lc_ite_neg hc hf
        exact bK_findType_194 hx hb hml hr hlocks hown hts hE hf (lv_sub hl [] rfl) hH
      · replace hf := lc_ite_pos hc hf
        refine lv_iload_n hx hb dK_findType_190 rfl (lv_at hl 0 rfl) ?_
        refine lv_goto (tgt := 195) hx hb dK_findType_191 (by decide) ?_
        exact lc_iret hx hb hr hlocks hH hf dK_findType_195
  replace hf := lc_ite_neg hc63 hf
  by_cases hc64 : (lcI z24 (q29 + 2) a1.toNatClampNeg) = 64
  · replace hf := lc_ite_pos hc64 hf
    refine lv_lookup (tgt := 290) (off := 253) hx hb dK_findType_37 (by decide) (by rw [hc64] <;> rfl) (by decide) ?_
    refine lv_iload_n hx hb dK_findType_290 rfl (lv_at hl 1 rfl) ?_
    refine lv_aload_n hx hb dK_findType_291 rfl (lv_at hl 2 rfl) ?_
    refine lc_getf (d := 7) (q := 15) hx hb hts hown hE hH flK_18 lc_h8 rfl rfl dK_findType_292 ?_
    refine lv_aload_n hx hb dK_findType_295 rfl (lv_at hl 2 rfl) ?_
    obtain ⟨q296, hq296, hf⟩ := lc_bnr_some hf
    refine lc_getr hx hb hts hown hE hH flK_57 lc_h8 rfl hq296 dK_findType_296 ?_
    obtain ⟨hs299_0, hf⟩ := lc_chk_some hf
    refine lc_getf (d := 6) (q := q296 + 6) hx hb hts hown hE hH flK_102 hs299_0 rfl rfl dK_findType_299 ?_
    refine lv_iload_n hx hb dK_findType_302 rfl (lv_at hl 3 rfl) ?_
    obtain ⟨hi303, hf⟩ := lc_chk_some hf
    refine lc_iald hx hb hE hH (lc_pr6 hs299_0) rfl hi303 dK_findType_303 ?_
    obtain ⟨hi304, hf⟩ := lc_chk_some hf
    refine lc_iald hx hb hE hH lc_h15 rfl hi304 dK_findType_304 ?_
    refine lv_icmp_ne (tgt := 325) hx hb dK_findType_305 (by decide) (fun hc => ?_) (fun hc => ?_)
    · replace hf := lc_ite_neg hc hf
      refine lv_iconst (v := 0) hx hb dK_findType_325 (by decide) ?_
      exact lc_iret hx hb hr hlocks hH hf dK_findType_326
    · replace hf := lc_ite_pos hc hf
      refine lv_aload_n hx hb dK_findType_308 rfl (lv_at hl 2 rfl) ?_
      refine lc_getf (d := 8) (q := 16) hx hb hts hown hE hH flK_22 lc_h8 rfl rfl dK_findType_309 ?_
      refine lv_aload_n hx hb dK_findType_312 rfl (lv_at hl 2 rfl) ?_
      obtain ⟨q313, hq313, hf⟩ := lc_bnr_some hf
      refine lc_getr hx hb hts hown hE hH flK_57 lc_h8 rfl hq313 dK_findType_313 ?_
      obtain ⟨hs316_0, hf⟩ := lc_chk_some hf
      refine lc_getf (d := 6) (q := q313 + 6) hx hb hts hown hE hH flK_102 hs316_0 rfl rfl dK_findType_316 ?_
      refine lv_iload_n hx hb dK_findType_319 rfl (lv_at hl 3 rfl) ?_
      obtain ⟨hi320, hf⟩ := lc_chk_some hf
      refine lc_iald hx hb hE hH (lc_pr6 hs316_0) rfl hi320 dK_findType_320 ?_
      obtain ⟨hi321, hf⟩ := lc_chk_some hf
      refine lc_iald hx hb hE hH lc_h16 rfl hi321 dK_findType_321 ?_
      refine lv_goto (tgt := 326) hx hb dK_findType_322 (by decide) ?_
      exact lc_iret hx hb hr hlocks hH hf dK_findType_326
  replace hf := lc_ite_neg hc64 hf
  by_cases hc100 : (lcI z24 (q29 + 2) a1.toNatClampNeg) = 100
  · replace hf := lc_ite_pos hc100 hf
    refine lv_lookup (tgt := 279) (off := 242) hx hb dK_findType_37 (by decide) (by rw [hc100] <;> rfl) (by decide) ?_
    refine lv_iload_n hx hb dK_findType_279 rfl (lv_at hl 1 rfl) ?_
    refine lv_iconst (v := 2) hx hb dK_findType_280 (by decide) ?_
    refine lv_icmp_ne (tgt := 288) hx hb dK_findType_281 (by decide) (fun hc => ?_) (fun hc => ?_)
    · replace hf := lc_ite_neg hc hf
      refine lv_iconst (v := 0) hx hb dK_findType_288 (by decide) ?_
      exact lc_iret hx hb hr hlocks hH hf dK_findType_289
    · replace hf := lc_ite_pos hc hf
      refine lv_iconst (v := 1) hx hb dK_findType_284 (by decide) ?_
      refine lv_goto (tgt := 289) hx hb dK_findType_285 (by decide) ?_
      exact lc_iret hx hb hr hlocks hH hf dK_findType_289
  replace hf := lc_ite_neg hc100 hf
  by_cases hc103 : (lcI z24 (q29 + 2) a1.toNatClampNeg) = 103
  · replace hf := lc_ite_pos hc103 hf
    refine lv_lookup (tgt := 244) (off := 207) hx hb dK_findType_37 (by decide) (by rw [hc103] <;> rfl) (by decide) ?_
    refine lv_iload_n hx hb dK_findType_244 rfl (lv_at hl 1 rfl) ?_
    refine lv_iconst (v := 2) hx hb dK_findType_245 (by decide) ?_
    refine lv_icmp_ne (tgt := 261) hx hb dK_findType_246 (by decide) (fun hc => ?_) (fun hc => ?_)
    · replace hf := lc_ite_neg hc hf
      refine lv_iconst (v := 0) hx hb dK_findType_261 (by decide) ?_
      exact lc_iret hx hb hr hlocks hH hf dK_findType_262
    · replace hf := lc_ite_pos hc hf
      refine lv_aload_n hx hb dK_findType_249 rfl (lv_at hl 2 rfl) ?_
      refine lc_getf (d := 1) (q := 9) hx hb hts hown hE hH flK_12 lc_h8 rfl rfl dK_findType_250 ?_
      refine lv_iconst (v := 1) hx hb dK_findType_253 (by decide) ?_
      refine lv_iconst (v := 2) hx hb dK_findType_254 (by decide) ?_
      obtain ⟨r255, z255, h255, hf⟩ := lc_bnd_some hf
      refine lc_calli (va_runV (As := [.int 1, .int 2]) (rest := []) ⟨hx, hb, hml, hown, hts⟩ (cT_pairOf l G h255) (lc_cwV hts kvK_116 (lc_room (by decide) (by decide))) (lc_preV hE hH lc_h9 rfl _) rfl rfl hl.1 rfl (lv_room (Nat.le_of_ble_eq_true rfl)) dK_findType_255 ⟨Nat.zero_le _, Nat.zero_le _⟩) hH (fun H locs hH => ?_)
      refine lv_goto (tgt := 262) hx hb dK_findType_258 (by decide) ?_
      exact lc_iret hx hb hr hlocks hH hf dK_findType_262
  replace hf := lc_ite_neg hc103 hf
  by_cases hc110 : (lcI z24 (q29 + 2) a1.toNatClampNeg) = 110
  · replace hf := lc_ite_pos hc110 hf
    refine lv_lookup (tgt := 233) (off := 196) hx hb dK_findType_37 (by decide) (by rw [hc110] <;> rfl) (by decide) ?_
    refine lv_iload_n hx hb dK_findType_233 rfl (lv_at hl 1 rfl) ?_
    refine lv_iconst (v := 1) hx hb dK_findType_234 (by decide) ?_
    refine lv_icmp_ne (tgt := 242) hx hb dK_findType_235 (by decide) (fun hc => ?_) (fun hc => ?_)
    · replace hf := lc_ite_neg hc hf
      refine lv_iconst (v := 0) hx hb dK_findType_242 (by decide) ?_
      exact lc_iret hx hb hr hlocks hH hf dK_findType_243
    · replace hf := lc_ite_pos hc hf
      refine lv_iconst (v := 2) hx hb dK_findType_238 (by decide) ?_
      refine lv_goto (tgt := 243) hx hb dK_findType_239 (by decide) ?_
      exact lc_iret hx hb hr hlocks hH hf dK_findType_243
  replace hf := lc_ite_neg hc110 hf
  by_cases hc112 : (lcI z24 (q29 + 2) a1.toNatClampNeg) = 112
  · replace hf := lc_ite_pos hc112 hf
    refine lv_lookup (tgt := 263) (off := 226) hx hb dK_findType_37 (by decide) (by rw [hc112] <;> rfl) (by decide) ?_
    refine lv_iload_n hx hb dK_findType_263 rfl (lv_at hl 1 rfl) ?_
    refine lv_iconst (v := 2) hx hb dK_findType_264 (by decide) ?_
    refine lv_icmp_ne (tgt := 277) hx hb dK_findType_265 (by decide) (fun hc => ?_) (fun hc => ?_)
    · replace hf := lc_ite_neg hc hf
      exact bK_findType_277 hx hb hml hr hlocks hown hts hE hf (lv_sub hl [] rfl) hH
    · replace hf := lc_ite_pos hc hf
      refine lv_iload_n hx hb dK_findType_268 rfl (lv_at hl 0 rfl) ?_
      refine lv_iconst (v := 1) hx hb dK_findType_269 (by decide) ?_
      refine lv_icmp_ne (tgt := 277) hx hb dK_findType_270 (by decide) (fun hc => ?_) (fun hc => ?_)
      · replace hf := lc_ite_neg hc hf
        exact bK_findType_277 hx hb hml hr hlocks hown hts hE hf (lv_sub hl [] rfl) hH
      · replace hf := lc_ite_pos hc hf
        refine lv_iconst (v := 2) hx hb dK_findType_273 (by decide) ?_
        refine lv_goto (tgt := 278) hx hb dK_findType_274 (by decide) ?_
        exact lc_iret hx hb hr hlocks hH hf dK_findType_278
  replace hf := lc_ite_neg hc112 hf
  by_cases hc118 : (lcI z24 (q29 + 2) a1.toNatClampNeg) = 118
  · replace hf := lc_ite_pos hc118 hf
    refine lv_lookup (tgt := 138) (off := 101) hx hb dK_findType_37 (by decide) (by rw [hc118] <;> rfl) (by decide) ?_
    refine lv_aload_n hx hb dK_findType_138 rfl (lv_at hl 2 rfl) ?_
    refine lc_getf (d := 1) (q := 9) hx hb hts hown hE hH flK_12 lc_h8 rfl rfl dK_findType_139 ?_
    refine lv_aload_n hx hb dK_findType_142 rfl (lv_at hl 2 rfl) ?_
    refine lv_aload_n hx hb dK_findType_143 rfl (lv_at hl 2 rfl) ?_
    obtain ⟨q144, hq144, hf⟩ := lc_bnr_some hf
    refine lc_getr hx hb hts hown hE hH flK_57 lc_h8 rfl hq144 dK_findType_144 ?_
    obtain ⟨hs147_0, hf⟩ := lc_chk_some hf
    refine lc_getf (d := 7) (q := q144 + 7) hx hb hts hown hE hH flK_96 hs147_0 rfl rfl dK_findType_147 ?_
    refine lv_iload_n hx hb dK_findType_150 rfl (lv_at hl 3 rfl) ?_
    obtain ⟨hi151, hf⟩ := lc_chk_some hf
    refine lc_iald hx hb hE hH (lc_pr7 hs147_0) rfl hi151 dK_findType_151 ?_
    obtain ⟨r152, z152, h152, hf⟩ := lc_bnd_some hf
    refine lc_calli (va_runV (As := [.int (lcI z24 (q144 + 7) a1.toNatClampNeg)]) (rest := [.ref (lc_ad G 9)]) ⟨hx, hb, hml, hown, hts⟩ (cK_typeOfBound l G h152) (lc_cwV hts kvK_99 (lc_room (by decide) (by decide))) (lc_preV hE hH lc_h8 rfl _) rfl rfl hl.1 rfl (lv_room (Nat.le_of_ble_eq_true rfl)) dK_findType_152 ⟨Nat.zero_le _, Nat.zero_le _⟩) hH (fun H locs hH => ?_)
    refine lv_aload_n hx hb dK_findType_155 rfl (lv_at hl 2 rfl) ?_
    obtain ⟨q156, hq156, hf⟩ := lc_bnr_some hf
    refine lc_getr hx hb hts hown hE hH flK_57 lc_h8 rfl hq156 dK_findType_156 ?_
    obtain ⟨hs159_0, hf⟩ := lc_chk_some hf
    refine lc_getf (d := 6) (q := q156 + 6) hx hb hts hown hE hH flK_102 hs159_0 rfl rfl dK_findType_159 ?_
    refine lv_iload_n hx hb dK_findType_162 rfl (lv_at hl 3 rfl) ?_
    obtain ⟨hi163, hf⟩ := lc_chk_some hf
    refine lc_iald hx hb hE hH (lc_pr6 hs159_0) rfl hi163 dK_findType_163 ?_
    obtain ⟨r164, z164, h164, hf⟩ := lc_bnd_some hf
    refine lc_calli (va_runV (As := [.int r152, .int (lcI z152 (q156 + 6) a1.toNatClampNeg)]) (rest := []) ⟨hx, hb, hml, hown, hts⟩ (cT_partOf l G h164) (lc_cwV hts kvK_105 (lc_room (by decide) (by decide))) (lc_preV hE hH lc_h9 rfl _) rfl rfl hl.1 rfl (lv_room (Nat.le_of_ble_eq_true rfl)) dK_findType_164 ⟨Nat.zero_le _, Nat.zero_le _⟩) hH (fun H locs hH => ?_)
    exact lc_iret hx hb hr hlocks hH hf dK_findType_167
  replace hf := lc_ite_neg hc118 hf
  refine lv_lookup (tgt := 327) (off := 290) hx hb dK_findType_37 (by decide) ((lv_osw hc35 (by decide)).trans ((lv_osw hc44 (by decide)).trans ((lv_osw hc47 (by decide)).trans ((lv_osw hc58 (by decide)).trans ((lv_osw hc63 (by decide)).trans ((lv_osw hc64 (by decide)).trans ((lv_osw hc100 (by decide)).trans ((lv_osw hc103 (by decide)).trans ((lv_osw hc110 (by decide)).trans ((lv_osw hc112 (by decide)).trans ((lv_osw hc118 (by decide)).trans rfl))))))))))) (by decide) ?_
  refine lv_iload_n hx hb dK_findType_327 rfl (lv_at hl 1 rfl) ?_
  refine lv_iconst (v := 1) hx hb dK_findType_328 (by decide) ?_
  refine lv_icmp_ne (tgt := 341) hx hb dK_findType_329 (by decide) (fun hc => ?_) (fun hc => ?_)
  · replace hf := lc_ite_neg hc hf
    exact bK_findType_341 hx hb hml hr hlocks hown hts hE hf (lv_sub hl [] rfl) hH
  · replace hf := lc_ite_pos hc hf
    refine lv_iload_n hx hb dK_findType_332 rfl (lv_at hl 0 rfl) ?_
    refine lv_iconst (v := 1) hx hb dK_findType_333 (by decide) ?_
    refine lv_icmp_ne (tgt := 341) hx hb dK_findType_334 (by decide) (fun hc => ?_) (fun hc => ?_)
    · replace hf := lc_ite_neg hc hf
      exact bK_findType_341 hx hb hml hr hlocks hown hts hE hf (lv_sub hl [] rfl) hH
    · replace hf := lc_ite_pos hc hf
      refine lv_iconst (v := 1) hx hb dK_findType_337 (by decide) ?_
      refine lv_goto (tgt := 342) hx hb dK_findType_338 (by decide) ?_
      exact lc_iret hx hb hr hlocks hH hf dK_findType_342
theorem dP_body_0 : decode prog_5_method_3_code 0 = .ok (.aload_n 0, 1) := by decide +kernel
theorem dP_body_1 : decode prog_5_method_3_code 1 = .ok (.getfield 50, 3) := by decide +kernel
theorem dP_body_4 : decode prog_5_method_3_code 4 = .ok (.iconst 1, 1) := by decide +kernel
theorem dP_body_5 : decode prog_5_method_3_code 5 = .ok (.isub, 1) := by decide +kernel
theorem dP_body_6 : decode prog_5_method_3_code 6 = .ok (.ireturn, 1) := by decide +kernel
def fP_body (o0 : Nat) (z : lc_S) : Option ((Int32) × lc_S) :=
  lc_chk (lc_sh o0 = (0, 1, 0)) (some ((lcI z o0 11) - 1, z))
set_option maxHeartbeats 4000000 in
set_option maxRecDepth 100000 in
theorem cP_body (l : Launch) (G : lc_G) {o0 : Nat} {r : Int32} {z z' : lc_S} (hf : fP_body o0 z = some (r, z')) : lc_M l G yP_body wP_body 0 [.ref (lc_ad G o0)] z (some (.int r)) z' := by
  refine lc_M_of (cc := prog_5_method_3_code) (maxL := 1) (ret := (some .int)) (own := "LinearCells$Procedure") (by decide) rfl (fun w h => List.mem_cons_of_mem _ h) (Nat.le_of_ble_eq_true rfl) rfl ?_
  intro p e s m below meth c hx hb hml hr hlocks hown hts hE ls hl hH
  replace hl : lv_has ls 1 [(0, .ref (lc_ad G o0))] := hl
  rw [fP_body] at hf
  refine lv_aload_n hx hb dP_body_0 rfl (lv_at hl 0 rfl) ?_
  obtain ⟨hs1_0, hf⟩ := lc_chk_some hf
  refine lc_geti hx hb hts hown hE hH flP_50 hs1_0 rfl dP_body_1 ?_
  refine lv_iconst (v := 1) hx hb dP_body_4 (by decide) ?_
  refine lv_isub hx hb dP_body_5 ?_
  exact lc_iret hx hb hr hlocks hH hf dP_body_6
theorem dK_findBodyType_0 : decode prog_2_method_4_code 0 = .ok (.aload_n 0, 1) := by decide +kernel
theorem dK_findBodyType_1 : decode prog_2_method_4_code 1 = .ok (.aload_n 1, 1) := by decide +kernel
theorem dK_findBodyType_2 : decode prog_2_method_4_code 2 = .ok (.invokevirtual 49, 3) := by decide +kernel
theorem dK_findBodyType_5 : decode prog_2_method_4_code 5 = .ok (.aload_n 0, 1) := by decide +kernel
theorem dK_findBodyType_6 : decode prog_2_method_4_code 6 = .ok (.iload_n 2, 1) := by decide +kernel
theorem dK_findBodyType_7 : decode prog_2_method_4_code 7 = .ok (.putfield 53, 3) := by decide +kernel
theorem dK_findBodyType_10 : decode prog_2_method_4_code 10 = .ok (.aload_n 0, 1) := by decide +kernel
theorem dK_findBodyType_11 : decode prog_2_method_4_code 11 = .ok (.aload_n 1, 1) := by decide +kernel
theorem dK_findBodyType_12 : decode prog_2_method_4_code 12 = .ok (.iload_n 2, 1) := by decide +kernel
theorem dK_findBodyType_13 : decode prog_2_method_4_code 13 = .ok (.aaload, 1) := by decide +kernel
theorem dK_findBodyType_14 : decode prog_2_method_4_code 14 = .ok (.putfield 57, 3) := by decide +kernel
theorem dK_findBodyType_17 : decode prog_2_method_4_code 17 = .ok (.iconst 0, 1) := by decide +kernel
theorem dK_findBodyType_18 : decode prog_2_method_4_code 18 = .ok (.istore_n 3, 1) := by decide +kernel
theorem dK_findBodyType_19 : decode prog_2_method_4_code 19 = .ok (.iload_n 3, 1) := by decide +kernel
theorem dK_findBodyType_20 : decode prog_2_method_4_code 20 = .ok (.aload_n 0, 1) := by decide +kernel
theorem dK_findBodyType_21 : decode prog_2_method_4_code 21 = .ok (.getfield 57, 3) := by decide +kernel
theorem dK_findBodyType_24 : decode prog_2_method_4_code 24 = .ok (.getfield 61, 3) := by decide +kernel
theorem dK_findBodyType_27 : decode prog_2_method_4_code 27 = .ok (.if_icmp .ge 20, 3) := by decide +kernel
theorem dK_findBodyType_30 : decode prog_2_method_4_code 30 = .ok (.aload_n 0, 1) := by decide +kernel
theorem dK_findBodyType_31 : decode prog_2_method_4_code 31 = .ok (.getfield 27, 3) := by decide +kernel
theorem dK_findBodyType_34 : decode prog_2_method_4_code 34 = .ok (.iload_n 3, 1) := by decide +kernel
theorem dK_findBodyType_35 : decode prog_2_method_4_code 35 = .ok (.aload_n 0, 1) := by decide +kernel
theorem dK_findBodyType_36 : decode prog_2_method_4_code 36 = .ok (.iload_n 3, 1) := by decide +kernel
theorem dK_findBodyType_37 : decode prog_2_method_4_code 37 = .ok (.invokevirtual 64, 3) := by decide +kernel
theorem dK_findBodyType_40 : decode prog_2_method_4_code 40 = .ok (.iastore, 1) := by decide +kernel
theorem dK_findBodyType_41 : decode prog_2_method_4_code 41 = .ok (.iinc 3 1, 3) := by decide +kernel
theorem dK_findBodyType_44 : decode prog_2_method_4_code 44 = .ok (.goto (-25), 3) := by decide +kernel
theorem dK_findBodyType_47 : decode prog_2_method_4_code 47 = .ok (.aload_n 0, 1) := by decide +kernel
theorem dK_findBodyType_48 : decode prog_2_method_4_code 48 = .ok (.aload_n 0, 1) := by decide +kernel
theorem dK_findBodyType_49 : decode prog_2_method_4_code 49 = .ok (.getfield 57, 3) := by decide +kernel
theorem dK_findBodyType_52 : decode prog_2_method_4_code 52 = .ok (.invokevirtual 67, 3) := by decide +kernel
theorem dK_findBodyType_55 : decode prog_2_method_4_code 55 = .ok (.invokevirtual 71, 3) := by decide +kernel
theorem dK_findBodyType_58 : decode prog_2_method_4_code 58 = .ok (.ireturn, 1) := by decide +kernel
def fK_findBodyType_19 : Nat → Int32 → lc_S → Option ((Int32) × lc_S)
  | 0, _, _ => none
  | n + 1, x3, z => lc_bnr (lcR z 8 4) (fun q21 => lc_chk (lc_sh q21 = (0, 1, 0)) (if (lcI z q21 11) ≤ x3 then (lc_bnr (lcR z 8 4) (fun q49 => lc_chk (lc_sh q49 = (0, 1, 0)) (lc_bnd (fP_body q49 z) (fun r52 z52 => lc_bnd (fK_typeOfPart r52 z52) (fun r55 z55 => some (r55, z55)))))) else (lc_bnd (fK_findType x3 z) (fun r37 z37 => lc_chk (lc_in x3 120) (lc_let (x3 + 1) (fun x41 => fK_findBodyType_19 n x41 (lcUI z37 17 x3.toNatClampNeg r37)))))))
def fK_findBodyType (a1 : Nat) (a2 : Int32) (z : lc_S) : Option ((Int32) × lc_S) :=
  lc_bnd (fK_findWrittenTypes a1 z) (fun r2 z2 => lc_chk (lc_sh a1 = (3, 4, 4)) (lc_chk (lc_in a2 4) (lc_bnr (lcR (lcUI z2 8 3 a2) a1 a2.toNatClampNeg) (fun q13 => fK_findBodyType_19 lc_FU 0 (lcUR (lcUI z2 8 3 a2) 8 4 (some q13))))))
set_option maxHeartbeats 4000000 in
set_option maxRecDepth 100000 in
theorem bK_findBodyType_19 {p : Program} {l : Launch} {e : Env} {s : State} {m : MethodId} {args : Array Value} {below : List Frame} {meth : Method} {c : Code} {G : lc_G} (hx : p.tables.exec = Jvm.exec) (hb : c.code = prog_2_method_4_code) (hml : c.maxLocals = 4) (hr : meth.sig.returnType = (some .int)) (hlocks : meth.locks = false) (hown : s.vm.findClass "LinearCells$Checker" = some m.cls) (hts : ∀ w ∈ lc_ALL, w.before args s = true) (hE : lc_E G s) {r : Int32} {z' : lc_S} : ∀ (n : Nat) {x3 : Int32} {z : lc_S} {H : Heap} {locs : List Loc} {ls : Array Slot}, fK_findBodyType_19 n x3 z = some (r, z') → lv_has ls 4 [(0, .ref (lc_ad G 8)), (3, .int x3)] → lc_H G z s.heap H locs → W p l e (lc_rm 3) s m args below meth c H locs 0 0 (MQ below (lc_Q G (some (.int r)) z') args s 0 0 (lc_A G)) (F0 m 19 ls []) := by
  intro n
  induction n with
  | zero =>
    intro x3 z H locs ls hf hl hH
    exact absurd (show (none : Option ((Int32) × lc_S)) = some (r, z') from hf) (fun h => by cases h)
  | succ n ih =>
    intro x3 z H locs ls hf hl hH
    rw [fK_findBodyType_19] at hf
    refine lv_iload_n hx hb dK_findBodyType_19 rfl (lv_at hl 1 rfl) ?_
    refine lv_aload_n hx hb dK_findBodyType_20 rfl (lv_at hl 0 rfl) ?_
    obtain ⟨q21, hq21, hf⟩ := lc_bnr_some hf
    refine lc_getr hx hb hts hown hE hH flK_57 lc_h8 rfl hq21 dK_findBodyType_21 ?_
    obtain ⟨hs24_0, hf⟩ := lc_chk_some hf
    refine lc_geti hx hb hts hown hE hH flK_61 hs24_0 rfl dK_findBodyType_24 ?_
    refine lv_icmp_ge (tgt := 47) hx hb dK_findBodyType_27 (by decide) (fun hc => ?_) (fun hc => ?_)
    · replace hf := lc_ite_pos hc hf
      refine lv_aload_n hx hb dK_findBodyType_47 rfl (lv_at hl 0 rfl) ?_
      refine lv_aload_n hx hb dK_findBodyType_48 rfl (lv_at hl 0 rfl) ?_
      obtain ⟨q49, hq49, hf⟩ := lc_bnr_some hf
      refine lc_getr hx hb hts hown hE hH flK_57 lc_h8 rfl hq49 dK_findBodyType_49 ?_
      obtain ⟨hs52_0, hf⟩ := lc_chk_some hf
      obtain ⟨r52, z52, h52, hf⟩ := lc_bnd_some hf
      refine lc_calli (va_runV (As := []) (rest := [.ref (lc_ad G 8)]) ⟨hx, hb, hml, hown, hts⟩ (cP_body l G h52) (lc_cwV hts kvK_67 (lc_room (by decide) (by decide))) (lc_preV hE hH hs52_0 rfl _) rfl rfl hl.1 rfl (lv_room (Nat.le_of_ble_eq_true rfl)) dK_findBodyType_52 ⟨Nat.zero_le _, Nat.zero_le _⟩) hH (fun H locs hH => ?_)
      obtain ⟨r55, z55, h55, hf⟩ := lc_bnd_some hf
      refine lc_calli (va_runV (As := [.int r52]) (rest := []) ⟨hx, hb, hml, hown, hts⟩ (cK_typeOfPart l G h55) (lc_cwV hts kvK_71 (lc_room (by decide) (by decide))) (lc_preV hE hH lc_h8 rfl _) rfl rfl hl.1 rfl (lv_room (Nat.le_of_ble_eq_true rfl)) dK_findBodyType_55 ⟨Nat.zero_le _, Nat.zero_le _⟩) hH (fun H locs hH => ?_)
      exact lc_iret hx hb hr hlocks hH hf dK_findBodyType_58
    · replace hf := lc_ite_neg hc hf
      refine lv_aload_n hx hb dK_findBodyType_30 rfl (lv_at hl 0 rfl) ?_
      refine lc_getf (d := 9) (q := 17) hx hb hts hown hE hH flK_27 lc_h8 rfl rfl dK_findBodyType_31 ?_
      refine lv_iload_n hx hb dK_findBodyType_34 rfl (lv_at hl 1 rfl) ?_
      refine lv_aload_n hx hb dK_findBodyType_35 rfl (lv_at hl 0 rfl) ?_
      refine lv_iload_n hx hb dK_findBodyType_36 rfl (lv_at hl 1 rfl) ?_
      obtain ⟨r37, z37, h37, hf⟩ := lc_bnd_some hf
      refine lc_calli (va_runV (As := [.int x3]) (rest := [.int x3, .ref (lc_ad G 17)]) ⟨hx, hb, hml, hown, hts⟩ (cK_findType l G h37) (lc_cwV hts kvK_64 (lc_room (by decide) (by decide))) (lc_preV hE hH lc_h8 rfl _) rfl rfl hl.1 rfl (lv_room (Nat.le_of_ble_eq_true rfl)) dK_findBodyType_37 ⟨Nat.zero_le _, Nat.zero_le _⟩) hH (fun H locs hH => ?_)
      obtain ⟨hi40, hf⟩ := lc_chk_some hf
      refine lc_iast hx hb hE hH lc_h17 rfl hi40 dK_findBodyType_40 (fun H locs hH => ?_)
      obtain ⟨x41, e41⟩ : ∃ x : Int32, x = x3 + 1 := ⟨_, rfl⟩
      replace hf := lc_let_of e41 hf
      refine lv_iinc (k := 1) (v := x41) hx hb dK_findBodyType_41 hl rfl ((lc_incv _ (by decide)).trans e41.symm) (by decide) rfl (fun ls hl => ?_)
      replace hl : lv_has ls 4 [(3, .int x41), (0, .ref (lc_ad G 8))] := hl
      refine lv_goto (tgt := 19) hx hb dK_findBodyType_44 (by decide) ?_
      exact ih hf (lv_sub hl [1, 0] rfl) hH
set_option maxHeartbeats 4000000 in
set_option maxRecDepth 100000 in
theorem cK_findBodyType (l : Launch) (G : lc_G) {a1 : Nat} {a2 : Int32} {r : Int32} {z z' : lc_S} (hf : fK_findBodyType a1 a2 z = some (r, z')) : lc_M l G yK_findBodyType wK_findBodyType 3 [.ref (lc_ad G 8), .ref (lc_ad G a1), .int a2] z (some (.int r)) z' := by
  refine lc_M_of (cc := prog_2_method_4_code) (maxL := 4) (ret := (some .int)) (own := "LinearCells$Checker") (by decide) rfl (fun w h => List.mem_cons_of_mem _ h) (Nat.le_of_ble_eq_true rfl) rfl ?_
  intro p e s m below meth c hx hb hml hr hlocks hown hts hE ls hl hH
  replace hl : lv_has ls 4 [(0, .ref (lc_ad G 8)), (1, .ref (lc_ad G a1)), (2, .int a2)] := hl
  rw [fK_findBodyType] at hf
  refine lv_aload_n hx hb dK_findBodyType_0 rfl (lv_at hl 0 rfl) ?_
  refine lv_aload_n hx hb dK_findBodyType_1 rfl (lv_at hl 1 rfl) ?_
  obtain ⟨r2, z2, h2, hf⟩ := lc_bnd_some hf
  refine lc_callv (va_runV (As := [.ref (lc_ad G a1)]) (rest := []) ⟨hx, hb, hml, hown, hts⟩ (cK_findWrittenTypes l G h2) (lc_cwV hts kvK_49 (lc_room (by decide) (by decide))) (lc_preV hE hH lc_h8 rfl _) rfl rfl hl.1 rfl (lv_room (Nat.le_of_ble_eq_true rfl)) dK_findBodyType_2 ⟨Nat.zero_le _, Nat.zero_le _⟩) hH (fun H locs hH => ?_)
  refine lv_aload_n hx hb dK_findBodyType_5 rfl (lv_at hl 0 rfl) ?_
  refine lv_iload_n hx hb dK_findBodyType_6 rfl (lv_at hl 2 rfl) ?_
  refine lc_puti hx hb hts hown hE hH fpK_53 lc_h8 rfl rfl rfl dK_findBodyType_7 (fun H locs hH => ?_)
  refine lv_aload_n hx hb dK_findBodyType_10 rfl (lv_at hl 0 rfl) ?_
  refine lv_aload_n hx hb dK_findBodyType_11 rfl (lv_at hl 1 rfl) ?_
  refine lv_iload_n hx hb dK_findBodyType_12 rfl (lv_at hl 2 rfl) ?_
  obtain ⟨hs13_0, hf⟩ := lc_chk_some hf
  obtain ⟨hi13, hf⟩ := lc_chk_some hf
  obtain ⟨q13, hq13, hf⟩ := lc_bnr_some hf
  refine lc_aald hx hb hE hH hs13_0 rfl hi13 hq13 dK_findBodyType_13 ?_
  refine lc_putr hx hb hts hown hE hH fpK_57 lc_h8 rfl (fun _ => rfl) (fun _ => rfl) dK_findBodyType_14 (fun H locs hH => ?_)
  refine lv_iconst (v := 0) hx hb dK_findBodyType_17 (by decide) ?_
  refine lv_istore_n hx hb dK_findBodyType_18 rfl hl (by decide) rfl (fun ls hl => ?_)
  replace hl : lv_has ls 4 [(3, .int 0), (0, .ref (lc_ad G 8)), (1, .ref (lc_ad G a1)), (2, .int a2)] := hl
  exact bK_findBodyType_19 hx hb hml hr hlocks hown hts hE _ hf (lv_sub hl [1, 0] rfl) hH
theorem dT_isLinear_0 : decode prog_7_method_4_code 0 = .ok (.aload_n 0, 1) := by decide +kernel
theorem dT_isLinear_1 : decode prog_7_method_4_code 1 = .ok (.getfield 23, 3) := by decide +kernel
theorem dT_isLinear_4 : decode prog_7_method_4_code 4 = .ok (.iload_n 1, 1) := by decide +kernel
theorem dT_isLinear_5 : decode prog_7_method_4_code 5 = .ok (.baload, 1) := by decide +kernel
theorem dT_isLinear_6 : decode prog_7_method_4_code 6 = .ok (.ireturn, 1) := by decide +kernel
def fT_isLinear (a1 : Int32) (z : lc_S) : Option ((Int32) × lc_S) :=
  lc_chk (lc_in a1 243) (lc_chk (lc_zok (lcI z 13 a1.toNatClampNeg)) (some (lcI z 13 a1.toNatClampNeg, z)))
set_option maxHeartbeats 4000000 in
set_option maxRecDepth 100000 in
theorem cT_isLinear (l : Launch) (G : lc_G) {a1 : Int32} {r : Int32} {z z' : lc_S} (hf : fT_isLinear a1 z = some (r, z')) : lc_M l G yT_isLinear wT_isLinear 0 [.ref (lc_ad G 9), .int a1] z (some (.int r)) z' := by
  refine lc_M_of (cc := prog_7_method_4_code) (maxL := 2) (ret := (some .boolean)) (own := "LinearCells$Types") (by decide) rfl (fun w h => List.mem_cons_of_mem _ h) (Nat.le_of_ble_eq_true rfl) rfl ?_
  intro p e s m below meth c hx hb hml hr hlocks hown hts hE ls hl hH
  replace hl : lv_has ls 2 [(0, .ref (lc_ad G 9)), (1, .int a1)] := hl
  rw [fT_isLinear] at hf
  refine lv_aload_n hx hb dT_isLinear_0 rfl (lv_at hl 0 rfl) ?_
  refine lc_getf (d := 4) (q := 13) hx hb hts hown hE hH flT_23 lc_h9 rfl rfl dT_isLinear_1 ?_
  refine lv_iload_n hx hb dT_isLinear_4 rfl (lv_at hl 1 rfl) ?_
  obtain ⟨hi5, hf⟩ := lc_chk_some hf
  refine lc_zald hx hb hE hH lc_h13 rfl hi5 dT_isLinear_5 ?_
  obtain ⟨hz6, hf⟩ := lc_chk_some hf
  exact lc_zret hx hb hr hlocks (lc_zn hz6) hH hf dT_isLinear_6
theorem dK_usesOfPart_0 : decode prog_2_method_12_code 0 = .ok (.iload_n 1, 1) := by decide +kernel
theorem dK_usesOfPart_1 : decode prog_2_method_12_code 1 = .ok (.ifCond .ge 7, 3) := by decide +kernel
theorem dK_usesOfPart_4 : decode prog_2_method_12_code 4 = .ok (.iconst 0, 1) := by decide +kernel
theorem dK_usesOfPart_5 : decode prog_2_method_12_code 5 = .ok (.goto 9, 3) := by decide +kernel
theorem dK_usesOfPart_8 : decode prog_2_method_12_code 8 = .ok (.aload_n 0, 1) := by decide +kernel
theorem dK_usesOfPart_9 : decode prog_2_method_12_code 9 = .ok (.getfield 30, 3) := by decide +kernel
theorem dK_usesOfPart_12 : decode prog_2_method_12_code 12 = .ok (.iload_n 1, 1) := by decide +kernel
theorem dK_usesOfPart_13 : decode prog_2_method_12_code 13 = .ok (.iaload, 1) := by decide +kernel
theorem dK_usesOfPart_14 : decode prog_2_method_12_code 14 = .ok (.ireturn, 1) := by decide +kernel
def fK_usesOfPart (a1 : Int32) (z : lc_S) : Option ((Int32) × lc_S) :=
  if 0 ≤ a1 then (lc_chk (lc_in a1 120) (some (lcI z 18 a1.toNatClampNeg, z))) else (some (0, z))
set_option maxHeartbeats 4000000 in
set_option maxRecDepth 100000 in
theorem cK_usesOfPart (l : Launch) (G : lc_G) {a1 : Int32} {r : Int32} {z z' : lc_S} (hf : fK_usesOfPart a1 z = some (r, z')) : lc_M l G yK_usesOfPart wK_usesOfPart 0 [.ref (lc_ad G 8), .int a1] z (some (.int r)) z' := by
  refine lc_M_of (cc := prog_2_method_12_code) (maxL := 2) (ret := (some .int)) (own := "LinearCells$Checker") (by decide) rfl (fun w h => List.mem_cons_of_mem _ h) (Nat.le_of_ble_eq_true rfl) rfl ?_
  intro p e s m below meth c hx hb hml hr hlocks hown hts hE ls hl hH
  replace hl : lv_has ls 2 [(0, .ref (lc_ad G 8)), (1, .int a1)] := hl
  rw [fK_usesOfPart] at hf
  refine lv_iload_n hx hb dK_usesOfPart_0 rfl (lv_at hl 1 rfl) ?_
  refine lv_if_ge (tgt := 8) hx hb dK_usesOfPart_1 (by decide) (fun hc => ?_) (fun hc => ?_)
  · replace hf := lc_ite_pos hc hf
    refine lv_aload_n hx hb dK_usesOfPart_8 rfl (lv_at hl 0 rfl) ?_
    refine lc_getf (d := 10) (q := 18) hx hb hts hown hE hH flK_30 lc_h8 rfl rfl dK_usesOfPart_9 ?_
    refine lv_iload_n hx hb dK_usesOfPart_12 rfl (lv_at hl 1 rfl) ?_
    obtain ⟨hi13, hf⟩ := lc_chk_some hf
    refine lc_iald hx hb hE hH lc_h18 rfl hi13 dK_usesOfPart_13 ?_
    exact lc_iret hx hb hr hlocks hH hf dK_usesOfPart_14
  · replace hf := lc_ite_neg hc hf
    refine lv_iconst (v := 0) hx hb dK_usesOfPart_4 (by decide) ?_
    refine lv_goto (tgt := 14) hx hb dK_usesOfPart_5 (by decide) ?_
    exact lc_iret hx hb hr hlocks hH hf dK_usesOfPart_14
theorem dK_usesOf_0 : decode prog_2_method_11_code 0 = .ok (.aload_n 0, 1) := by decide +kernel
theorem dK_usesOf_1 : decode prog_2_method_11_code 1 = .ok (.getfield 57, 3) := by decide +kernel
theorem dK_usesOf_4 : decode prog_2_method_11_code 4 = .ok (.getfield 119, 3) := by decide +kernel
theorem dK_usesOf_7 : decode prog_2_method_11_code 7 = .ok (.iload_n 1, 1) := by decide +kernel
theorem dK_usesOf_8 : decode prog_2_method_11_code 8 = .ok (.iaload, 1) := by decide +kernel
theorem dK_usesOf_9 : decode prog_2_method_11_code 9 = .ok (.iconst 1, 1) := by decide +kernel
theorem dK_usesOf_10 : decode prog_2_method_11_code 10 = .ok (.iadd, 1) := by decide +kernel
theorem dK_usesOf_11 : decode prog_2_method_11_code 11 = .ok (.istore 4, 2) := by decide +kernel
theorem dK_usesOf_13 : decode prog_2_method_11_code 13 = .ok (.iload 4, 2) := by decide +kernel
theorem dK_usesOf_15 : decode prog_2_method_11_code 15 = .ok (.iload_n 3, 1) := by decide +kernel
theorem dK_usesOf_16 : decode prog_2_method_11_code 16 = .ok (.if_icmp .gt 140, 3) := by decide +kernel
theorem dK_usesOf_19 : decode prog_2_method_11_code 19 = .ok (.aload_n 0, 1) := by decide +kernel
theorem dK_usesOf_20 : decode prog_2_method_11_code 20 = .ok (.aload_n 0, 1) := by decide +kernel
theorem dK_usesOf_21 : decode prog_2_method_11_code 21 = .ok (.getfield 57, 3) := by decide +kernel
theorem dK_usesOf_24 : decode prog_2_method_11_code 24 = .ok (.getfield 87, 3) := by decide +kernel
theorem dK_usesOf_27 : decode prog_2_method_11_code 27 = .ok (.iload 4, 2) := by decide +kernel
theorem dK_usesOf_29 : decode prog_2_method_11_code 29 = .ok (.iaload, 1) := by decide +kernel
theorem dK_usesOf_30 : decode prog_2_method_11_code 30 = .ok (.invokevirtual 133, 3) := by decide +kernel
theorem dK_usesOf_33 : decode prog_2_method_11_code 33 = .ok (.istore 5, 2) := by decide +kernel
theorem dK_usesOf_35 : decode prog_2_method_11_code 35 = .ok (.aload_n 0, 1) := by decide +kernel
theorem dK_usesOf_36 : decode prog_2_method_11_code 36 = .ok (.aload_n 0, 1) := by decide +kernel
theorem dK_usesOf_37 : decode prog_2_method_11_code 37 = .ok (.getfield 57, 3) := by decide +kernel
theorem dK_usesOf_40 : decode prog_2_method_11_code 40 = .ok (.getfield 90, 3) := by decide +kernel
theorem dK_usesOf_43 : decode prog_2_method_11_code 43 = .ok (.iload 4, 2) := by decide +kernel
theorem dK_usesOf_45 : decode prog_2_method_11_code 45 = .ok (.iaload, 1) := by decide +kernel
theorem dK_usesOf_46 : decode prog_2_method_11_code 46 = .ok (.invokevirtual 133, 3) := by decide +kernel
theorem dK_usesOf_49 : decode prog_2_method_11_code 49 = .ok (.istore 6, 2) := by decide +kernel
theorem dK_usesOf_51 : decode prog_2_method_11_code 51 = .ok (.aload_n 0, 1) := by decide +kernel
theorem dK_usesOf_52 : decode prog_2_method_11_code 52 = .ok (.getfield 57, 3) := by decide +kernel
theorem dK_usesOf_55 : decode prog_2_method_11_code 55 = .ok (.getfield 93, 3) := by decide +kernel
theorem dK_usesOf_58 : decode prog_2_method_11_code 58 = .ok (.iload 4, 2) := by decide +kernel
theorem dK_usesOf_60 : decode prog_2_method_11_code 60 = .ok (.iaload, 1) := by decide +kernel
theorem dK_usesOf_61 : decode prog_2_method_11_code 61 = .ok (.bipush 63, 2) := by decide +kernel
theorem dK_usesOf_63 : decode prog_2_method_11_code 63 = .ok (.if_icmp .ne 24, 3) := by decide +kernel
theorem dK_usesOf_66 : decode prog_2_method_11_code 66 = .ok (.iload 6, 2) := by decide +kernel
theorem dK_usesOf_68 : decode prog_2_method_11_code 68 = .ok (.aload_n 0, 1) := by decide +kernel
theorem dK_usesOf_69 : decode prog_2_method_11_code 69 = .ok (.aload_n 0, 1) := by decide +kernel
theorem dK_usesOf_70 : decode prog_2_method_11_code 70 = .ok (.getfield 57, 3) := by decide +kernel
theorem dK_usesOf_73 : decode prog_2_method_11_code 73 = .ok (.getfield 109, 3) := by decide +kernel
theorem dK_usesOf_76 : decode prog_2_method_11_code 76 = .ok (.iload 4, 2) := by decide +kernel
theorem dK_usesOf_78 : decode prog_2_method_11_code 78 = .ok (.iaload, 1) := by decide +kernel
theorem dK_usesOf_79 : decode prog_2_method_11_code 79 = .ok (.invokevirtual 133, 3) := by decide +kernel
theorem dK_usesOf_82 : decode prog_2_method_11_code 82 = .ok (.if_icmp .eq 5, 3) := by decide +kernel
theorem dK_usesOf_85 : decode prog_2_method_11_code 85 = .ok (.iconst (-1), 1) := by decide +kernel
theorem dK_usesOf_86 : decode prog_2_method_11_code 86 = .ok (.ireturn, 1) := by decide +kernel
theorem dK_usesOf_87 : decode prog_2_method_11_code 87 = .ok (.aload_n 0, 1) := by decide +kernel
theorem dK_usesOf_88 : decode prog_2_method_11_code 88 = .ok (.getfield 30, 3) := by decide +kernel
theorem dK_usesOf_91 : decode prog_2_method_11_code 91 = .ok (.iload 4, 2) := by decide +kernel
theorem dK_usesOf_93 : decode prog_2_method_11_code 93 = .ok (.iload 5, 2) := by decide +kernel
theorem dK_usesOf_95 : decode prog_2_method_11_code 95 = .ok (.iload 6, 2) := by decide +kernel
theorem dK_usesOf_97 : decode prog_2_method_11_code 97 = .ok (.iadd, 1) := by decide +kernel
theorem dK_usesOf_98 : decode prog_2_method_11_code 98 = .ok (.iastore, 1) := by decide +kernel
theorem dK_usesOf_99 : decode prog_2_method_11_code 99 = .ok (.aload_n 0, 1) := by decide +kernel
theorem dK_usesOf_100 : decode prog_2_method_11_code 100 = .ok (.getfield 57, 3) := by decide +kernel
theorem dK_usesOf_103 : decode prog_2_method_11_code 103 = .ok (.getfield 96, 3) := by decide +kernel
theorem dK_usesOf_106 : decode prog_2_method_11_code 106 = .ok (.iload 4, 2) := by decide +kernel
theorem dK_usesOf_108 : decode prog_2_method_11_code 108 = .ok (.iaload, 1) := by decide +kernel
theorem dK_usesOf_109 : decode prog_2_method_11_code 109 = .ok (.iload_n 1, 1) := by decide +kernel
theorem dK_usesOf_110 : decode prog_2_method_11_code 110 = .ok (.if_icmp .ne 40, 3) := by decide +kernel
theorem dK_usesOf_113 : decode prog_2_method_11_code 113 = .ok (.aload_n 0, 1) := by decide +kernel
theorem dK_usesOf_114 : decode prog_2_method_11_code 114 = .ok (.getfield 57, 3) := by decide +kernel
theorem dK_usesOf_117 : decode prog_2_method_11_code 117 = .ok (.getfield 102, 3) := by decide +kernel
theorem dK_usesOf_120 : decode prog_2_method_11_code 120 = .ok (.iload 4, 2) := by decide +kernel
theorem dK_usesOf_122 : decode prog_2_method_11_code 122 = .ok (.iaload, 1) := by decide +kernel
theorem dK_usesOf_123 : decode prog_2_method_11_code 123 = .ok (.iload_n 2, 1) := by decide +kernel
theorem dK_usesOf_124 : decode prog_2_method_11_code 124 = .ok (.if_icmp .ne 26, 3) := by decide +kernel
theorem dK_usesOf_127 : decode prog_2_method_11_code 127 = .ok (.aload_n 0, 1) := by decide +kernel
theorem dK_usesOf_128 : decode prog_2_method_11_code 128 = .ok (.getfield 57, 3) := by decide +kernel
theorem dK_usesOf_131 : decode prog_2_method_11_code 131 = .ok (.getfield 93, 3) := by decide +kernel
theorem dK_usesOf_134 : decode prog_2_method_11_code 134 = .ok (.iload 4, 2) := by decide +kernel
theorem dK_usesOf_136 : decode prog_2_method_11_code 136 = .ok (.iaload, 1) := by decide +kernel
theorem dK_usesOf_137 : decode prog_2_method_11_code 137 = .ok (.bipush 118, 2) := by decide +kernel
theorem dK_usesOf_139 : decode prog_2_method_11_code 139 = .ok (.if_icmp .ne 11, 3) := by decide +kernel
theorem dK_usesOf_142 : decode prog_2_method_11_code 142 = .ok (.aload_n 0, 1) := by decide +kernel
theorem dK_usesOf_143 : decode prog_2_method_11_code 143 = .ok (.getfield 30, 3) := by decide +kernel
theorem dK_usesOf_146 : decode prog_2_method_11_code 146 = .ok (.iload 4, 2) := by decide +kernel
theorem dK_usesOf_148 : decode prog_2_method_11_code 148 = .ok (.iconst 1, 1) := by decide +kernel
theorem dK_usesOf_149 : decode prog_2_method_11_code 149 = .ok (.iastore, 1) := by decide +kernel
theorem dK_usesOf_150 : decode prog_2_method_11_code 150 = .ok (.iinc 4 1, 3) := by decide +kernel
theorem dK_usesOf_153 : decode prog_2_method_11_code 153 = .ok (.goto (-140), 3) := by decide +kernel
theorem dK_usesOf_156 : decode prog_2_method_11_code 156 = .ok (.aload_n 0, 1) := by decide +kernel
theorem dK_usesOf_157 : decode prog_2_method_11_code 157 = .ok (.iload_n 3, 1) := by decide +kernel
theorem dK_usesOf_158 : decode prog_2_method_11_code 158 = .ok (.invokevirtual 133, 3) := by decide +kernel
theorem dK_usesOf_161 : decode prog_2_method_11_code 161 = .ok (.ireturn, 1) := by decide +kernel
def fK_usesOf_150 (k13 : Int32 → Int32 → Int32 → Int32 → lc_S → Option ((Int32) × lc_S)) (x1 : Int32) (x2 : Int32) (x3 : Int32) (x4 : Int32) (z : lc_S) : Option ((Int32) × lc_S) :=
  lc_let (x4 + 1) (fun x150 => k13 x1 x2 x3 x150 z)
def fK_usesOf_87 (k13 : Int32 → Int32 → Int32 → Int32 → lc_S → Option ((Int32) × lc_S)) (x1 : Int32) (x2 : Int32) (x3 : Int32) (x4 : Int32) (x5 : Int32) (x6 : Int32) (z : lc_S) : Option ((Int32) × lc_S) :=
  lc_chk (lc_in x4 120) (lc_bnr (lcR (lcUI z 18 x4.toNatClampNeg (x5 + x6)) 8 4) (fun q100 => lc_chk (lc_sh q100 = (0, 1, 0)) (lc_chk (lc_in x4 120) (if (lcI (lcUI z 18 x4.toNatClampNeg (x5 + x6)) (q100 + 7) x4.toNatClampNeg) = x1 then (lc_bnr (lcR (lcUI z 18 x4.toNatClampNeg (x5 + x6)) 8 4) (fun q114 => lc_chk (lc_sh q114 = (0, 1, 0)) (lc_chk (lc_in x4 120) (if (lcI (lcUI z 18 x4.toNatClampNeg (x5 + x6)) (q114 + 6) x4.toNatClampNeg) = x2 then (lc_bnr (lcR (lcUI z 18 x4.toNatClampNeg (x5 + x6)) 8 4) (fun q128 => lc_chk (lc_sh q128 = (0, 1, 0)) (lc_chk (lc_in x4 120) (if (lcI (lcUI z 18 x4.toNatClampNeg (x5 + x6)) (q128 + 2) x4.toNatClampNeg) = 118 then (lc_chk (lc_in x4 120) (fK_usesOf_150 k13 x1 x2 x3 x4 (lcUI (lcUI z 18 x4.toNatClampNeg (x5 + x6)) 18 x4.toNatClampNeg 1))) else (fK_usesOf_150 k13 x1 x2 x3 x4 (lcUI z 18 x4.toNatClampNeg (x5 + x6))))))) else (fK_usesOf_150 k13 x1 x2 x3 x4 (lcUI z 18 x4.toNatClampNeg (x5 + x6))))))) else (fK_usesOf_150 k13 x1 x2 x3 x4 (lcUI z 18 x4.toNatClampNeg (x5 + x6)))))))
def fK_usesOf_13 : Nat → Int32 → Int32 → Int32 → Int32 → lc_S → Option ((Int32) × lc_S)
  | 0, _, _, _, _, _ => none
  | n + 1, x1, x2, x3, x4, z => if x3 < x4 then (lc_bnd (fK_usesOfPart x3 z) (fun r158 z158 => some (r158, z158))) else (lc_bnr (lcR z 8 4) (fun q21 => lc_chk (lc_sh q21 = (0, 1, 0)) (lc_chk (lc_in x4 120) (lc_bnd (fK_usesOfPart (lcI z (q21 + 3) x4.toNatClampNeg) z) (fun r30 z30 => lc_bnr (lcR z30 8 4) (fun q37 => lc_chk (lc_sh q37 = (0, 1, 0)) (lc_chk (lc_in x4 120) (lc_bnd (fK_usesOfPart (lcI z30 (q37 + 4) x4.toNatClampNeg) z30) (fun r46 z46 => lc_bnr (lcR z46 8 4) (fun q52 => lc_chk (lc_sh q52 = (0, 1, 0)) (lc_chk (lc_in x4 120) (if (lcI z46 (q52 + 2) x4.toNatClampNeg) = 63 then (lc_bnr (lcR z46 8 4) (fun q70 => lc_chk (lc_sh q70 = (0, 1, 0)) (lc_chk (lc_in x4 120) (lc_bnd (fK_usesOfPart (lcI z46 (q70 + 5) x4.toNatClampNeg) z46) (fun r79 z79 => if r46 = r79 then (fK_usesOf_87 (fK_usesOf_13 n) x1 x2 x3 x4 r30 r46 z79) else (some ((-1), z79))))))) else (fK_usesOf_87 (fK_usesOf_13 n) x1 x2 x3 x4 r30 r46 z46)))))))))))))
def fK_usesOf (a1 : Int32) (a2 : Int32) (a3 : Int32) (z : lc_S) : Option ((Int32) × lc_S) :=
  lc_bnr (lcR z 8 4) (fun q1 => lc_chk (lc_sh q1 = (0, 1, 0)) (lc_chk (lc_in a1 24) (lc_let ((lcI z (q1 + 8) a1.toNatClampNeg) + 1) (fun x11 => fK_usesOf_13 lc_FU a1 a2 a3 x11 z))))
set_option maxHeartbeats 4000000 in
set_option maxRecDepth 100000 in
theorem bK_usesOf_150 {p : Program} {l : Launch} {e : Env} {s : State} {m : MethodId} {args : Array Value} {below : List Frame} {meth : Method} {c : Code} {G : lc_G} (hx : p.tables.exec = Jvm.exec) (hb : c.code = prog_2_method_11_code) (hml : c.maxLocals = 7) (hr : meth.sig.returnType = (some .int)) (hlocks : meth.locks = false) (hown : s.vm.findClass "LinearCells$Checker" = some m.cls) (hts : ∀ w ∈ lc_ALL, w.before args s = true) (hE : lc_E G s) {k13 : Int32 → Int32 → Int32 → Int32 → lc_S → Option ((Int32) × lc_S)} {r : Int32} {z' : lc_S} (hk13 : ∀ {x1 : Int32} {x2 : Int32} {x3 : Int32} {x4 : Int32} {z : lc_S} {H : Heap} {locs : List Loc} {ls : Array Slot}, k13 x1 x2 x3 x4 z = some (r, z') → lv_has ls 7 [(0, .ref (lc_ad G 8)), (1, .int x1), (2, .int x2), (3, .int x3), (4, .int x4)] → lc_H G z s.heap H locs → W p l e (lc_rm 1) s m args below meth c H locs 0 0 (MQ below (lc_Q G (some (.int r)) z') args s 0 0 (lc_A G)) (F0 m 13 ls [])) : ∀ {x1 : Int32} {x2 : Int32} {x3 : Int32} {x4 : Int32} {z : lc_S} {H : Heap} {locs : List Loc} {ls : Array Slot}, fK_usesOf_150 k13 x1 x2 x3 x4 z = some (r, z') → lv_has ls 7 [(0, .ref (lc_ad G 8)), (1, .int x1), (2, .int x2), (3, .int x3), (4, .int x4)] → lc_H G z s.heap H locs → W p l e (lc_rm 1) s m args below meth c H locs 0 0 (MQ below (lc_Q G (some (.int r)) z') args s 0 0 (lc_A G)) (F0 m 150 ls []) := by
  intro x1 x2 x3 x4 z H locs ls hf hl hH
  rw [fK_usesOf_150] at hf
  obtain ⟨x150, e150⟩ : ∃ x : Int32, x = x4 + 1 := ⟨_, rfl⟩
  replace hf := lc_let_of e150 hf
  refine lv_iinc (k := 4) (v := x150) hx hb dK_usesOf_150 hl rfl ((lc_incv _ (by decide)).trans e150.symm) (by decide) rfl (fun ls hl => ?_)
  replace hl : lv_has ls 7 [(4, .int x150), (0, .ref (lc_ad G 8)), (1, .int x1), (2, .int x2), (3, .int x3)] := hl
  refine lv_goto (tgt := 13) hx hb dK_usesOf_153 (by decide) ?_
  exact hk13 hf (lv_sub hl [1, 2, 3, 4, 0] rfl) hH
set_option maxHeartbeats 4000000 in
set_option maxRecDepth 100000 in
theorem bK_usesOf_87 {p : Program} {l : Launch} {e : Env} {s : State} {m : MethodId} {args : Array Value} {below : List Frame} {meth : Method} {c : Code} {G : lc_G} (hx : p.tables.exec = Jvm.exec) (hb : c.code = prog_2_method_11_code) (hml : c.maxLocals = 7) (hr : meth.sig.returnType = (some .int)) (hlocks : meth.locks = false) (hown : s.vm.findClass "LinearCells$Checker" = some m.cls) (hts : ∀ w ∈ lc_ALL, w.before args s = true) (hE : lc_E G s) {k13 : Int32 → Int32 → Int32 → Int32 → lc_S → Option ((Int32) × lc_S)} {r : Int32} {z' : lc_S} (hk13 : ∀ {x1 : Int32} {x2 : Int32} {x3 : Int32} {x4 : Int32} {z : lc_S} {H : Heap} {locs : List Loc} {ls : Array Slot}, k13 x1 x2 x3 x4 z = some (r, z') → lv_has ls 7 [(0, .ref (lc_ad G 8)), (1, .int x1), (2, .int x2), (3, .int x3), (4, .int x4)] → lc_H G z s.heap H locs → W p l e (lc_rm 1) s m args below meth c H locs 0 0 (MQ below (lc_Q G (some (.int r)) z') args s 0 0 (lc_A G)) (F0 m 13 ls [])) : ∀ {x1 : Int32} {x2 : Int32} {x3 : Int32} {x4 : Int32} {x5 : Int32} {x6 : Int32} {z : lc_S} {H : Heap} {locs : List Loc} {ls : Array Slot}, fK_usesOf_87 k13 x1 x2 x3 x4 x5 x6 z = some (r, z') → lv_has ls 7 [(0, .ref (lc_ad G 8)), (1, .int x1), (2, .int x2), (3, .int x3), (4, .int x4), (5, .int x5), (6, .int x6)] → lc_H G z s.heap H locs → W p l e (lc_rm 1) s m args below meth c H locs 0 0 (MQ below (lc_Q G (some (.int r)) z') args s 0 0 (lc_A G)) (F0 m 87 ls []) := by
  intro x1 x2 x3 x4 x5 x6 z H locs ls hf hl hH
  rw [fK_usesOf_87] at hf
  refine lv_aload_n hx hb dK_usesOf_87 rfl (lv_at hl 0 rfl) ?_
  refine lc_getf (d := 10) (q := 18) hx hb hts hown hE hH flK_30 lc_h8 rfl rfl dK_usesOf_88 ?_
  refine lv_iload hx hb dK_usesOf_91 (lv_at hl 4 rfl) ?_
  refine lv_iload hx hb dK_usesOf_93 (lv_at hl 5 rfl) ?_
  refine lv_iload hx hb dK_usesOf_95 (lv_at hl 6 rfl) ?_
  refine lv_iadd hx hb dK_usesOf_97 ?_
  obtain ⟨hi98, hf⟩ := lc_chk_some hf
  refine lc_iast hx hb hE hH lc_h18 rfl hi98 dK_usesOf_98 (fun H locs hH => ?_)
  refine lv_aload_n hx hb dK_usesOf_99 rfl (lv_at hl 0 rfl) ?_
  obtain ⟨q100, hq100, hf⟩ := lc_bnr_some hf
  refine lc_getr hx hb hts hown hE hH flK_57 lc_h8 rfl hq100 dK_usesOf_100 ?_
  obtain ⟨hs103_0, hf⟩ := lc_chk_some hf
  refine lc_getf (d := 7) (q := q100 + 7) hx hb hts hown hE hH flK_96 hs103_0 rfl rfl dK_usesOf_103 ?_
  refine lv_iload hx hb dK_usesOf_106 (lv_at hl 4 rfl) ?_
  obtain ⟨hi108, hf⟩ := lc_chk_some hf
  refine lc_iald hx hb hE hH (lc_pr7 hs103_0) rfl hi108 dK_usesOf_108 ?_
  refine lv_iload_n hx hb dK_usesOf_109 rfl (lv_at hl 1 rfl) ?_
  refine lv_icmp_ne (tgt := 150) hx hb dK_usesOf_110 (by decide) (fun hc => ?_) (fun hc => ?_)
  · replace hf := lc_ite_neg hc hf
    exact bK_usesOf_150 hx hb hml hr hlocks hown hts hE (fun hf hl hH => hk13 hf hl hH) hf (lv_sub hl [0, 1, 2, 3, 4] rfl) hH
  · replace hf := lc_ite_pos hc hf
    refine lv_aload_n hx hb dK_usesOf_113 rfl (lv_at hl 0 rfl) ?_
    obtain ⟨q114, hq114, hf⟩ := lc_bnr_some hf
    refine lc_getr hx hb hts hown hE hH flK_57 lc_h8 rfl hq114 dK_usesOf_114 ?_
    obtain ⟨hs117_0, hf⟩ := lc_chk_some hf
    refine lc_getf (d := 6) (q := q114 + 6) hx hb hts hown hE hH flK_102 hs117_0 rfl rfl dK_usesOf_117 ?_
    refine lv_iload hx hb dK_usesOf_120 (lv_at hl 4 rfl) ?_
    obtain ⟨hi122, hf⟩ := lc_chk_some hf
    refine lc_iald hx hb hE hH (lc_pr6 hs117_0) rfl hi122 dK_usesOf_122 ?_
    refine lv_iload_n hx hb dK_usesOf_123 rfl (lv_at hl 2 rfl) ?_
    refine lv_icmp_ne (tgt := 150) hx hb dK_usesOf_124 (by decide) (fun hc => ?_) (fun hc => ?_)
    · replace hf := lc_ite_neg hc hf
      exact bK_usesOf_150 hx hb hml hr hlocks hown hts hE (fun hf hl hH => hk13 hf hl hH) hf (lv_sub hl [0, 1, 2, 3, 4] rfl) hH
    · replace hf := lc_ite_pos hc hf
      refine lv_aload_n hx hb dK_usesOf_127 rfl (lv_at hl 0 rfl) ?_
      obtain ⟨q128, hq128, hf⟩ := lc_bnr_some hf
      refine lc_getr hx hb hts hown hE hH flK_57 lc_h8 rfl hq128 dK_usesOf_128 ?_
      obtain ⟨hs131_0, hf⟩ := lc_chk_some hf
      refine lc_getf (d := 2) (q := q128 + 2) hx hb hts hown hE hH flK_93 hs131_0 rfl rfl dK_usesOf_131 ?_
      refine lv_iload hx hb dK_usesOf_134 (lv_at hl 4 rfl) ?_
      obtain ⟨hi136, hf⟩ := lc_chk_some hf
      refine lc_iald hx hb hE hH (lc_pr2 hs131_0) rfl hi136 dK_usesOf_136 ?_
      refine lv_bipush (v := 118) hx hb dK_usesOf_137 (by decide) ?_
      refine lv_icmp_ne (tgt := 150) hx hb dK_usesOf_139 (by decide) (fun hc => ?_) (fun hc => ?_)
      · replace hf := lc_ite_neg hc hf
        exact bK_usesOf_150 hx hb hml hr hlocks hown hts hE (fun hf hl hH => hk13 hf hl hH) hf (lv_sub hl [0, 1, 2, 3, 4] rfl) hH
      · replace hf := lc_ite_pos hc hf
        refine lv_aload_n hx hb dK_usesOf_142 rfl (lv_at hl 0 rfl) ?_
        refine lc_getf (d := 10) (q := 18) hx hb hts hown hE hH flK_30 lc_h8 rfl rfl dK_usesOf_143 ?_
        refine lv_iload hx hb dK_usesOf_146 (lv_at hl 4 rfl) ?_
        refine lv_iconst (v := 1) hx hb dK_usesOf_148 (by decide) ?_
        obtain ⟨hi149, hf⟩ := lc_chk_some hf
        refine lc_iast hx hb hE hH lc_h18 rfl hi149 dK_usesOf_149 (fun H locs hH => ?_)
        exact bK_usesOf_150 hx hb hml hr hlocks hown hts hE (fun hf hl hH => hk13 hf hl hH) hf (lv_sub hl [0, 1, 2, 3, 4] rfl) hH
set_option maxHeartbeats 4000000 in
set_option maxRecDepth 100000 in
theorem bK_usesOf_13 {p : Program} {l : Launch} {e : Env} {s : State} {m : MethodId} {args : Array Value} {below : List Frame} {meth : Method} {c : Code} {G : lc_G} (hx : p.tables.exec = Jvm.exec) (hb : c.code = prog_2_method_11_code) (hml : c.maxLocals = 7) (hr : meth.sig.returnType = (some .int)) (hlocks : meth.locks = false) (hown : s.vm.findClass "LinearCells$Checker" = some m.cls) (hts : ∀ w ∈ lc_ALL, w.before args s = true) (hE : lc_E G s) {r : Int32} {z' : lc_S} : ∀ (n : Nat) {x1 : Int32} {x2 : Int32} {x3 : Int32} {x4 : Int32} {z : lc_S} {H : Heap} {locs : List Loc} {ls : Array Slot}, fK_usesOf_13 n x1 x2 x3 x4 z = some (r, z') → lv_has ls 7 [(0, .ref (lc_ad G 8)), (1, .int x1), (2, .int x2), (3, .int x3), (4, .int x4)] → lc_H G z s.heap H locs → W p l e (lc_rm 1) s m args below meth c H locs 0 0 (MQ below (lc_Q G (some (.int r)) z') args s 0 0 (lc_A G)) (F0 m 13 ls []) := by
  intro n
  induction n with
  | zero =>
    intro x1 x2 x3 x4 z H locs ls hf hl hH
    exact absurd (show (none : Option ((Int32) × lc_S)) = some (r, z') from hf) (fun h => by cases h)
  | succ n ih =>
    intro x1 x2 x3 x4 z H locs ls hf hl hH
    rw [fK_usesOf_13] at hf
    refine lv_iload hx hb dK_usesOf_13 (lv_at hl 4 rfl) ?_
    refine lv_iload_n hx hb dK_usesOf_15 rfl (lv_at hl 3 rfl) ?_
    refine lv_icmp_gt (tgt := 156) hx hb dK_usesOf_16 (by decide) (fun hc => ?_) (fun hc => ?_)
    · replace hf := lc_ite_pos hc hf
      refine lv_aload_n hx hb dK_usesOf_156 rfl (lv_at hl 0 rfl) ?_
      refine lv_iload_n hx hb dK_usesOf_157 rfl (lv_at hl 3 rfl) ?_
      obtain ⟨r158, z158, h158, hf⟩ := lc_bnd_some hf
      refine lc_calli (va_runV (As := [.int x3]) (rest := []) ⟨hx, hb, hml, hown, hts⟩ (cK_usesOfPart l G h158) (lc_cwV hts kvK_133 (lc_room (by decide) (by decide))) (lc_preV hE hH lc_h8 rfl _) rfl rfl hl.1 rfl (lv_room (Nat.le_of_ble_eq_true rfl)) dK_usesOf_158 ⟨Nat.zero_le _, Nat.zero_le _⟩) hH (fun H locs hH => ?_)
      exact lc_iret hx hb hr hlocks hH hf dK_usesOf_161
    · replace hf := lc_ite_neg hc hf
      refine lv_aload_n hx hb dK_usesOf_19 rfl (lv_at hl 0 rfl) ?_
      refine lv_aload_n hx hb dK_usesOf_20 rfl (lv_at hl 0 rfl) ?_
      obtain ⟨q21, hq21, hf⟩ := lc_bnr_some hf
      refine lc_getr hx hb hts hown hE hH flK_57 lc_h8 rfl hq21 dK_usesOf_21 ?_
      obtain ⟨hs24_0, hf⟩ := lc_chk_some hf
      refine lc_getf (d := 3) (q := q21 + 3) hx hb hts hown hE hH flK_87 hs24_0 rfl rfl dK_usesOf_24 ?_
      refine lv_iload hx hb dK_usesOf_27 (lv_at hl 4 rfl) ?_
      obtain ⟨hi29, hf⟩ := lc_chk_some hf
      refine lc_iald hx hb hE hH (lc_pr3 hs24_0) rfl hi29 dK_usesOf_29 ?_
      obtain ⟨r30, z30, h30, hf⟩ := lc_bnd_some hf
      refine lc_calli (va_runV (As := [.int (lcI z (q21 + 3) x4.toNatClampNeg)]) (rest := []) ⟨hx, hb, hml, hown, hts⟩ (cK_usesOfPart l G h30) (lc_cwV hts kvK_133 (lc_room (by decide) (by decide))) (lc_preV hE hH lc_h8 rfl _) rfl rfl hl.1 rfl (lv_room (Nat.le_of_ble_eq_true rfl)) dK_usesOf_30 ⟨Nat.zero_le _, Nat.zero_le _⟩) hH (fun H locs hH => ?_)
      refine lv_istore hx hb dK_usesOf_33 hl (by decide) rfl (fun ls hl => ?_)
      replace hl : lv_has ls 7 [(5, .int r30), (0, .ref (lc_ad G 8)), (1, .int x1), (2, .int x2), (3, .int x3), (4, .int x4)] := hl
      refine lv_aload_n hx hb dK_usesOf_35 rfl (lv_at hl 1 rfl) ?_
      refine lv_aload_n hx hb dK_usesOf_36 rfl (lv_at hl 1 rfl) ?_
      obtain ⟨q37, hq37, hf⟩ := lc_bnr_some hf
      refine lc_getr hx hb hts hown hE hH flK_57 lc_h8 rfl hq37 dK_usesOf_37 ?_
      obtain ⟨hs40_0, hf⟩ := lc_chk_some hf
      refine lc_getf (d := 4) (q := q37 + 4) hx hb hts hown hE hH flK_90 hs40_0 rfl rfl dK_usesOf_40 ?_
      refine lv_iload hx hb dK_usesOf_43 (lv_at hl 5 rfl) ?_
      obtain ⟨hi45, hf⟩ := lc_chk_some hf
      refine lc_iald hx hb hE hH (lc_pr4 hs40_0) rfl hi45 dK_usesOf_45 ?_
      obtain ⟨r46, z46, h46, hf⟩ := lc_bnd_some hf
      refine lc_calli (va_runV (As := [.int (lcI z30 (q37 + 4) x4.toNatClampNeg)]) (rest := []) ⟨hx, hb, hml, hown, hts⟩ (cK_usesOfPart l G h46) (lc_cwV hts kvK_133 (lc_room (by decide) (by decide))) (lc_preV hE hH lc_h8 rfl _) rfl rfl hl.1 rfl (lv_room (Nat.le_of_ble_eq_true rfl)) dK_usesOf_46 ⟨Nat.zero_le _, Nat.zero_le _⟩) hH (fun H locs hH => ?_)
      refine lv_istore hx hb dK_usesOf_49 hl (by decide) rfl (fun ls hl => ?_)
      replace hl : lv_has ls 7 [(6, .int r46), (5, .int r30), (0, .ref (lc_ad G 8)), (1, .int x1), (2, .int x2), (3, .int x3), (4, .int x4)] := hl
      refine lv_aload_n hx hb dK_usesOf_51 rfl (lv_at hl 2 rfl) ?_
      obtain ⟨q52, hq52, hf⟩ := lc_bnr_some hf
      refine lc_getr hx hb hts hown hE hH flK_57 lc_h8 rfl hq52 dK_usesOf_52 ?_
      obtain ⟨hs55_0, hf⟩ := lc_chk_some hf
      refine lc_getf (d := 2) (q := q52 + 2) hx hb hts hown hE hH flK_93 hs55_0 rfl rfl dK_usesOf_55 ?_
      refine lv_iload hx hb dK_usesOf_58 (lv_at hl 6 rfl) ?_
      obtain ⟨hi60, hf⟩ := lc_chk_some hf
      refine lc_iald hx hb hE hH (lc_pr2 hs55_0) rfl hi60 dK_usesOf_60 ?_
      refine lv_bipush (v := 63) hx hb dK_usesOf_61 (by decide) ?_
      refine lv_icmp_ne (tgt := 87) hx hb dK_usesOf_63 (by decide) (fun hc => ?_) (fun hc => ?_)
      · replace hf := lc_ite_neg hc hf
        exact bK_usesOf_87 hx hb hml hr hlocks hown hts hE (fun hf hl hH => ih hf hl hH) hf (lv_sub hl [2, 3, 4, 5, 6, 1, 0] rfl) hH
      · replace hf := lc_ite_pos hc hf
        refine lv_iload hx hb dK_usesOf_66 (lv_at hl 0 rfl) ?_
        refine lv_aload_n hx hb dK_usesOf_68 rfl (lv_at hl 2 rfl) ?_
        refine lv_aload_n hx hb dK_usesOf_69 rfl (lv_at hl 2 rfl) ?_
        obtain ⟨q70, hq70, hf⟩ := lc_bnr_some hf
        refine lc_getr hx hb hts hown hE hH flK_57 lc_h8 rfl hq70 dK_usesOf_70 ?_
        obtain ⟨hs73_0, hf⟩ := lc_chk_some hf
        refine lc_getf (d := 5) (q := q70 + 5) hx hb hts hown hE hH flK_109 hs73_0 rfl rfl dK_usesOf_73 ?_
        refine lv_iload hx hb dK_usesOf_76 (lv_at hl 6 rfl) ?_
        obtain ⟨hi78, hf⟩ := lc_chk_some hf
        refine lc_iald hx hb hE hH (lc_pr5 hs73_0) rfl hi78 dK_usesOf_78 ?_
        obtain ⟨r79, z79, h79, hf⟩ := lc_bnd_some hf
        refine lc_calli (va_runV (As := [.int (lcI z46 (q70 + 5) x4.toNatClampNeg)]) (rest := [.int r46]) ⟨hx, hb, hml, hown, hts⟩ (cK_usesOfPart l G h79) (lc_cwV hts kvK_133 (lc_room (by decide) (by decide))) (lc_preV hE hH lc_h8 rfl _) rfl rfl hl.1 rfl (lv_room (Nat.le_of_ble_eq_true rfl)) dK_usesOf_79 ⟨Nat.zero_le _, Nat.zero_le _⟩) hH (fun H locs hH => ?_)
        refine lv_icmp_eq (tgt := 87) hx hb dK_usesOf_82 (by decide) (fun hc => ?_) (fun hc => ?_)
        · replace hf := lc_ite_pos hc hf
          exact bK_usesOf_87 hx hb hml hr hlocks hown hts hE (fun hf hl hH => ih hf hl hH) hf (lv_sub hl [2, 3, 4, 5, 6, 1, 0] rfl) hH
        · replace hf := lc_ite_neg hc hf
          refine lv_iconst (v := (-1)) hx hb dK_usesOf_85 (by decide) ?_
          exact lc_iret hx hb hr hlocks hH hf dK_usesOf_86
set_option maxHeartbeats 4000000 in
set_option maxRecDepth 100000 in
theorem cK_usesOf (l : Launch) (G : lc_G) {a1 : Int32} {a2 : Int32} {a3 : Int32} {r : Int32} {z z' : lc_S} (hf : fK_usesOf a1 a2 a3 z = some (r, z')) : lc_M l G yK_usesOf wK_usesOf 1 [.ref (lc_ad G 8), .int a1, .int a2, .int a3] z (some (.int r)) z' := by
  refine lc_M_of (cc := prog_2_method_11_code) (maxL := 7) (ret := (some .int)) (own := "LinearCells$Checker") (by decide) rfl (fun w h => List.mem_cons_of_mem _ h) (Nat.le_of_ble_eq_true rfl) rfl ?_
  intro p e s m below meth c hx hb hml hr hlocks hown hts hE ls hl hH
  replace hl : lv_has ls 7 [(0, .ref (lc_ad G 8)), (1, .int a1), (2, .int a2), (3, .int a3)] := hl
  rw [fK_usesOf] at hf
  refine lv_aload_n hx hb dK_usesOf_0 rfl (lv_at hl 0 rfl) ?_
  obtain ⟨q1, hq1, hf⟩ := lc_bnr_some hf
  refine lc_getr hx hb hts hown hE hH flK_57 lc_h8 rfl hq1 dK_usesOf_1 ?_
  obtain ⟨hs4_0, hf⟩ := lc_chk_some hf
  refine lc_getf (d := 8) (q := q1 + 8) hx hb hts hown hE hH flK_119 hs4_0 rfl rfl dK_usesOf_4 ?_
  refine lv_iload_n hx hb dK_usesOf_7 rfl (lv_at hl 1 rfl) ?_
  obtain ⟨hi8, hf⟩ := lc_chk_some hf
  refine lc_iald hx hb hE hH (lc_pr8 hs4_0) rfl hi8 dK_usesOf_8 ?_
  refine lv_iconst (v := 1) hx hb dK_usesOf_9 (by decide) ?_
  refine lv_iadd hx hb dK_usesOf_10 ?_
  refine lv_topi (fun x11 e11 => ?_)
  replace hf := lc_let_of e11 hf
  refine lv_istore hx hb dK_usesOf_11 hl (by decide) rfl (fun ls hl => ?_)
  replace hl : lv_has ls 7 [(4, .int x11), (0, .ref (lc_ad G 8)), (1, .int a1), (2, .int a2), (3, .int a3)] := hl
  exact bK_usesOf_13 hx hb hml hr hlocks hown hts hE _ hf (lv_sub hl [1, 2, 3, 4, 0] rfl) hH
