theorem dQ_step_0 : decode prog_10_method_40_code 0 = .ok (.aload_n 0, 1) := by decide +kernel
theorem dQ_step_1 : decode prog_10_method_40_code 1 = .ok (.getfield 268, 3) := by decide +kernel
theorem dQ_step_4 : decode prog_10_method_40_code 4 = .ok (.iconst 1, 1) := by decide +kernel
theorem dQ_step_5 : decode prog_10_method_40_code 5 = .ok (.isub, 1) := by decide +kernel
theorem dQ_step_6 : decode prog_10_method_40_code 6 = .ok (.istore_n 1, 1) := by decide +kernel
theorem dQ_step_7 : decode prog_10_method_40_code 7 = .ok (.aload_n 0, 1) := by decide +kernel
theorem dQ_step_8 : decode prog_10_method_40_code 8 = .ok (.getfield 86, 3) := by decide +kernel
theorem dQ_step_11 : decode prog_10_method_40_code 11 = .ok (.iload_n 1, 1) := by decide +kernel
theorem dQ_step_12 : decode prog_10_method_40_code 12 = .ok (.iaload, 1) := by decide +kernel
theorem dQ_step_13 : decode prog_10_method_40_code 13 = .ok (.aload_n 0, 1) := by decide +kernel
theorem dQ_step_14 : decode prog_10_method_40_code 14 = .ok (.getfield 83, 3) := by decide +kernel
theorem dQ_step_17 : decode prog_10_method_40_code 17 = .ok (.iload_n 1, 1) := by decide +kernel
theorem dQ_step_18 : decode prog_10_method_40_code 18 = .ok (.iaload, 1) := by decide +kernel
theorem dQ_step_19 : decode prog_10_method_40_code 19 = .ok (.iadd, 1) := by decide +kernel
theorem dQ_step_20 : decode prog_10_method_40_code 20 = .ok (.istore_n 2, 1) := by decide +kernel
theorem dQ_step_21 : decode prog_10_method_40_code 21 = .ok (.aload_n 0, 1) := by decide +kernel
theorem dQ_step_22 : decode prog_10_method_40_code 22 = .ok (.getfield 13, 3) := by decide +kernel
theorem dQ_step_25 : decode prog_10_method_40_code 25 = .ok (.iload_n 2, 1) := by decide +kernel
theorem dQ_step_26 : decode prog_10_method_40_code 26 = .ok (.iaload, 1) := by decide +kernel
theorem dQ_step_27 : decode prog_10_method_40_code 27 = .ok (.istore_n 3, 1) := by decide +kernel
theorem dQ_step_28 : decode prog_10_method_40_code 28 = .ok (.aload_n 0, 1) := by decide +kernel
theorem dQ_step_29 : decode prog_10_method_40_code 29 = .ok (.getfield 95, 3) := by decide +kernel
theorem dQ_step_32 : decode prog_10_method_40_code 32 = .ok (.iload_n 1, 1) := by decide +kernel
theorem dQ_step_33 : decode prog_10_method_40_code 33 = .ok (.iaload, 1) := by decide +kernel
theorem dQ_step_34 : decode prog_10_method_40_code 34 = .ok (.istore 4, 2) := by decide +kernel
theorem dQ_step_36 : decode prog_10_method_40_code 36 = .ok (.aload_n 0, 1) := by decide +kernel
theorem dQ_step_37 : decode prog_10_method_40_code 37 = .ok (.getfield 95, 3) := by decide +kernel
theorem dQ_step_40 : decode prog_10_method_40_code 40 = .ok (.iload_n 1, 1) := by decide +kernel
theorem dQ_step_41 : decode prog_10_method_40_code 41 = .ok (.dup2, 1) := by decide +kernel
theorem dQ_step_42 : decode prog_10_method_40_code 42 = .ok (.iaload, 1) := by decide +kernel
theorem dQ_step_43 : decode prog_10_method_40_code 43 = .ok (.iconst 1, 1) := by decide +kernel
theorem dQ_step_44 : decode prog_10_method_40_code 44 = .ok (.iadd, 1) := by decide +kernel
theorem dQ_step_45 : decode prog_10_method_40_code 45 = .ok (.iastore, 1) := by decide +kernel
theorem dQ_step_46 : decode prog_10_method_40_code 46 = .ok (.iload_n 3, 1) := by decide +kernel
theorem dQ_step_47 : decode prog_10_method_40_code 47 = .ok (.bipush 48, 2) := by decide +kernel
theorem dQ_step_49 : decode prog_10_method_40_code 49 = .ok (.if_icmp .ne 20, 3) := by decide +kernel
theorem dQ_step_52 : decode prog_10_method_40_code 52 = .ok (.aload_n 0, 1) := by decide +kernel
theorem dQ_step_53 : decode prog_10_method_40_code 53 = .ok (.aload_n 0, 1) := by decide +kernel
theorem dQ_step_54 : decode prog_10_method_40_code 54 = .ok (.getfield 16, 3) := by decide +kernel
theorem dQ_step_57 : decode prog_10_method_40_code 57 = .ok (.iload_n 2, 1) := by decide +kernel
theorem dQ_step_58 : decode prog_10_method_40_code 58 = .ok (.iaload, 1) := by decide +kernel
theorem dQ_step_59 : decode prog_10_method_40_code 59 = .ok (.i2l, 1) := by decide +kernel
theorem dQ_step_60 : decode prog_10_method_40_code 60 = .ok (.invokestatic 286, 3) := by decide +kernel
theorem dQ_step_63 : decode prog_10_method_40_code 63 = .ok (.invokevirtual 305, 3) := by decide +kernel
theorem dQ_step_66 : decode prog_10_method_40_code 66 = .ok (.goto 216, 3) := by decide +kernel
theorem dQ_step_69 : decode prog_10_method_40_code 69 = .ok (.iload_n 3, 1) := by decide +kernel
theorem dQ_step_70 : decode prog_10_method_40_code 70 = .ok (.bipush 120, 2) := by decide +kernel
theorem dQ_step_72 : decode prog_10_method_40_code 72 = .ok (.if_icmp .ne 32, 3) := by decide +kernel
theorem dQ_step_75 : decode prog_10_method_40_code 75 = .ok (.aload_n 0, 1) := by decide +kernel
theorem dQ_step_76 : decode prog_10_method_40_code 76 = .ok (.aload_n 0, 1) := by decide +kernel
theorem dQ_step_77 : decode prog_10_method_40_code 77 = .ok (.aload_n 0, 1) := by decide +kernel
theorem dQ_step_78 : decode prog_10_method_40_code 78 = .ok (.getfield 89, 3) := by decide +kernel
theorem dQ_step_81 : decode prog_10_method_40_code 81 = .ok (.iload_n 1, 1) := by decide +kernel
theorem dQ_step_82 : decode prog_10_method_40_code 82 = .ok (.iaload, 1) := by decide +kernel
theorem dQ_step_83 : decode prog_10_method_40_code 83 = .ok (.aload_n 0, 1) := by decide +kernel
theorem dQ_step_84 : decode prog_10_method_40_code 84 = .ok (.getfield 28, 3) := by decide +kernel
theorem dQ_step_87 : decode prog_10_method_40_code 87 = .ok (.iload_n 2, 1) := by decide +kernel
theorem dQ_step_88 : decode prog_10_method_40_code 88 = .ok (.iaload, 1) := by decide +kernel
theorem dQ_step_89 : decode prog_10_method_40_code 89 = .ok (.aload_n 0, 1) := by decide +kernel
theorem dQ_step_90 : decode prog_10_method_40_code 90 = .ok (.getfield 31, 3) := by decide +kernel
theorem dQ_step_93 : decode prog_10_method_40_code 93 = .ok (.iload_n 2, 1) := by decide +kernel
theorem dQ_step_94 : decode prog_10_method_40_code 94 = .ok (.baload, 1) := by decide +kernel
theorem dQ_step_95 : decode prog_10_method_40_code 95 = .ok (.invokevirtual 309, 3) := by decide +kernel
theorem dQ_step_98 : decode prog_10_method_40_code 98 = .ok (.invokevirtual 305, 3) := by decide +kernel
theorem dQ_step_101 : decode prog_10_method_40_code 101 = .ok (.goto 181, 3) := by decide +kernel
theorem dQ_step_104 : decode prog_10_method_40_code 104 = .ok (.iload 4, 2) := by decide +kernel
theorem dQ_step_106 : decode prog_10_method_40_code 106 = .ok (.ifCond .ne 34, 3) := by decide +kernel
theorem dQ_step_109 : decode prog_10_method_40_code 109 = .ok (.aload_n 0, 1) := by decide +kernel
theorem dQ_step_110 : decode prog_10_method_40_code 110 = .ok (.aload_n 0, 1) := by decide +kernel
theorem dQ_step_111 : decode prog_10_method_40_code 111 = .ok (.getfield 86, 3) := by decide +kernel
theorem dQ_step_114 : decode prog_10_method_40_code 114 = .ok (.iload_n 1, 1) := by decide +kernel
theorem dQ_step_115 : decode prog_10_method_40_code 115 = .ok (.iaload, 1) := by decide +kernel
theorem dQ_step_116 : decode prog_10_method_40_code 116 = .ok (.aload_n 0, 1) := by decide +kernel
theorem dQ_step_117 : decode prog_10_method_40_code 117 = .ok (.getfield 19, 3) := by decide +kernel
theorem dQ_step_120 : decode prog_10_method_40_code 120 = .ok (.iload_n 2, 1) := by decide +kernel
theorem dQ_step_121 : decode prog_10_method_40_code 121 = .ok (.iaload, 1) := by decide +kernel
theorem dQ_step_122 : decode prog_10_method_40_code 122 = .ok (.aload_n 0, 1) := by decide +kernel
theorem dQ_step_123 : decode prog_10_method_40_code 123 = .ok (.getfield 89, 3) := by decide +kernel
theorem dQ_step_126 : decode prog_10_method_40_code 126 = .ok (.iload_n 1, 1) := by decide +kernel
theorem dQ_step_127 : decode prog_10_method_40_code 127 = .ok (.iaload, 1) := by decide +kernel
theorem dQ_step_128 : decode prog_10_method_40_code 128 = .ok (.aload_n 0, 1) := by decide +kernel
theorem dQ_step_129 : decode prog_10_method_40_code 129 = .ok (.getfield 92, 3) := by decide +kernel
theorem dQ_step_132 : decode prog_10_method_40_code 132 = .ok (.iload_n 1, 1) := by decide +kernel
theorem dQ_step_133 : decode prog_10_method_40_code 133 = .ok (.iaload, 1) := by decide +kernel
theorem dQ_step_134 : decode prog_10_method_40_code 134 = .ok (.invokevirtual 294, 3) := by decide +kernel
theorem dQ_step_137 : decode prog_10_method_40_code 137 = .ok (.goto 145, 3) := by decide +kernel
theorem dQ_step_140 : decode prog_10_method_40_code 140 = .ok (.iload_n 3, 1) := by decide +kernel
theorem dQ_step_141 : decode prog_10_method_40_code 141 = .ok (.bipush 63, 2) := by decide +kernel
theorem dQ_step_143 : decode prog_10_method_40_code 143 = .ok (.if_icmp .eq 15, 3) := by decide +kernel
theorem dQ_step_146 : decode prog_10_method_40_code 146 = .ok (.iload_n 3, 1) := by decide +kernel
theorem dQ_step_147 : decode prog_10_method_40_code 147 = .ok (.bipush 58, 2) := by decide +kernel
theorem dQ_step_149 : decode prog_10_method_40_code 149 = .ok (.if_icmp .eq 9, 3) := by decide +kernel
theorem dQ_step_152 : decode prog_10_method_40_code 152 = .ok (.iload_n 3, 1) := by decide +kernel
theorem dQ_step_153 : decode prog_10_method_40_code 153 = .ok (.bipush 47, 2) := by decide +kernel
theorem dQ_step_155 : decode prog_10_method_40_code 155 = .ok (.if_icmp .ne 15, 3) := by decide +kernel
theorem dQ_step_158 : decode prog_10_method_40_code 158 = .ok (.aload_n 0, 1) := by decide +kernel
theorem dQ_step_159 : decode prog_10_method_40_code 159 = .ok (.iload_n 1, 1) := by decide +kernel
theorem dQ_step_160 : decode prog_10_method_40_code 160 = .ok (.iload_n 2, 1) := by decide +kernel
theorem dQ_step_161 : decode prog_10_method_40_code 161 = .ok (.iload_n 3, 1) := by decide +kernel
theorem dQ_step_162 : decode prog_10_method_40_code 162 = .ok (.iload 4, 2) := by decide +kernel
theorem dQ_step_164 : decode prog_10_method_40_code 164 = .ok (.invokevirtual 313, 3) := by decide +kernel
theorem dQ_step_167 : decode prog_10_method_40_code 167 = .ok (.goto 115, 3) := by decide +kernel
theorem dQ_step_170 : decode prog_10_method_40_code 170 = .ok (.iload_n 3, 1) := by decide +kernel
theorem dQ_step_171 : decode prog_10_method_40_code 171 = .ok (.invokestatic 214, 3) := by decide +kernel
theorem dQ_step_174 : decode prog_10_method_40_code 174 = .ok (.iconst 2, 1) := by decide +kernel
theorem dQ_step_175 : decode prog_10_method_40_code 175 = .ok (.if_icmp .ne 50, 3) := by decide +kernel
theorem dQ_step_178 : decode prog_10_method_40_code 178 = .ok (.iload 4, 2) := by decide +kernel
theorem dQ_step_180 : decode prog_10_method_40_code 180 = .ok (.iconst 1, 1) := by decide +kernel
theorem dQ_step_181 : decode prog_10_method_40_code 181 = .ok (.if_icmp .ne 44, 3) := by decide +kernel
theorem dQ_step_184 : decode prog_10_method_40_code 184 = .ok (.aload_n 0, 1) := by decide +kernel
theorem dQ_step_185 : decode prog_10_method_40_code 185 = .ok (.getfield 98, 3) := by decide +kernel
theorem dQ_step_188 : decode prog_10_method_40_code 188 = .ok (.iload_n 1, 1) := by decide +kernel
theorem dQ_step_189 : decode prog_10_method_40_code 189 = .ok (.aload_n 0, 1) := by decide +kernel
theorem dQ_step_190 : decode prog_10_method_40_code 190 = .ok (.getfield 301, 3) := by decide +kernel
theorem dQ_step_193 : decode prog_10_method_40_code 193 = .ok (.lastore, 1) := by decide +kernel
theorem dQ_step_194 : decode prog_10_method_40_code 194 = .ok (.aload_n 0, 1) := by decide +kernel
theorem dQ_step_195 : decode prog_10_method_40_code 195 = .ok (.aload_n 0, 1) := by decide +kernel
theorem dQ_step_196 : decode prog_10_method_40_code 196 = .ok (.getfield 86, 3) := by decide +kernel
theorem dQ_step_199 : decode prog_10_method_40_code 199 = .ok (.iload_n 1, 1) := by decide +kernel
theorem dQ_step_200 : decode prog_10_method_40_code 200 = .ok (.iaload, 1) := by decide +kernel
theorem dQ_step_201 : decode prog_10_method_40_code 201 = .ok (.aload_n 0, 1) := by decide +kernel
theorem dQ_step_202 : decode prog_10_method_40_code 202 = .ok (.getfield 22, 3) := by decide +kernel
theorem dQ_step_205 : decode prog_10_method_40_code 205 = .ok (.iload_n 2, 1) := by decide +kernel
theorem dQ_step_206 : decode prog_10_method_40_code 206 = .ok (.iaload, 1) := by decide +kernel
theorem dQ_step_207 : decode prog_10_method_40_code 207 = .ok (.aload_n 0, 1) := by decide +kernel
theorem dQ_step_208 : decode prog_10_method_40_code 208 = .ok (.getfield 89, 3) := by decide +kernel
theorem dQ_step_211 : decode prog_10_method_40_code 211 = .ok (.iload_n 1, 1) := by decide +kernel
theorem dQ_step_212 : decode prog_10_method_40_code 212 = .ok (.iaload, 1) := by decide +kernel
theorem dQ_step_213 : decode prog_10_method_40_code 213 = .ok (.aload_n 0, 1) := by decide +kernel
theorem dQ_step_214 : decode prog_10_method_40_code 214 = .ok (.getfield 92, 3) := by decide +kernel
theorem dQ_step_217 : decode prog_10_method_40_code 217 = .ok (.iload_n 1, 1) := by decide +kernel
theorem dQ_step_218 : decode prog_10_method_40_code 218 = .ok (.iaload, 1) := by decide +kernel
theorem dQ_step_219 : decode prog_10_method_40_code 219 = .ok (.invokevirtual 294, 3) := by decide +kernel
theorem dQ_step_222 : decode prog_10_method_40_code 222 = .ok (.goto 60, 3) := by decide +kernel
theorem dQ_step_225 : decode prog_10_method_40_code 225 = .ok (.iload_n 3, 1) := by decide +kernel
theorem dQ_step_226 : decode prog_10_method_40_code 226 = .ok (.bipush 64, 2) := by decide +kernel
theorem dQ_step_228 : decode prog_10_method_40_code 228 = .ok (.if_icmp .ne 19, 3) := by decide +kernel
theorem dQ_step_231 : decode prog_10_method_40_code 231 = .ok (.aload_n 0, 1) := by decide +kernel
theorem dQ_step_232 : decode prog_10_method_40_code 232 = .ok (.iload_n 1, 1) := by decide +kernel
theorem dQ_step_233 : decode prog_10_method_40_code 233 = .ok (.aload_n 0, 1) := by decide +kernel
theorem dQ_step_234 : decode prog_10_method_40_code 234 = .ok (.getfield 16, 3) := by decide +kernel
theorem dQ_step_237 : decode prog_10_method_40_code 237 = .ok (.iload_n 2, 1) := by decide +kernel
theorem dQ_step_238 : decode prog_10_method_40_code 238 = .ok (.iaload, 1) := by decide +kernel
theorem dQ_step_239 : decode prog_10_method_40_code 239 = .ok (.iload 4, 2) := by decide +kernel
theorem dQ_step_241 : decode prog_10_method_40_code 241 = .ok (.invokevirtual 316, 3) := by decide +kernel
theorem dQ_step_244 : decode prog_10_method_40_code 244 = .ok (.goto 38, 3) := by decide +kernel
theorem dQ_step_247 : decode prog_10_method_40_code 247 = .ok (.iload_n 3, 1) := by decide +kernel
theorem dQ_step_248 : decode prog_10_method_40_code 248 = .ok (.invokestatic 214, 3) := by decide +kernel
theorem dQ_step_251 : decode prog_10_method_40_code 251 = .ok (.iconst 2, 1) := by decide +kernel
theorem dQ_step_252 : decode prog_10_method_40_code 252 = .ok (.if_icmp .ne 21, 3) := by decide +kernel
theorem dQ_step_255 : decode prog_10_method_40_code 255 = .ok (.aload_n 0, 1) := by decide +kernel
theorem dQ_step_256 : decode prog_10_method_40_code 256 = .ok (.iload_n 3, 1) := by decide +kernel
theorem dQ_step_257 : decode prog_10_method_40_code 257 = .ok (.aload_n 0, 1) := by decide +kernel
theorem dQ_step_258 : decode prog_10_method_40_code 258 = .ok (.getfield 98, 3) := by decide +kernel
theorem dQ_step_261 : decode prog_10_method_40_code 261 = .ok (.iload_n 1, 1) := by decide +kernel
theorem dQ_step_262 : decode prog_10_method_40_code 262 = .ok (.laload, 1) := by decide +kernel
theorem dQ_step_263 : decode prog_10_method_40_code 263 = .ok (.aload_n 0, 1) := by decide +kernel
theorem dQ_step_264 : decode prog_10_method_40_code 264 = .ok (.getfield 301, 3) := by decide +kernel
theorem dQ_step_267 : decode prog_10_method_40_code 267 = .ok (.invokevirtual 320, 3) := by decide +kernel
theorem dQ_step_270 : decode prog_10_method_40_code 270 = .ok (.goto 12, 3) := by decide +kernel
theorem dQ_step_273 : decode prog_10_method_40_code 273 = .ok (.aload_n 0, 1) := by decide +kernel
theorem dQ_step_274 : decode prog_10_method_40_code 274 = .ok (.iload_n 3, 1) := by decide +kernel
theorem dQ_step_275 : decode prog_10_method_40_code 275 = .ok (.aload_n 0, 1) := by decide +kernel
theorem dQ_step_276 : decode prog_10_method_40_code 276 = .ok (.getfield 301, 3) := by decide +kernel
theorem dQ_step_279 : decode prog_10_method_40_code 279 = .ok (.invokevirtual 324, 3) := by decide +kernel
theorem dQ_step_282 : decode prog_10_method_40_code 282 = .ok (.return_, 1) := by decide +kernel
def fQ_step_158 (x1 : Int32) (x2 : Int32) (x3 : Int32) (x4 : Int32) (z : lc_S) : Option ((Unit) × lc_S) :=
  lc_bnd (fQ_goOn x1 x2 x3 x4 z) (fun r164 z164 => some ((), z164))
def fQ_step_225 (x1 : Int32) (x2 : Int32) (x3 : Int32) (x4 : Int32) (z : lc_S) : Option ((Unit) × lc_S) :=
  if x3 = 64 then (lc_chk (lc_in x2 600) (lc_bnd (fQ_call x1 (lcI z 83 x2.toNatClampNeg) x4 z) (fun r241 z241 => some ((), z241)))) else (lc_bnd (fQ_partsOf x3 z) (fun r248 z248 => if r248 = 2 then (lc_chk (lc_in x1 430) (lc_bnd (fQ_two x3 (lcL z248 110 x1.toNatClampNeg) (lcL z248 80 47) z248) (fun r267 z267 => some ((), z267)))) else (lc_bnd (fQ_one x3 (lcL z248 80 47) z248) (fun r279 z279 => some ((), z279)))))
def fQ_step (z : lc_S) : Option ((Unit) × lc_S) :=
  lc_let ((lcI z 80 33) - 1) (fun x6 => lc_chk (lc_in x6 430) (lc_chk (lc_in x6 430) (lc_let ((lcI z 106 x6.toNatClampNeg) + (lcI z 105 x6.toNatClampNeg)) (fun x20 => lc_chk (lc_in x20 600) (lc_let (lcI z 82 x20.toNatClampNeg) (fun x27 => lc_chk (lc_in x6 430) (lc_let (lcI z 109 x6.toNatClampNeg) (fun x34 => lc_chk (lc_in x6 430) (lc_chk (lc_in x6 430) (if x27 = 48 then (lc_chk (lc_in x20 600) (lc_bnd (fQ_plain ((lcI (lcUI z 109 x6.toNatClampNeg ((lcI z 109 x6.toNatClampNeg) + 1)) 83 x20.toNatClampNeg).toInt64) (lcUI z 109 x6.toNatClampNeg ((lcI z 109 x6.toNatClampNeg) + 1))) (fun r60 z60 => lc_bnd (fQ_answer r60 z60) (fun r63 z63 => some ((), z63))))) else (if x27 = 120 then (lc_chk (lc_in x6 430) (lc_chk (lc_in x20 600) (lc_chk (lc_in x20 600) (lc_bnd (fQ_lookUp (lcI (lcUI z 109 x6.toNatClampNeg ((lcI z 109 x6.toNatClampNeg) + 1)) 107 x6.toNatClampNeg) (lcI (lcUI z 109 x6.toNatClampNeg ((lcI z 109 x6.toNatClampNeg) + 1)) 87 x20.toNatClampNeg) (lcI (lcUI z 109 x6.toNatClampNeg ((lcI z 109 x6.toNatClampNeg) + 1)) 88 x20.toNatClampNeg) (lcUI z 109 x6.toNatClampNeg ((lcI z 109 x6.toNatClampNeg) + 1))) (fun r95 z95 => lc_bnd (fQ_answer r95 z95) (fun r98 z98 => some ((), z98))))))) else (if x34 = 0 then (lc_chk (lc_in x6 430) (lc_chk (lc_in x20 600) (lc_chk (lc_in x6 430) (lc_chk (lc_in x6 430) (lc_bnd (fQ_enter (lcI (lcUI z 109 x6.toNatClampNeg ((lcI z 109 x6.toNatClampNeg) + 1)) 106 x6.toNatClampNeg) (lcI (lcUI z 109 x6.toNatClampNeg ((lcI z 109 x6.toNatClampNeg) + 1)) 84 x20.toNatClampNeg) (lcI (lcUI z 109 x6.toNatClampNeg ((lcI z 109 x6.toNatClampNeg) + 1)) 107 x6.toNatClampNeg) (lcI (lcUI z 109 x6.toNatClampNeg ((lcI z 109 x6.toNatClampNeg) + 1)) 108 x6.toNatClampNeg) (lcUI z 109 x6.toNatClampNeg ((lcI z 109 x6.toNatClampNeg) + 1))) (fun r134 z134 => some ((), z134))))))) else (if x27 = 63 then (fQ_step_158 x6 x20 x27 x34 (lcUI z 109 x6.toNatClampNeg ((lcI z 109 x6.toNatClampNeg) + 1))) else (if x27 = 58 then (fQ_step_158 x6 x20 x27 x34 (lcUI z 109 x6.toNatClampNeg ((lcI z 109 x6.toNatClampNeg) + 1))) else (if x27 = 47 then (fQ_step_158 x6 x20 x27 x34 (lcUI z 109 x6.toNatClampNeg ((lcI z 109 x6.toNatClampNeg) + 1))) else (lc_bnd (fQ_partsOf x27 (lcUI z 109 x6.toNatClampNeg ((lcI z 109 x6.toNatClampNeg) + 1))) (fun r171 z171 => if r171 = 2 then (if x34 = 1 then (lc_chk (lc_in x6 430) (lc_chk (lc_in x6 430) (lc_chk (lc_in x20 600) (lc_chk (lc_in x6 430) (lc_chk (lc_in x6 430) (lc_bnd (fQ_enter (lcI (lcUL z171 110 x6.toNatClampNeg (lcL z171 80 47)) 106 x6.toNatClampNeg) (lcI (lcUL z171 110 x6.toNatClampNeg (lcL z171 80 47)) 85 x20.toNatClampNeg) (lcI (lcUL z171 110 x6.toNatClampNeg (lcL z171 80 47)) 107 x6.toNatClampNeg) (lcI (lcUL z171 110 x6.toNatClampNeg (lcL z171 80 47)) 108 x6.toNatClampNeg) (lcUL z171 110 x6.toNatClampNeg (lcL z171 80 47))) (fun r219 z219 => some ((), z219)))))))) else (fQ_step_225 x6 x20 x27 x34 z171)) else (fQ_step_225 x6 x20 x27 x34 z171))))))))))))))))))
set_option maxHeartbeats 4000000 in
set_option maxRecDepth 100000 in
theorem bQ_step_158 {p : Program} {l : Launch} {e : Env} {s : State} {m : MethodId} {args : Array Value} {below : List Frame} {meth : Method} {c : Code} {G : lc_G} (hx : p.tables.exec = Jvm.exec) (hb : c.code = prog_10_method_40_code) (hml : c.maxLocals = 5) (hr : meth.sig.returnType = none) (hlocks : meth.locks = false) (hown : s.vm.findClass "LinearCellsModel" = some m.cls) (hts : ∀ w ∈ lc_ALL, w.before args s = true) (hE : lc_E G s) {r : Unit} {z' : lc_S} : ∀ {x1 : Int32} {x2 : Int32} {x3 : Int32} {x4 : Int32} {z : lc_S} {H : Heap} {locs : List Loc} {ls : Array Slot}, fQ_step_158 x1 x2 x3 x4 z = some (r, z') → lv_has ls 5 [(0, .ref (lc_ad G 80)), (1, .int x1), (2, .int x2), (3, .int x3), (4, .int x4)] → lc_H G z s.heap H locs → W p l e (lc_rm 3) s m args below meth c H locs 0 0 (MQ below (lc_Q G none z') args s 0 0 (lc_A G)) (F0 m 158 ls []) := by
  intro x1 x2 x3 x4 z H locs ls hf hl hH
  rw [fQ_step_158] at hf
  refine lv_aload_n hx hb dQ_step_158 rfl (lv_at hl 0 rfl) ?_
  refine lv_iload_n hx hb dQ_step_159 rfl (lv_at hl 1 rfl) ?_
  refine lv_iload_n hx hb dQ_step_160 rfl (lv_at hl 2 rfl) ?_
  refine lv_iload_n hx hb dQ_step_161 rfl (lv_at hl 3 rfl) ?_
  refine lv_iload hx hb dQ_step_162 (lv_at hl 4 rfl) ?_
  obtain ⟨r164, z164, h164, hf⟩ := lc_bnd_some hf
  refine lc_callv (va_runV (As := [.int x1, .int x2, .int x3, .int x4]) (rest := []) ⟨hx, hb, hml, hown, hts⟩ (cQ_goOn l G h164) (lc_cwV hts kvQ_313 (lc_room (by decide) (by decide))) (lc_preV hE hH lc_h80 rfl _) rfl rfl hl.1 rfl (lv_room (Nat.le_of_ble_eq_true rfl)) dQ_step_164 ⟨Nat.zero_le _, Nat.zero_le _⟩) hH (fun H locs hH => ?_)
  refine lv_goto (tgt := 282) hx hb dQ_step_167 (by decide) ?_
  exact lc_vret hx hb hr hlocks hH hf dQ_step_282
set_option maxHeartbeats 4000000 in
set_option maxRecDepth 100000 in
theorem bQ_step_225 {p : Program} {l : Launch} {e : Env} {s : State} {m : MethodId} {args : Array Value} {below : List Frame} {meth : Method} {c : Code} {G : lc_G} (hx : p.tables.exec = Jvm.exec) (hb : c.code = prog_10_method_40_code) (hml : c.maxLocals = 5) (hr : meth.sig.returnType = none) (hlocks : meth.locks = false) (hown : s.vm.findClass "LinearCellsModel" = some m.cls) (hts : ∀ w ∈ lc_ALL, w.before args s = true) (hE : lc_E G s) {r : Unit} {z' : lc_S} : ∀ {x1 : Int32} {x2 : Int32} {x3 : Int32} {x4 : Int32} {z : lc_S} {H : Heap} {locs : List Loc} {ls : Array Slot}, fQ_step_225 x1 x2 x3 x4 z = some (r, z') → lv_has ls 5 [(0, .ref (lc_ad G 80)), (1, .int x1), (2, .int x2), (3, .int x3), (4, .int x4)] → lc_H G z s.heap H locs → W p l e (lc_rm 3) s m args below meth c H locs 0 0 (MQ below (lc_Q G none z') args s 0 0 (lc_A G)) (F0 m 225 ls []) := by
  intro x1 x2 x3 x4 z H locs ls hf hl hH
  rw [fQ_step_225] at hf
  refine lv_iload_n hx hb dQ_step_225 rfl (lv_at hl 3 rfl) ?_
  refine lv_bipush (v := 64) hx hb dQ_step_226 (by decide) ?_
  refine lv_icmp_ne (tgt := 247) hx hb dQ_step_228 (by decide) (fun hc => ?_) (fun hc => ?_)
  · replace hf := lc_ite_neg hc hf
    refine lv_iload_n hx hb dQ_step_247 rfl (lv_at hl 3 rfl) ?_
    obtain ⟨r248, z248, h248, hf⟩ := lc_bnd_some hf
    refine lc_calli (va_runS (As := [.int x3]) (rest := []) ⟨hx, hb, hml, hown, hts⟩ (cQ_partsOf l G h248) (lc_cwS hts ksQ_214 (lc_room (by decide) (by decide))) (lc_preS hE hH _) rfl rfl hl.1 rfl (lv_room (Nat.le_of_ble_eq_true rfl)) dQ_step_248 ⟨Nat.zero_le _, Nat.zero_le _⟩) hH (fun H locs hH => ?_)
    refine lv_iconst (v := 2) hx hb dQ_step_251 (by decide) ?_
    refine lv_icmp_ne (tgt := 273) hx hb dQ_step_252 (by decide) (fun hc => ?_) (fun hc => ?_)
    · replace hf := lc_ite_neg hc hf
      refine lv_aload_n hx hb dQ_step_273 rfl (lv_at hl 0 rfl) ?_
      refine lv_iload_n hx hb dQ_step_274 rfl (lv_at hl 3 rfl) ?_
      refine lv_aload_n hx hb dQ_step_275 rfl (lv_at hl 0 rfl) ?_
      refine lc_getl hx hb hts hown hE hH flQ_301 lc_h80 rfl dQ_step_276 ?_
      obtain ⟨r279, z279, h279, hf⟩ := lc_bnd_some hf
      refine lc_callv (va_runV (As := [.int x3, .long (lcL z248 80 47)]) (rest := []) ⟨hx, hb, hml, hown, hts⟩ (cQ_one l G h279) (lc_cwV hts kvQ_324 (lc_room (by decide) (by decide))) (lc_preV hE hH lc_h80 rfl _) rfl rfl hl.1 rfl (lv_room (Nat.le_of_ble_eq_true rfl)) dQ_step_279 ⟨Nat.zero_le _, Nat.zero_le _⟩) hH (fun H locs hH => ?_)
      exact lc_vret hx hb hr hlocks hH hf dQ_step_282
    · replace hf := lc_ite_pos hc hf
      refine lv_aload_n hx hb dQ_step_255 rfl (lv_at hl 0 rfl) ?_
      refine lv_iload_n hx hb dQ_step_256 rfl (lv_at hl 3 rfl) ?_
      refine lv_aload_n hx hb dQ_step_257 rfl (lv_at hl 0 rfl) ?_
      refine lc_getf (d := 30) (q := 110) hx hb hts hown hE hH flQ_98 lc_h80 rfl rfl dQ_step_258 ?_
      refine lv_iload_n hx hb dQ_step_261 rfl (lv_at hl 1 rfl) ?_
      obtain ⟨hi262, hf⟩ := lc_chk_some hf
      refine lc_lald hx hb hE hH lc_h110 rfl hi262 dQ_step_262 ?_
      refine lv_aload_n hx hb dQ_step_263 rfl (lv_at hl 0 rfl) ?_
      refine lc_getl hx hb hts hown hE hH flQ_301 lc_h80 rfl dQ_step_264 ?_
      obtain ⟨r267, z267, h267, hf⟩ := lc_bnd_some hf
      refine lc_callv (va_runV (As := [.int x3, .long (lcL z248 110 x1.toNatClampNeg), .long (lcL z248 80 47)]) (rest := []) ⟨hx, hb, hml, hown, hts⟩ (cQ_two l G h267) (lc_cwV hts kvQ_320 (lc_room (by decide) (by decide))) (lc_preV hE hH lc_h80 rfl _) rfl rfl hl.1 rfl (lv_room (Nat.le_of_ble_eq_true rfl)) dQ_step_267 ⟨Nat.zero_le _, Nat.zero_le _⟩) hH (fun H locs hH => ?_)
      refine lv_goto (tgt := 282) hx hb dQ_step_270 (by decide) ?_
      exact lc_vret hx hb hr hlocks hH hf dQ_step_282
  · replace hf := lc_ite_pos hc hf
    refine lv_aload_n hx hb dQ_step_231 rfl (lv_at hl 0 rfl) ?_
    refine lv_iload_n hx hb dQ_step_232 rfl (lv_at hl 1 rfl) ?_
    refine lv_aload_n hx hb dQ_step_233 rfl (lv_at hl 0 rfl) ?_
    refine lc_getf (d := 3) (q := 83) hx hb hts hown hE hH flQ_16 lc_h80 rfl rfl dQ_step_234 ?_
    refine lv_iload_n hx hb dQ_step_237 rfl (lv_at hl 2 rfl) ?_
    obtain ⟨hi238, hf⟩ := lc_chk_some hf
    refine lc_iald hx hb hE hH lc_h83 rfl hi238 dQ_step_238 ?_
    refine lv_iload hx hb dQ_step_239 (lv_at hl 4 rfl) ?_
    obtain ⟨r241, z241, h241, hf⟩ := lc_bnd_some hf
    refine lc_callv (va_runV (As := [.int x1, .int (lcI z 83 x2.toNatClampNeg), .int x4]) (rest := []) ⟨hx, hb, hml, hown, hts⟩ (cQ_call l G h241) (lc_cwV hts kvQ_316 (lc_room (by decide) (by decide))) (lc_preV hE hH lc_h80 rfl _) rfl rfl hl.1 rfl (lv_room (Nat.le_of_ble_eq_true rfl)) dQ_step_241 ⟨Nat.zero_le _, Nat.zero_le _⟩) hH (fun H locs hH => ?_)
    refine lv_goto (tgt := 282) hx hb dQ_step_244 (by decide) ?_
    exact lc_vret hx hb hr hlocks hH hf dQ_step_282
set_option maxHeartbeats 4000000 in
set_option maxRecDepth 100000 in
theorem cQ_step (l : Launch) (G : lc_G) {r : Unit} {z z' : lc_S} (hf : fQ_step z = some (r, z')) : lc_M l G yQ_step wQ_step 3 [.ref (lc_ad G 80)] z none z' := by
  refine lc_M_of (cc := prog_10_method_40_code) (maxL := 5) (ret := none) (own := "LinearCellsModel") (by decide) rfl (fun w h => List.mem_cons_of_mem _ h) (Nat.le_of_ble_eq_true rfl) rfl ?_
  intro p e s m below meth c hx hb hml hr hlocks hown hts hE ls hl hH
  replace hl : lv_has ls 5 [(0, .ref (lc_ad G 80))] := hl
  rw [fQ_step] at hf
  refine lv_aload_n hx hb dQ_step_0 rfl (lv_at hl 0 rfl) ?_
  refine lc_geti hx hb hts hown hE hH flQ_268 lc_h80 rfl dQ_step_1 ?_
  refine lv_iconst (v := 1) hx hb dQ_step_4 (by decide) ?_
  refine lv_isub hx hb dQ_step_5 ?_
  refine lv_topi (fun x6 e6 => ?_)
  replace hf := lc_let_of e6 hf
  refine lv_istore_n hx hb dQ_step_6 rfl hl (by decide) rfl (fun ls hl => ?_)
  replace hl : lv_has ls 5 [(1, .int x6), (0, .ref (lc_ad G 80))] := hl
  refine lv_aload_n hx hb dQ_step_7 rfl (lv_at hl 1 rfl) ?_
  refine lc_getf (d := 26) (q := 106) hx hb hts hown hE hH flQ_86 lc_h80 rfl rfl dQ_step_8 ?_
  refine lv_iload_n hx hb dQ_step_11 rfl (lv_at hl 0 rfl) ?_
  obtain ⟨hi12, hf⟩ := lc_chk_some hf
  refine lc_iald hx hb hE hH lc_h106 rfl hi12 dQ_step_12 ?_
  refine lv_aload_n hx hb dQ_step_13 rfl (lv_at hl 1 rfl) ?_
  refine lc_getf (d := 25) (q := 105) hx hb hts hown hE hH flQ_83 lc_h80 rfl rfl dQ_step_14 ?_
  refine lv_iload_n hx hb dQ_step_17 rfl (lv_at hl 0 rfl) ?_
  obtain ⟨hi18, hf⟩ := lc_chk_some hf
  refine lc_iald hx hb hE hH lc_h105 rfl hi18 dQ_step_18 ?_
  refine lv_iadd hx hb dQ_step_19 ?_
  refine lv_topi (fun x20 e20 => ?_)
  replace hf := lc_let_of e20 hf
  refine lv_istore_n hx hb dQ_step_20 rfl hl (by decide) rfl (fun ls hl => ?_)
  replace hl : lv_has ls 5 [(2, .int x20), (1, .int x6), (0, .ref (lc_ad G 80))] := hl
  refine lv_aload_n hx hb dQ_step_21 rfl (lv_at hl 2 rfl) ?_
  refine lc_getf (d := 2) (q := 82) hx hb hts hown hE hH flQ_13 lc_h80 rfl rfl dQ_step_22 ?_
  refine lv_iload_n hx hb dQ_step_25 rfl (lv_at hl 0 rfl) ?_
  obtain ⟨hi26, hf⟩ := lc_chk_some hf
  refine lc_iald hx hb hE hH lc_h82 rfl hi26 dQ_step_26 ?_
  refine lv_topi (fun x27 e27 => ?_)
  replace hf := lc_let_of e27 hf
  refine lv_istore_n hx hb dQ_step_27 rfl hl (by decide) rfl (fun ls hl => ?_)
  replace hl : lv_has ls 5 [(3, .int x27), (2, .int x20), (1, .int x6), (0, .ref (lc_ad G 80))] := hl
  refine lv_aload_n hx hb dQ_step_28 rfl (lv_at hl 3 rfl) ?_
  refine lc_getf (d := 29) (q := 109) hx hb hts hown hE hH flQ_95 lc_h80 rfl rfl dQ_step_29 ?_
  refine lv_iload_n hx hb dQ_step_32 rfl (lv_at hl 2 rfl) ?_
  obtain ⟨hi33, hf⟩ := lc_chk_some hf
  refine lc_iald hx hb hE hH lc_h109 rfl hi33 dQ_step_33 ?_
  refine lv_topi (fun x34 e34 => ?_)
  replace hf := lc_let_of e34 hf
  refine lv_istore hx hb dQ_step_34 hl (by decide) rfl (fun ls hl => ?_)
  replace hl : lv_has ls 5 [(4, .int x34), (3, .int x27), (2, .int x20), (1, .int x6), (0, .ref (lc_ad G 80))] := hl
  refine lv_aload_n hx hb dQ_step_36 rfl (lv_at hl 4 rfl) ?_
  refine lc_getf (d := 29) (q := 109) hx hb hts hown hE hH flQ_95 lc_h80 rfl rfl dQ_step_37 ?_
  refine lv_iload_n hx hb dQ_step_40 rfl (lv_at hl 3 rfl) ?_
  refine lv_dup2_11 hx hb dQ_step_41 rfl rfl ?_
  obtain ⟨hi42, hf⟩ := lc_chk_some hf
  refine lc_iald hx hb hE hH lc_h109 rfl hi42 dQ_step_42 ?_
  refine lv_iconst (v := 1) hx hb dQ_step_43 (by decide) ?_
  refine lv_iadd hx hb dQ_step_44 ?_
  obtain ⟨hi45, hf⟩ := lc_chk_some hf
  refine lc_iast hx hb hE hH lc_h109 rfl hi45 dQ_step_45 (fun H locs hH => ?_)
  refine lv_iload_n hx hb dQ_step_46 rfl (lv_at hl 1 rfl) ?_
  refine lv_bipush (v := 48) hx hb dQ_step_47 (by decide) ?_
  refine lv_icmp_ne (tgt := 69) hx hb dQ_step_49 (by decide) (fun hc => ?_) (fun hc => ?_)
  · replace hf := lc_ite_neg hc hf
    refine lv_iload_n hx hb dQ_step_69 rfl (lv_at hl 1 rfl) ?_
    refine lv_bipush (v := 120) hx hb dQ_step_70 (by decide) ?_
    refine lv_icmp_ne (tgt := 104) hx hb dQ_step_72 (by decide) (fun hc => ?_) (fun hc => ?_)
    · replace hf := lc_ite_neg hc hf
      refine lv_iload hx hb dQ_step_104 (lv_at hl 0 rfl) ?_
      refine lv_if_ne (tgt := 140) hx hb dQ_step_106 (by decide) (fun hc => ?_) (fun hc => ?_)
      · replace hf := lc_ite_neg hc hf
        refine lv_iload_n hx hb dQ_step_140 rfl (lv_at hl 1 rfl) ?_
        refine lv_bipush (v := 63) hx hb dQ_step_141 (by decide) ?_
        refine lv_icmp_eq (tgt := 158) hx hb dQ_step_143 (by decide) (fun hc => ?_) (fun hc => ?_)
        · replace hf := lc_ite_pos hc hf
          exact bQ_step_158 hx hb hml hr hlocks hown hts hE hf (lv_sub hl [4, 3, 2, 1, 0] rfl) hH
        · replace hf := lc_ite_neg hc hf
          refine lv_iload_n hx hb dQ_step_146 rfl (lv_at hl 1 rfl) ?_
          refine lv_bipush (v := 58) hx hb dQ_step_147 (by decide) ?_
          refine lv_icmp_eq (tgt := 158) hx hb dQ_step_149 (by decide) (fun hc => ?_) (fun hc => ?_)
          · replace hf := lc_ite_pos hc hf
            exact bQ_step_158 hx hb hml hr hlocks hown hts hE hf (lv_sub hl [4, 3, 2, 1, 0] rfl) hH
          · replace hf := lc_ite_neg hc hf
            refine lv_iload_n hx hb dQ_step_152 rfl (lv_at hl 1 rfl) ?_
            refine lv_bipush (v := 47) hx hb dQ_step_153 (by decide) ?_
            refine lv_icmp_ne (tgt := 170) hx hb dQ_step_155 (by decide) (fun hc => ?_) (fun hc => ?_)
            · replace hf := lc_ite_neg hc hf
              refine lv_iload_n hx hb dQ_step_170 rfl (lv_at hl 1 rfl) ?_
              obtain ⟨r171, z171, h171, hf⟩ := lc_bnd_some hf
              refine lc_calli (va_runS (As := [.int x27]) (rest := []) ⟨hx, hb, hml, hown, hts⟩ (cQ_partsOf l G h171) (lc_cwS hts ksQ_214 (lc_room (by decide) (by decide))) (lc_preS hE hH _) rfl rfl hl.1 rfl (lv_room (Nat.le_of_ble_eq_true rfl)) dQ_step_171 ⟨Nat.zero_le _, Nat.zero_le _⟩) hH (fun H locs hH => ?_)
              refine lv_iconst (v := 2) hx hb dQ_step_174 (by decide) ?_
              refine lv_icmp_ne (tgt := 225) hx hb dQ_step_175 (by decide) (fun hc => ?_) (fun hc => ?_)
              · replace hf := lc_ite_neg hc hf
                exact bQ_step_225 hx hb hml hr hlocks hown hts hE hf (lv_sub hl [4, 3, 2, 1, 0] rfl) hH
              · replace hf := lc_ite_pos hc hf
                refine lv_iload hx hb dQ_step_178 (lv_at hl 0 rfl) ?_
                refine lv_iconst (v := 1) hx hb dQ_step_180 (by decide) ?_
                refine lv_icmp_ne (tgt := 225) hx hb dQ_step_181 (by decide) (fun hc => ?_) (fun hc => ?_)
                · replace hf := lc_ite_neg hc hf
                  exact bQ_step_225 hx hb hml hr hlocks hown hts hE hf (lv_sub hl [4, 3, 2, 1, 0] rfl) hH
                · replace hf := lc_ite_pos hc hf
                  refine lv_aload_n hx hb dQ_step_184 rfl (lv_at hl 4 rfl) ?_
                  refine lc_getf (d := 30) (q := 110) hx hb hts hown hE hH flQ_98 lc_h80 rfl rfl dQ_step_185 ?_
                  refine lv_iload_n hx hb dQ_step_188 rfl (lv_at hl 3 rfl) ?_
                  refine lv_aload_n hx hb dQ_step_189 rfl (lv_at hl 4 rfl) ?_
                  refine lc_getl hx hb hts hown hE hH flQ_301 lc_h80 rfl dQ_step_190 ?_
                  obtain ⟨hi193, hf⟩ := lc_chk_some hf
                  refine lc_last hx hb hE hH lc_h110 rfl hi193 dQ_step_193 (fun H locs hH => ?_)
                  refine lv_aload_n hx hb dQ_step_194 rfl (lv_at hl 4 rfl) ?_
                  refine lv_aload_n hx hb dQ_step_195 rfl (lv_at hl 4 rfl) ?_
                  refine lc_getf (d := 26) (q := 106) hx hb hts hown hE hH flQ_86 lc_h80 rfl rfl dQ_step_196 ?_
                  refine lv_iload_n hx hb dQ_step_199 rfl (lv_at hl 3 rfl) ?_
                  obtain ⟨hi200, hf⟩ := lc_chk_some hf
                  refine lc_iald hx hb hE hH lc_h106 rfl hi200 dQ_step_200 ?_
                  refine lv_aload_n hx hb dQ_step_201 rfl (lv_at hl 4 rfl) ?_
                  refine lc_getf (d := 5) (q := 85) hx hb hts hown hE hH flQ_22 lc_h80 rfl rfl dQ_step_202 ?_
                  refine lv_iload_n hx hb dQ_step_205 rfl (lv_at hl 2 rfl) ?_
                  obtain ⟨hi206, hf⟩ := lc_chk_some hf
                  refine lc_iald hx hb hE hH lc_h85 rfl hi206 dQ_step_206 ?_
                  refine lv_aload_n hx hb dQ_step_207 rfl (lv_at hl 4 rfl) ?_
                  refine lc_getf (d := 27) (q := 107) hx hb hts hown hE hH flQ_89 lc_h80 rfl rfl dQ_step_208 ?_
                  refine lv_iload_n hx hb dQ_step_211 rfl (lv_at hl 3 rfl) ?_
                  obtain ⟨hi212, hf⟩ := lc_chk_some hf
                  refine lc_iald hx hb hE hH lc_h107 rfl hi212 dQ_step_212 ?_
                  refine lv_aload_n hx hb dQ_step_213 rfl (lv_at hl 4 rfl) ?_
                  refine lc_getf (d := 28) (q := 108) hx hb hts hown hE hH flQ_92 lc_h80 rfl rfl dQ_step_214 ?_
                  refine lv_iload_n hx hb dQ_step_217 rfl (lv_at hl 3 rfl) ?_
                  obtain ⟨hi218, hf⟩ := lc_chk_some hf
                  refine lc_iald hx hb hE hH lc_h108 rfl hi218 dQ_step_218 ?_
                  obtain ⟨r219, z219, h219, hf⟩ := lc_bnd_some hf
                  refine lc_callv (va_runV (As := [.int (lcI (lcUL z171 110 x6.toNatClampNeg (lcL z171 80 47)) 106 x6.toNatClampNeg), .int (lcI (lcUL z171 110 x6.toNatClampNeg (lcL z171 80 47)) 85 x20.toNatClampNeg), .int (lcI (lcUL z171 110 x6.toNatClampNeg (lcL z171 80 47)) 107 x6.toNatClampNeg), .int (lcI (lcUL z171 110 x6.toNatClampNeg (lcL z171 80 47)) 108 x6.toNatClampNeg)]) (rest := []) ⟨hx, hb, hml, hown, hts⟩ (cQ_enter l G h219) (lc_cwV hts kvQ_294 (lc_room (by decide) (by decide))) (lc_preV hE hH lc_h80 rfl _) rfl rfl hl.1 rfl (lv_room (Nat.le_of_ble_eq_true rfl)) dQ_step_219 ⟨Nat.zero_le _, Nat.zero_le _⟩) hH (fun H locs hH => ?_)
                  refine lv_goto (tgt := 282) hx hb dQ_step_222 (by decide) ?_
                  exact lc_vret hx hb hr hlocks hH hf dQ_step_282
            · replace hf := lc_ite_pos hc hf
              exact bQ_step_158 hx hb hml hr hlocks hown hts hE hf (lv_sub hl [4, 3, 2, 1, 0] rfl) hH
      · replace hf := lc_ite_pos hc hf
        refine lv_aload_n hx hb dQ_step_109 rfl (lv_at hl 4 rfl) ?_
        refine lv_aload_n hx hb dQ_step_110 rfl (lv_at hl 4 rfl) ?_
        refine lc_getf (d := 26) (q := 106) hx hb hts hown hE hH flQ_86 lc_h80 rfl rfl dQ_step_111 ?_
        refine lv_iload_n hx hb dQ_step_114 rfl (lv_at hl 3 rfl) ?_
        obtain ⟨hi115, hf⟩ := lc_chk_some hf
        refine lc_iald hx hb hE hH lc_h106 rfl hi115 dQ_step_115 ?_
        refine lv_aload_n hx hb dQ_step_116 rfl (lv_at hl 4 rfl) ?_
        refine lc_getf (d := 4) (q := 84) hx hb hts hown hE hH flQ_19 lc_h80 rfl rfl dQ_step_117 ?_
        refine lv_iload_n hx hb dQ_step_120 rfl (lv_at hl 2 rfl) ?_
        obtain ⟨hi121, hf⟩ := lc_chk_some hf
        refine lc_iald hx hb hE hH lc_h84 rfl hi121 dQ_step_121 ?_
        refine lv_aload_n hx hb dQ_step_122 rfl (lv_at hl 4 rfl) ?_
        refine lc_getf (d := 27) (q := 107) hx hb hts hown hE hH flQ_89 lc_h80 rfl rfl dQ_step_123 ?_
        refine lv_iload_n hx hb dQ_step_126 rfl (lv_at hl 3 rfl) ?_
        obtain ⟨hi127, hf⟩ := lc_chk_some hf
        refine lc_iald hx hb hE hH lc_h107 rfl hi127 dQ_step_127 ?_
        refine lv_aload_n hx hb dQ_step_128 rfl (lv_at hl 4 rfl) ?_
        refine lc_getf (d := 28) (q := 108) hx hb hts hown hE hH flQ_92 lc_h80 rfl rfl dQ_step_129 ?_
        refine lv_iload_n hx hb dQ_step_132 rfl (lv_at hl 3 rfl) ?_
        obtain ⟨hi133, hf⟩ := lc_chk_some hf
        refine lc_iald hx hb hE hH lc_h108 rfl hi133 dQ_step_133 ?_
        obtain ⟨r134, z134, h134, hf⟩ := lc_bnd_some hf
        refine lc_callv (va_runV (As := [.int (lcI (lcUI z 109 x6.toNatClampNeg ((lcI z 109 x6.toNatClampNeg) + 1)) 106 x6.toNatClampNeg), .int (lcI (lcUI z 109 x6.toNatClampNeg ((lcI z 109 x6.toNatClampNeg) + 1)) 84 x20.toNatClampNeg), .int (lcI (lcUI z 109 x6.toNatClampNeg ((lcI z 109 x6.toNatClampNeg) + 1)) 107 x6.toNatClampNeg), .int (lcI (lcUI z 109 x6.toNatClampNeg ((lcI z 109 x6.toNatClampNeg) + 1)) 108 x6.toNatClampNeg)]) (rest := []) ⟨hx, hb, hml, hown, hts⟩ (cQ_enter l G h134) (lc_cwV hts kvQ_294 (lc_room (by decide) (by decide))) (lc_preV hE hH lc_h80 rfl _) rfl rfl hl.1 rfl (lv_room (Nat.le_of_ble_eq_true rfl)) dQ_step_134 ⟨Nat.zero_le _, Nat.zero_le _⟩) hH (fun H locs hH => ?_)
        refine lv_goto (tgt := 282) hx hb dQ_step_137 (by decide) ?_
        exact lc_vret hx hb hr hlocks hH hf dQ_step_282
    · replace hf := lc_ite_pos hc hf
      refine lv_aload_n hx hb dQ_step_75 rfl (lv_at hl 4 rfl) ?_
      refine lv_aload_n hx hb dQ_step_76 rfl (lv_at hl 4 rfl) ?_
      refine lv_aload_n hx hb dQ_step_77 rfl (lv_at hl 4 rfl) ?_
      refine lc_getf (d := 27) (q := 107) hx hb hts hown hE hH flQ_89 lc_h80 rfl rfl dQ_step_78 ?_
      refine lv_iload_n hx hb dQ_step_81 rfl (lv_at hl 3 rfl) ?_
      obtain ⟨hi82, hf⟩ := lc_chk_some hf
      refine lc_iald hx hb hE hH lc_h107 rfl hi82 dQ_step_82 ?_
      refine lv_aload_n hx hb dQ_step_83 rfl (lv_at hl 4 rfl) ?_
      refine lc_getf (d := 7) (q := 87) hx hb hts hown hE hH flQ_28 lc_h80 rfl rfl dQ_step_84 ?_
      refine lv_iload_n hx hb dQ_step_87 rfl (lv_at hl 2 rfl) ?_
      obtain ⟨hi88, hf⟩ := lc_chk_some hf
      refine lc_iald hx hb hE hH lc_h87 rfl hi88 dQ_step_88 ?_
      refine lv_aload_n hx hb dQ_step_89 rfl (lv_at hl 4 rfl) ?_
      refine lc_getf (d := 8) (q := 88) hx hb hts hown hE hH flQ_31 lc_h80 rfl rfl dQ_step_90 ?_
      refine lv_iload_n hx hb dQ_step_93 rfl (lv_at hl 2 rfl) ?_
      obtain ⟨hi94, hf⟩ := lc_chk_some hf
      refine lc_zald hx hb hE hH lc_h88 rfl hi94 dQ_step_94 ?_
      obtain ⟨r95, z95, h95, hf⟩ := lc_bnd_some hf
      refine lc_calll (va_runV (As := [.int (lcI (lcUI z 109 x6.toNatClampNeg ((lcI z 109 x6.toNatClampNeg) + 1)) 107 x6.toNatClampNeg), .int (lcI (lcUI z 109 x6.toNatClampNeg ((lcI z 109 x6.toNatClampNeg) + 1)) 87 x20.toNatClampNeg), .int (lcI (lcUI z 109 x6.toNatClampNeg ((lcI z 109 x6.toNatClampNeg) + 1)) 88 x20.toNatClampNeg)]) (rest := [.ref (lc_ad G 80)]) ⟨hx, hb, hml, hown, hts⟩ (cQ_lookUp l G h95) (lc_cwV hts kvQ_309 (lc_room (by decide) (by decide))) (lc_preV hE hH lc_h80 rfl _) rfl rfl hl.1 rfl (lv_room (Nat.le_of_ble_eq_true rfl)) dQ_step_95 ⟨Nat.zero_le _, Nat.zero_le _⟩) hH (fun H locs hH => ?_)
      obtain ⟨r98, z98, h98, hf⟩ := lc_bnd_some hf
      refine lc_callv (va_runV (As := [.long r95]) (rest := []) ⟨hx, hb, hml, hown, hts⟩ (cQ_answer l G h98) (lc_cwV hts kvQ_305 (lc_room (by decide) (by decide))) (lc_preV hE hH lc_h80 rfl _) rfl rfl hl.1 rfl (lv_room (Nat.le_of_ble_eq_true rfl)) dQ_step_98 ⟨Nat.zero_le _, Nat.zero_le _⟩) hH (fun H locs hH => ?_)
      refine lv_goto (tgt := 282) hx hb dQ_step_101 (by decide) ?_
      exact lc_vret hx hb hr hlocks hH hf dQ_step_282
  · replace hf := lc_ite_pos hc hf
    refine lv_aload_n hx hb dQ_step_52 rfl (lv_at hl 4 rfl) ?_
    refine lv_aload_n hx hb dQ_step_53 rfl (lv_at hl 4 rfl) ?_
    refine lc_getf (d := 3) (q := 83) hx hb hts hown hE hH flQ_16 lc_h80 rfl rfl dQ_step_54 ?_
    refine lv_iload_n hx hb dQ_step_57 rfl (lv_at hl 2 rfl) ?_
    obtain ⟨hi58, hf⟩ := lc_chk_some hf
    refine lc_iald hx hb hE hH lc_h83 rfl hi58 dQ_step_58 ?_
    refine lv_i2l hx hb dQ_step_59 rfl ?_
    obtain ⟨r60, z60, h60, hf⟩ := lc_bnd_some hf
    refine lc_calll (va_runS (As := [.long ((lcI (lcUI z 109 x6.toNatClampNeg ((lcI z 109 x6.toNatClampNeg) + 1)) 83 x20.toNatClampNeg).toInt64)]) (rest := [.ref (lc_ad G 80)]) ⟨hx, hb, hml, hown, hts⟩ (cQ_plain l G h60) (lc_cwS hts ksQ_286 (lc_room (by decide) (by decide))) (lc_preS hE hH _) rfl rfl hl.1 rfl (lv_room (Nat.le_of_ble_eq_true rfl)) dQ_step_60 ⟨Nat.zero_le _, Nat.zero_le _⟩) hH (fun H locs hH => ?_)
    obtain ⟨r63, z63, h63, hf⟩ := lc_bnd_some hf
    refine lc_callv (va_runV (As := [.long r60]) (rest := []) ⟨hx, hb, hml, hown, hts⟩ (cQ_answer l G h63) (lc_cwV hts kvQ_305 (lc_room (by decide) (by decide))) (lc_preV hE hH lc_h80 rfl _) rfl rfl hl.1 rfl (lv_room (Nat.le_of_ble_eq_true rfl)) dQ_step_63 ⟨Nat.zero_le _, Nat.zero_le _⟩) hH (fun H locs hH => ?_)
    refine lv_goto (tgt := 282) hx hb dQ_step_66 (by decide) ?_
    exact lc_vret hx hb hr hlocks hH hf dQ_step_282
theorem dQ_run_0 : decode prog_10_method_38_code 0 = .ok (.aload_n 0, 1) := by decide +kernel
theorem dQ_run_1 : decode prog_10_method_38_code 1 = .ok (.aload_n 0, 1) := by decide +kernel
theorem dQ_run_2 : decode prog_10_method_38_code 2 = .ok (.iload_n 1, 1) := by decide +kernel
theorem dQ_run_3 : decode prog_10_method_38_code 3 = .ok (.invokevirtual 230, 3) := by decide +kernel
theorem dQ_run_6 : decode prog_10_method_38_code 6 = .ok (.ifCond .eq 7, 3) := by decide +kernel
theorem dQ_run_9 : decode prog_10_method_38_code 9 = .ok (.iconst 0, 1) := by decide +kernel
theorem dQ_run_10 : decode prog_10_method_38_code 10 = .ok (.goto 4, 3) := by decide +kernel
theorem dQ_run_13 : decode prog_10_method_38_code 13 = .ok (.iconst 1, 1) := by decide +kernel
theorem dQ_run_14 : decode prog_10_method_38_code 14 = .ok (.putfield 135, 3) := by decide +kernel
theorem dQ_run_17 : decode prog_10_method_38_code 17 = .ok (.aload_n 0, 1) := by decide +kernel
theorem dQ_run_18 : decode prog_10_method_38_code 18 = .ok (.getfield 135, 3) := by decide +kernel
theorem dQ_run_21 : decode prog_10_method_38_code 21 = .ok (.ifCond .le 5, 3) := by decide +kernel
theorem dQ_run_24 : decode prog_10_method_38_code 24 = .ok (.iconst 0, 1) := by decide +kernel
theorem dQ_run_25 : decode prog_10_method_38_code 25 = .ok (.ireturn, 1) := by decide +kernel
theorem dQ_run_26 : decode prog_10_method_38_code 26 = .ok (.aload_n 0, 1) := by decide +kernel
theorem dQ_run_27 : decode prog_10_method_38_code 27 = .ok (.iconst 1, 1) := by decide +kernel
theorem dQ_run_28 : decode prog_10_method_38_code 28 = .ok (.putfield 274, 3) := by decide +kernel
theorem dQ_run_31 : decode prog_10_method_38_code 31 = .ok (.aload_n 0, 1) := by decide +kernel
theorem dQ_run_32 : decode prog_10_method_38_code 32 = .ok (.iconst 0, 1) := by decide +kernel
theorem dQ_run_33 : decode prog_10_method_38_code 33 = .ok (.putfield 259, 3) := by decide +kernel
theorem dQ_run_36 : decode prog_10_method_38_code 36 = .ok (.aload_n 0, 1) := by decide +kernel
theorem dQ_run_37 : decode prog_10_method_38_code 37 = .ok (.iconst 0, 1) := by decide +kernel
theorem dQ_run_38 : decode prog_10_method_38_code 38 = .ok (.putfield 262, 3) := by decide +kernel
theorem dQ_run_41 : decode prog_10_method_38_code 41 = .ok (.aload_n 0, 1) := by decide +kernel
theorem dQ_run_42 : decode prog_10_method_38_code 42 = .ok (.iconst 0, 1) := by decide +kernel
theorem dQ_run_43 : decode prog_10_method_38_code 43 = .ok (.putfield 277, 3) := by decide +kernel
theorem dQ_run_46 : decode prog_10_method_38_code 46 = .ok (.aload_n 0, 1) := by decide +kernel
theorem dQ_run_47 : decode prog_10_method_38_code 47 = .ok (.iconst 0, 1) := by decide +kernel
theorem dQ_run_48 : decode prog_10_method_38_code 48 = .ok (.putfield 280, 3) := by decide +kernel
theorem dQ_run_51 : decode prog_10_method_38_code 51 = .ok (.aload_n 0, 1) := by decide +kernel
theorem dQ_run_52 : decode prog_10_method_38_code 52 = .ok (.iconst 0, 1) := by decide +kernel
theorem dQ_run_53 : decode prog_10_method_38_code 53 = .ok (.putfield 283, 3) := by decide +kernel
theorem dQ_run_56 : decode prog_10_method_38_code 56 = .ok (.aload_n 0, 1) := by decide +kernel
theorem dQ_run_57 : decode prog_10_method_38_code 57 = .ok (.iconst 0, 1) := by decide +kernel
theorem dQ_run_58 : decode prog_10_method_38_code 58 = .ok (.putfield 271, 3) := by decide +kernel
theorem dQ_run_61 : decode prog_10_method_38_code 61 = .ok (.aload_n 0, 1) := by decide +kernel
theorem dQ_run_62 : decode prog_10_method_38_code 62 = .ok (.iconst 0, 1) := by decide +kernel
theorem dQ_run_63 : decode prog_10_method_38_code 63 = .ok (.putfield 268, 3) := by decide +kernel
theorem dQ_run_66 : decode prog_10_method_38_code 66 = .ok (.iconst 0, 1) := by decide +kernel
theorem dQ_run_67 : decode prog_10_method_38_code 67 = .ok (.istore_n 3, 1) := by decide +kernel
theorem dQ_run_68 : decode prog_10_method_38_code 68 = .ok (.iload_n 3, 1) := by decide +kernel
theorem dQ_run_69 : decode prog_10_method_38_code 69 = .ok (.bipush 12, 2) := by decide +kernel
theorem dQ_run_71 : decode prog_10_method_38_code 71 = .ok (.if_icmp .ge 16, 3) := by decide +kernel
theorem dQ_run_74 : decode prog_10_method_38_code 74 = .ok (.aload_n 0, 1) := by decide +kernel
theorem dQ_run_75 : decode prog_10_method_38_code 75 = .ok (.getfield 114, 3) := by decide +kernel
theorem dQ_run_78 : decode prog_10_method_38_code 78 = .ok (.iload_n 3, 1) := by decide +kernel
theorem dQ_run_79 : decode prog_10_method_38_code 79 = .ok (.iconst 0, 1) := by decide +kernel
theorem dQ_run_80 : decode prog_10_method_38_code 80 = .ok (.bastore, 1) := by decide +kernel
theorem dQ_run_81 : decode prog_10_method_38_code 81 = .ok (.iinc 3 1, 3) := by decide +kernel
theorem dQ_run_84 : decode prog_10_method_38_code 84 = .ok (.goto (-16), 3) := by decide +kernel
theorem dQ_run_87 : decode prog_10_method_38_code 87 = .ok (.aload_n 0, 1) := by decide +kernel
theorem dQ_run_88 : decode prog_10_method_38_code 88 = .ok (.bipush 120, 2) := by decide +kernel
theorem dQ_run_90 : decode prog_10_method_38_code 90 = .ok (.iload_n 1, 1) := by decide +kernel
theorem dQ_run_91 : decode prog_10_method_38_code 91 = .ok (.iconst 1, 1) := by decide +kernel
theorem dQ_run_92 : decode prog_10_method_38_code 92 = .ok (.iadd, 1) := by decide +kernel
theorem dQ_run_93 : decode prog_10_method_38_code 93 = .ok (.imul, 1) := by decide +kernel
theorem dQ_run_94 : decode prog_10_method_38_code 94 = .ok (.iconst 0, 1) := by decide +kernel
theorem dQ_run_95 : decode prog_10_method_38_code 95 = .ok (.aload_n 0, 1) := by decide +kernel
theorem dQ_run_96 : decode prog_10_method_38_code 96 = .ok (.iconst (-1), 1) := by decide +kernel
theorem dQ_run_97 : decode prog_10_method_38_code 97 = .ok (.iconst 0, 1) := by decide +kernel
theorem dQ_run_98 : decode prog_10_method_38_code 98 = .ok (.iload_n 2, 1) := by decide +kernel
theorem dQ_run_99 : decode prog_10_method_38_code 99 = .ok (.i2l, 1) := by decide +kernel
theorem dQ_run_100 : decode prog_10_method_38_code 100 = .ok (.invokestatic 286, 3) := by decide +kernel
theorem dQ_run_103 : decode prog_10_method_38_code 103 = .ok (.iconst (-1), 1) := by decide +kernel
theorem dQ_run_104 : decode prog_10_method_38_code 104 = .ok (.invokevirtual 290, 3) := by decide +kernel
theorem dQ_run_107 : decode prog_10_method_38_code 107 = .ok (.iconst 1, 1) := by decide +kernel
theorem dQ_run_108 : decode prog_10_method_38_code 108 = .ok (.invokevirtual 294, 3) := by decide +kernel
theorem dQ_run_111 : decode prog_10_method_38_code 111 = .ok (.aload_n 0, 1) := by decide +kernel
theorem dQ_run_112 : decode prog_10_method_38_code 112 = .ok (.getfield 268, 3) := by decide +kernel
theorem dQ_run_115 : decode prog_10_method_38_code 115 = .ok (.ifCond .le 17, 3) := by decide +kernel
theorem dQ_run_118 : decode prog_10_method_38_code 118 = .ok (.aload_n 0, 1) := by decide +kernel
theorem dQ_run_119 : decode prog_10_method_38_code 119 = .ok (.getfield 259, 3) := by decide +kernel
theorem dQ_run_122 : decode prog_10_method_38_code 122 = .ok (.ifCond .ne 10, 3) := by decide +kernel
theorem dQ_run_125 : decode prog_10_method_38_code 125 = .ok (.aload_n 0, 1) := by decide +kernel
theorem dQ_run_126 : decode prog_10_method_38_code 126 = .ok (.invokevirtual 298, 3) := by decide +kernel
theorem dQ_run_129 : decode prog_10_method_38_code 129 = .ok (.goto (-18), 3) := by decide +kernel
theorem dQ_run_132 : decode prog_10_method_38_code 132 = .ok (.aload_n 0, 1) := by decide +kernel
theorem dQ_run_133 : decode prog_10_method_38_code 133 = .ok (.getfield 259, 3) := by decide +kernel
theorem dQ_run_136 : decode prog_10_method_38_code 136 = .ok (.ireturn, 1) := by decide +kernel
def fQ_run_132 (z : lc_S) : Option ((Int32) × lc_S) :=
  some (lcI z 80 45, z)
def fQ_run_111 : Nat → lc_S → Option ((Int32) × lc_S)
  | 0, _ => none
  | n + 1, z => if (lcI z 80 33) ≤ 0 then (fQ_run_132 z) else (if (lcI z 80 45) = 0 then (lc_bnd (fQ_step z) (fun r126 z126 => fQ_run_111 n z126)) else (fQ_run_132 z))
def fQ_run_68 : Nat → Int32 → Int32 → Int32 → lc_S → Option ((Int32) × lc_S)
  | 0, _, _, _, _ => none
  | n + 1, x1, x2, x3, z => if 12 ≤ x3 then (lc_bnd (fQ_plain x2.toInt64 z) (fun r100 z100 => lc_bnd (fQ_withName (-1) 0 r100 (-1) z100) (fun r104 z104 => lc_bnd (fQ_enter (120 * (x1 + 1)) 0 r104 1 z104) (fun r108 z108 => fQ_run_111 lc_FU z108)))) else (lc_chk (lc_in x3 12) (lc_let (x3 + 1) (fun x81 => fQ_run_68 n x1 x2 x81 (lcUI z 115 x3.toNatClampNeg 0))))
def fQ_run_14 (x1 : Int32) (x2 : Int32) (t1 : Int32) (z : lc_S) : Option ((Int32) × lc_S) :=
  if (lcI (lcUI z 80 0 t1) 80 0) ≤ 0 then (fQ_run_68 lc_FU x1 x2 0 (lcUI (lcUI (lcUI (lcUI (lcUI (lcUI (lcUI (lcUI (lcUI z 80 0 t1) 80 46 1) 80 45 0) 80 48 0) 80 49 0) 80 50 0) 80 53 0) 80 40 0) 80 33 0)) else (some (0, lcUI z 80 0 t1))
def fQ_run (a1 : Int32) (a2 : Int32) (z : lc_S) : Option ((Int32) × lc_S) :=
  lc_bnd (fQ_isThere a1 z) (fun r3 z3 => if r3 = 0 then (fQ_run_14 a1 a2 1 z3) else (fQ_run_14 a1 a2 0 z3))
set_option maxHeartbeats 4000000 in
set_option maxRecDepth 100000 in
theorem bQ_run_132 {p : Program} {l : Launch} {e : Env} {s : State} {m : MethodId} {args : Array Value} {below : List Frame} {meth : Method} {c : Code} {G : lc_G} (hx : p.tables.exec = Jvm.exec) (hb : c.code = prog_10_method_38_code) (hml : c.maxLocals = 4) (hr : meth.sig.returnType = (some .int)) (hlocks : meth.locks = false) (hown : s.vm.findClass "LinearCellsModel" = some m.cls) (hts : ∀ w ∈ lc_ALL, w.before args s = true) (hE : lc_E G s) {r : Int32} {z' : lc_S} : ∀ {z : lc_S} {H : Heap} {locs : List Loc} {ls : Array Slot}, fQ_run_132 z = some (r, z') → lv_has ls 4 [(0, .ref (lc_ad G 80))] → lc_H G z s.heap H locs → W p l e (lc_rm 4) s m args below meth c H locs 0 0 (MQ below (lc_Q G (some (.int r)) z') args s 0 0 (lc_A G)) (F0 m 132 ls []) := by
  intro z H locs ls hf hl hH
  rw [fQ_run_132] at hf
  refine lv_aload_n hx hb dQ_run_132 rfl (lv_at hl 0 rfl) ?_
  refine lc_geti hx hb hts hown hE hH flQ_259 lc_h80 rfl dQ_run_133 ?_
  exact lc_iret hx hb hr hlocks hH hf dQ_run_136
set_option maxHeartbeats 4000000 in
set_option maxRecDepth 100000 in
theorem bQ_run_111 {p : Program} {l : Launch} {e : Env} {s : State} {m : MethodId} {args : Array Value} {below : List Frame} {meth : Method} {c : Code} {G : lc_G} (hx : p.tables.exec = Jvm.exec) (hb : c.code = prog_10_method_38_code) (hml : c.maxLocals = 4) (hr : meth.sig.returnType = (some .int)) (hlocks : meth.locks = false) (hown : s.vm.findClass "LinearCellsModel" = some m.cls) (hts : ∀ w ∈ lc_ALL, w.before args s = true) (hE : lc_E G s) {r : Int32} {z' : lc_S} : ∀ (n : Nat) {z : lc_S} {H : Heap} {locs : List Loc} {ls : Array Slot}, fQ_run_111 n z = some (r, z') → lv_has ls 4 [(0, .ref (lc_ad G 80))] → lc_H G z s.heap H locs → W p l e (lc_rm 4) s m args below meth c H locs 0 0 (MQ below (lc_Q G (some (.int r)) z') args s 0 0 (lc_A G)) (F0 m 111 ls []) := by
  intro n
  induction n with
  | zero =>
    intro z H locs ls hf hl hH
    exact absurd (show (none : Option ((Int32) × lc_S)) = some (r, z') from hf) (fun h => by cases h)
  | succ n ih =>
    intro z H locs ls hf hl hH
    rw [fQ_run_111] at hf
    refine lv_aload_n hx hb dQ_run_111 rfl (lv_at hl 0 rfl) ?_
    refine lc_geti hx hb hts hown hE hH flQ_268 lc_h80 rfl dQ_run_112 ?_
    refine lv_if_le (tgt := 132) hx hb dQ_run_115 (by decide) (fun hc => ?_) (fun hc => ?_)
    · replace hf := lc_ite_pos hc hf
      exact bQ_run_132 hx hb hml hr hlocks hown hts hE hf (lv_sub hl [0] rfl) hH
    · replace hf := lc_ite_neg hc hf
      refine lv_aload_n hx hb dQ_run_118 rfl (lv_at hl 0 rfl) ?_
      refine lc_geti hx hb hts hown hE hH flQ_259 lc_h80 rfl dQ_run_119 ?_
      refine lv_if_ne (tgt := 132) hx hb dQ_run_122 (by decide) (fun hc => ?_) (fun hc => ?_)
      · replace hf := lc_ite_neg hc hf
        exact bQ_run_132 hx hb hml hr hlocks hown hts hE hf (lv_sub hl [0] rfl) hH
      · replace hf := lc_ite_pos hc hf
        refine lv_aload_n hx hb dQ_run_125 rfl (lv_at hl 0 rfl) ?_
        obtain ⟨r126, z126, h126, hf⟩ := lc_bnd_some hf
        refine lc_callv (va_runV (As := []) (rest := []) ⟨hx, hb, hml, hown, hts⟩ (cQ_step l G h126) (lc_cwV hts kvQ_298 (lc_room (by decide) (by decide))) (lc_preV hE hH lc_h80 rfl _) rfl rfl hl.1 rfl (lv_room (Nat.le_of_ble_eq_true rfl)) dQ_run_126 ⟨Nat.zero_le _, Nat.zero_le _⟩) hH (fun H locs hH => ?_)
        refine lv_goto (tgt := 111) hx hb dQ_run_129 (by decide) ?_
        exact ih hf (lv_sub hl [0] rfl) hH
set_option maxHeartbeats 4000000 in
set_option maxRecDepth 100000 in
theorem bQ_run_68 {p : Program} {l : Launch} {e : Env} {s : State} {m : MethodId} {args : Array Value} {below : List Frame} {meth : Method} {c : Code} {G : lc_G} (hx : p.tables.exec = Jvm.exec) (hb : c.code = prog_10_method_38_code) (hml : c.maxLocals = 4) (hr : meth.sig.returnType = (some .int)) (hlocks : meth.locks = false) (hown : s.vm.findClass "LinearCellsModel" = some m.cls) (hts : ∀ w ∈ lc_ALL, w.before args s = true) (hE : lc_E G s) {r : Int32} {z' : lc_S} : ∀ (n : Nat) {x1 : Int32} {x2 : Int32} {x3 : Int32} {z : lc_S} {H : Heap} {locs : List Loc} {ls : Array Slot}, fQ_run_68 n x1 x2 x3 z = some (r, z') → lv_has ls 4 [(0, .ref (lc_ad G 80)), (1, .int x1), (2, .int x2), (3, .int x3)] → lc_H G z s.heap H locs → W p l e (lc_rm 4) s m args below meth c H locs 0 0 (MQ below (lc_Q G (some (.int r)) z') args s 0 0 (lc_A G)) (F0 m 68 ls []) := by
  intro n
  induction n with
  | zero =>
    intro x1 x2 x3 z H locs ls hf hl hH
    exact absurd (show (none : Option ((Int32) × lc_S)) = some (r, z') from hf) (fun h => by cases h)
  | succ n ih =>
    intro x1 x2 x3 z H locs ls hf hl hH
    rw [fQ_run_68] at hf
    refine lv_iload_n hx hb dQ_run_68 rfl (lv_at hl 3 rfl) ?_
    refine lv_bipush (v := 12) hx hb dQ_run_69 (by decide) ?_
    refine lv_icmp_ge (tgt := 87) hx hb dQ_run_71 (by decide) (fun hc => ?_) (fun hc => ?_)
    · replace hf := lc_ite_pos hc hf
      refine lv_aload_n hx hb dQ_run_87 rfl (lv_at hl 0 rfl) ?_
      refine lv_bipush (v := 120) hx hb dQ_run_88 (by decide) ?_
      refine lv_iload_n hx hb dQ_run_90 rfl (lv_at hl 1 rfl) ?_
      refine lv_iconst (v := 1) hx hb dQ_run_91 (by decide) ?_
      refine lv_iadd hx hb dQ_run_92 ?_
      refine lv_imul hx hb dQ_run_93 ?_
      refine lv_iconst (v := 0) hx hb dQ_run_94 (by decide) ?_
      refine lv_aload_n hx hb dQ_run_95 rfl (lv_at hl 0 rfl) ?_
      refine lv_iconst (v := (-1)) hx hb dQ_run_96 (by decide) ?_
      refine lv_iconst (v := 0) hx hb dQ_run_97 (by decide) ?_
      refine lv_iload_n hx hb dQ_run_98 rfl (lv_at hl 2 rfl) ?_
      refine lv_i2l hx hb dQ_run_99 rfl ?_
      obtain ⟨r100, z100, h100, hf⟩ := lc_bnd_some hf
      refine lc_calll (va_runS (As := [.long x2.toInt64]) (rest := [.int 0, .int (-1), .ref (lc_ad G 80), .int 0, .int (120 * (x1 + 1)), .ref (lc_ad G 80)]) ⟨hx, hb, hml, hown, hts⟩ (cQ_plain l G h100) (lc_cwS hts ksQ_286 (lc_room (by decide) (by decide))) (lc_preS hE hH _) rfl rfl hl.1 rfl (lv_room (Nat.le_of_ble_eq_true rfl)) dQ_run_100 ⟨Nat.zero_le _, Nat.zero_le _⟩) hH (fun H locs hH => ?_)
      refine lv_iconst (v := (-1)) hx hb dQ_run_103 (by decide) ?_
      obtain ⟨r104, z104, h104, hf⟩ := lc_bnd_some hf
      refine lc_calli (va_runV (As := [.int (-1), .int 0, .long r100, .int (-1)]) (rest := [.int 0, .int (120 * (x1 + 1)), .ref (lc_ad G 80)]) ⟨hx, hb, hml, hown, hts⟩ (cQ_withName l G h104) (lc_cwV hts kvQ_290 (lc_room (by decide) (by decide))) (lc_preV hE hH lc_h80 rfl _) rfl rfl hl.1 rfl (lv_room (Nat.le_of_ble_eq_true rfl)) dQ_run_104 ⟨Nat.zero_le _, Nat.zero_le _⟩) hH (fun H locs hH => ?_)
      refine lv_iconst (v := 1) hx hb dQ_run_107 (by decide) ?_
      obtain ⟨r108, z108, h108, hf⟩ := lc_bnd_some hf
      refine lc_callv (va_runV (As := [.int (120 * (x1 + 1)), .int 0, .int r104, .int 1]) (rest := []) ⟨hx, hb, hml, hown, hts⟩ (cQ_enter l G h108) (lc_cwV hts kvQ_294 (lc_room (by decide) (by decide))) (lc_preV hE hH lc_h80 rfl _) rfl rfl hl.1 rfl (lv_room (Nat.le_of_ble_eq_true rfl)) dQ_run_108 ⟨Nat.zero_le _, Nat.zero_le _⟩) hH (fun H locs hH => ?_)
      exact bQ_run_111 hx hb hml hr hlocks hown hts hE _ hf (lv_sub hl [0] rfl) hH
    · replace hf := lc_ite_neg hc hf
      refine lv_aload_n hx hb dQ_run_74 rfl (lv_at hl 0 rfl) ?_
      refine lc_getf (d := 35) (q := 115) hx hb hts hown hE hH flQ_114 lc_h80 rfl rfl dQ_run_75 ?_
      refine lv_iload_n hx hb dQ_run_78 rfl (lv_at hl 3 rfl) ?_
      refine lv_iconst (v := 0) hx hb dQ_run_79 (by decide) ?_
      obtain ⟨hi80, hf⟩ := lc_chk_some hf
      refine lc_zast hx hb hE hH lc_h115 rfl hi80 (by decide) dQ_run_80 (fun H locs hH => ?_)
      obtain ⟨x81, e81⟩ : ∃ x : Int32, x = x3 + 1 := ⟨_, rfl⟩
      replace hf := lc_let_of e81 hf
      refine lv_iinc (k := 3) (v := x81) hx hb dQ_run_81 hl rfl ((lc_incv _ (by decide)).trans e81.symm) (by decide) rfl (fun ls hl => ?_)
      replace hl : lv_has ls 4 [(3, .int x81), (0, .ref (lc_ad G 80)), (1, .int x1), (2, .int x2)] := hl
      refine lv_goto (tgt := 68) hx hb dQ_run_84 (by decide) ?_
      exact ih hf (lv_sub hl [1, 2, 3, 0] rfl) hH
set_option maxHeartbeats 4000000 in
set_option maxRecDepth 100000 in
theorem bQ_run_14 {p : Program} {l : Launch} {e : Env} {s : State} {m : MethodId} {args : Array Value} {below : List Frame} {meth : Method} {c : Code} {G : lc_G} (hx : p.tables.exec = Jvm.exec) (hb : c.code = prog_10_method_38_code) (hml : c.maxLocals = 4) (hr : meth.sig.returnType = (some .int)) (hlocks : meth.locks = false) (hown : s.vm.findClass "LinearCellsModel" = some m.cls) (hts : ∀ w ∈ lc_ALL, w.before args s = true) (hE : lc_E G s) {r : Int32} {z' : lc_S} : ∀ {x1 : Int32} {x2 : Int32} {t1 : Int32} {z : lc_S} {H : Heap} {locs : List Loc} {ls : Array Slot}, fQ_run_14 x1 x2 t1 z = some (r, z') → lv_has ls 4 [(0, .ref (lc_ad G 80)), (1, .int x1), (2, .int x2)] → lc_H G z s.heap H locs → W p l e (lc_rm 4) s m args below meth c H locs 0 0 (MQ below (lc_Q G (some (.int r)) z') args s 0 0 (lc_A G)) (F0 m 14 ls [.int t1, .ref (lc_ad G 80)]) := by
  intro x1 x2 t1 z H locs ls hf hl hH
  rw [fQ_run_14] at hf
  refine lc_puti hx hb hts hown hE hH fpQ_135 lc_h80 rfl rfl rfl dQ_run_14 (fun H locs hH => ?_)
  refine lv_aload_n hx hb dQ_run_17 rfl (lv_at hl 0 rfl) ?_
  refine lc_geti hx hb hts hown hE hH flQ_135 lc_h80 rfl dQ_run_18 ?_
  refine lv_if_le (tgt := 26) hx hb dQ_run_21 (by decide) (fun hc => ?_) (fun hc => ?_)
  · replace hf := lc_ite_pos hc hf
    refine lv_aload_n hx hb dQ_run_26 rfl (lv_at hl 0 rfl) ?_
    refine lv_iconst (v := 1) hx hb dQ_run_27 (by decide) ?_
    refine lc_puti hx hb hts hown hE hH fpQ_274 lc_h80 rfl (by decide) (by decide) dQ_run_28 (fun H locs hH => ?_)
    refine lv_aload_n hx hb dQ_run_31 rfl (lv_at hl 0 rfl) ?_
    refine lv_iconst (v := 0) hx hb dQ_run_32 (by decide) ?_
    refine lc_puti hx hb hts hown hE hH fpQ_259 lc_h80 rfl rfl rfl dQ_run_33 (fun H locs hH => ?_)
    refine lv_aload_n hx hb dQ_run_36 rfl (lv_at hl 0 rfl) ?_
    refine lv_iconst (v := 0) hx hb dQ_run_37 (by decide) ?_
    refine lc_puti hx hb hts hown hE hH fpQ_262 lc_h80 rfl rfl rfl dQ_run_38 (fun H locs hH => ?_)
    refine lv_aload_n hx hb dQ_run_41 rfl (lv_at hl 0 rfl) ?_
    refine lv_iconst (v := 0) hx hb dQ_run_42 (by decide) ?_
    refine lc_puti hx hb hts hown hE hH fpQ_277 lc_h80 rfl rfl rfl dQ_run_43 (fun H locs hH => ?_)
    refine lv_aload_n hx hb dQ_run_46 rfl (lv_at hl 0 rfl) ?_
    refine lv_iconst (v := 0) hx hb dQ_run_47 (by decide) ?_
    refine lc_puti hx hb hts hown hE hH fpQ_280 lc_h80 rfl rfl rfl dQ_run_48 (fun H locs hH => ?_)
    refine lv_aload_n hx hb dQ_run_51 rfl (lv_at hl 0 rfl) ?_
    refine lv_iconst (v := 0) hx hb dQ_run_52 (by decide) ?_
    refine lc_puti hx hb hts hown hE hH fpQ_283 lc_h80 rfl rfl rfl dQ_run_53 (fun H locs hH => ?_)
    refine lv_aload_n hx hb dQ_run_56 rfl (lv_at hl 0 rfl) ?_
    refine lv_iconst (v := 0) hx hb dQ_run_57 (by decide) ?_
    refine lc_puti hx hb hts hown hE hH fpQ_271 lc_h80 rfl rfl rfl dQ_run_58 (fun H locs hH => ?_)
    refine lv_aload_n hx hb dQ_run_61 rfl (lv_at hl 0 rfl) ?_
    refine lv_iconst (v := 0) hx hb dQ_run_62 (by decide) ?_
    refine lc_puti hx hb hts hown hE hH fpQ_268 lc_h80 rfl rfl rfl dQ_run_63 (fun H locs hH => ?_)
    refine lv_iconst (v := 0) hx hb dQ_run_66 (by decide) ?_
    refine lv_istore_n hx hb dQ_run_67 rfl hl (by decide) rfl (fun ls hl => ?_)
    replace hl : lv_has ls 4 [(3, .int 0), (0, .ref (lc_ad G 80)), (1, .int x1), (2, .int x2)] := hl
    exact bQ_run_68 hx hb hml hr hlocks hown hts hE _ hf (lv_sub hl [1, 2, 3, 0] rfl) hH
  · replace hf := lc_ite_neg hc hf
    refine lv_iconst (v := 0) hx hb dQ_run_24 (by decide) ?_
    exact lc_iret hx hb hr hlocks hH hf dQ_run_25
set_option maxHeartbeats 4000000 in
set_option maxRecDepth 100000 in
theorem cQ_run (l : Launch) (G : lc_G) {a1 : Int32} {a2 : Int32} {r : Int32} {z z' : lc_S} (hf : fQ_run a1 a2 z = some (r, z')) : lc_M l G yQ_run wQ_run 4 [.ref (lc_ad G 80), .int a1, .int a2] z (some (.int r)) z' := by
  refine lc_M_of (cc := prog_10_method_38_code) (maxL := 4) (ret := (some .int)) (own := "LinearCellsModel") (by decide) rfl (fun w h => List.mem_cons_of_mem _ h) (Nat.le_of_ble_eq_true rfl) rfl ?_
  intro p e s m below meth c hx hb hml hr hlocks hown hts hE ls hl hH
  replace hl : lv_has ls 4 [(0, .ref (lc_ad G 80)), (1, .int a1), (2, .int a2)] := hl
  rw [fQ_run] at hf
  refine lv_aload_n hx hb dQ_run_0 rfl (lv_at hl 0 rfl) ?_
  refine lv_aload_n hx hb dQ_run_1 rfl (lv_at hl 0 rfl) ?_
  refine lv_iload_n hx hb dQ_run_2 rfl (lv_at hl 1 rfl) ?_
  obtain ⟨r3, z3, h3, hf⟩ := lc_bnd_some hf
  refine lc_calli (va_runV (As := [.int a1]) (rest := [.ref (lc_ad G 80)]) ⟨hx, hb, hml, hown, hts⟩ (cQ_isThere l G h3) (lc_cwV hts kvQ_230 (lc_room (by decide) (by decide))) (lc_preV hE hH lc_h80 rfl _) rfl rfl hl.1 rfl (lv_room (Nat.le_of_ble_eq_true rfl)) dQ_run_3 ⟨Nat.zero_le _, Nat.zero_le _⟩) hH (fun H locs hH => ?_)
  refine lv_if_eq (tgt := 13) hx hb dQ_run_6 (by decide) (fun hc => ?_) (fun hc => ?_)
  · replace hf := lc_ite_pos hc hf
    refine lv_iconst (v := 1) hx hb dQ_run_13 (by decide) ?_
    exact bQ_run_14 hx hb hml hr hlocks hown hts hE hf (lv_sub hl [0, 1, 2] rfl) hH
  · replace hf := lc_ite_neg hc hf
    refine lv_iconst (v := 0) hx hb dQ_run_9 (by decide) ?_
    refine lv_goto (tgt := 14) hx hb dQ_run_10 (by decide) ?_
    exact bQ_run_14 hx hb hml hr hlocks hown hts hE hf (lv_sub hl [0, 1, 2] rfl) hH
theorem dQ_hasValue_0 : decode prog_10_method_48_code 0 = .ok (.aload_n 0, 1) := by decide +kernel
theorem dQ_hasValue_1 : decode prog_10_method_48_code 1 = .ok (.getfield 274, 3) := by decide +kernel
theorem dQ_hasValue_4 : decode prog_10_method_48_code 4 = .ok (.ifCond .eq 14, 3) := by decide +kernel
theorem dQ_hasValue_7 : decode prog_10_method_48_code 7 = .ok (.aload_n 0, 1) := by decide +kernel
theorem dQ_hasValue_8 : decode prog_10_method_48_code 8 = .ok (.getfield 259, 3) := by decide +kernel
theorem dQ_hasValue_11 : decode prog_10_method_48_code 11 = .ok (.ifCond .ne 7, 3) := by decide +kernel
theorem dQ_hasValue_14 : decode prog_10_method_48_code 14 = .ok (.iconst 1, 1) := by decide +kernel
theorem dQ_hasValue_15 : decode prog_10_method_48_code 15 = .ok (.goto 4, 3) := by decide +kernel
theorem dQ_hasValue_18 : decode prog_10_method_48_code 18 = .ok (.iconst 0, 1) := by decide +kernel
theorem dQ_hasValue_19 : decode prog_10_method_48_code 19 = .ok (.ireturn, 1) := by decide +kernel
def fQ_hasValue_18 (z : lc_S) : Option ((Int32) × lc_S) :=
  some (0, z)
def fQ_hasValue (z : lc_S) : Option ((Int32) × lc_S) :=
  if (lcI z 80 46) = 0 then (fQ_hasValue_18 z) else (if (lcI z 80 45) = 0 then (some (1, z)) else (fQ_hasValue_18 z))
set_option maxHeartbeats 4000000 in
set_option maxRecDepth 100000 in
theorem bQ_hasValue_18 {p : Program} {l : Launch} {e : Env} {s : State} {m : MethodId} {args : Array Value} {below : List Frame} {meth : Method} {c : Code} {G : lc_G} (hx : p.tables.exec = Jvm.exec) (hb : c.code = prog_10_method_48_code) (hml : c.maxLocals = 1) (hr : meth.sig.returnType = (some .boolean)) (hlocks : meth.locks = false) (hown : s.vm.findClass "LinearCellsModel" = some m.cls) (hts : ∀ w ∈ lc_ALL, w.before args s = true) (hE : lc_E G s) {r : Int32} {z' : lc_S} : ∀ {z : lc_S} {H : Heap} {locs : List Loc} {ls : Array Slot}, fQ_hasValue_18 z = some (r, z') → lv_has ls 1 [] → lc_H G z s.heap H locs → W p l e (lc_rm 0) s m args below meth c H locs 0 0 (MQ below (lc_Q G (some (.int r)) z') args s 0 0 (lc_A G)) (F0 m 18 ls []) := by
  intro z H locs ls hf hl hH
  rw [fQ_hasValue_18] at hf
  refine lv_iconst (v := 0) hx hb dQ_hasValue_18 (by decide) ?_
  exact lc_zret hx hb hr hlocks (by decide) hH hf dQ_hasValue_19
set_option maxHeartbeats 4000000 in
set_option maxRecDepth 100000 in
theorem cQ_hasValue (l : Launch) (G : lc_G) {r : Int32} {z z' : lc_S} (hf : fQ_hasValue z = some (r, z')) : lc_M l G yQ_hasValue wQ_hasValue 0 [.ref (lc_ad G 80)] z (some (.int r)) z' := by
  refine lc_M_of (cc := prog_10_method_48_code) (maxL := 1) (ret := (some .boolean)) (own := "LinearCellsModel") (by decide) rfl (fun w h => List.mem_cons_of_mem _ h) (Nat.le_of_ble_eq_true rfl) rfl ?_
  intro p e s m below meth c hx hb hml hr hlocks hown hts hE ls hl hH
  replace hl : lv_has ls 1 [(0, .ref (lc_ad G 80))] := hl
  rw [fQ_hasValue] at hf
  refine lv_aload_n hx hb dQ_hasValue_0 rfl (lv_at hl 0 rfl) ?_
  refine lc_geti hx hb hts hown hE hH flQ_274 lc_h80 rfl dQ_hasValue_1 ?_
  refine lv_if_eq (tgt := 18) hx hb dQ_hasValue_4 (by decide) (fun hc => ?_) (fun hc => ?_)
  · replace hf := lc_ite_pos hc hf
    exact bQ_hasValue_18 hx hb hml hr hlocks hown hts hE hf (lv_sub hl [] rfl) hH
  · replace hf := lc_ite_neg hc hf
    refine lv_aload_n hx hb dQ_hasValue_7 rfl (lv_at hl 0 rfl) ?_
    refine lc_geti hx hb hts hown hE hH flQ_259 lc_h80 rfl dQ_hasValue_8 ?_
    refine lv_if_ne (tgt := 18) hx hb dQ_hasValue_11 (by decide) (fun hc => ?_) (fun hc => ?_)
    · replace hf := lc_ite_neg hc hf
      exact bQ_hasValue_18 hx hb hml hr hlocks hown hts hE hf (lv_sub hl [] rfl) hH
    · replace hf := lc_ite_pos hc hf
      refine lv_iconst (v := 1) hx hb dQ_hasValue_14 (by decide) ?_
      refine lv_goto (tgt := 19) hx hb dQ_hasValue_15 (by decide) ?_
      exact lc_zret hx hb hr hlocks (by decide) hH hf dQ_hasValue_19
theorem dQ_in_0 : decode prog_10_method_50_code 0 = .ok (.lload_n 1, 1) := by decide +kernel
theorem dQ_in_1 : decode prog_10_method_50_code 1 = .ok (.ldc2_w 332, 3) := by decide +kernel
theorem dQ_in_4 : decode prog_10_method_50_code 4 = .ok (.lcmp, 1) := by decide +kernel
theorem dQ_in_5 : decode prog_10_method_50_code 5 = .ok (.ifCond .lt 17, 3) := by decide +kernel
theorem dQ_in_8 : decode prog_10_method_50_code 8 = .ok (.aload_n 0, 1) := by decide +kernel
theorem dQ_in_9 : decode prog_10_method_50_code 9 = .ok (.getfield 132, 3) := by decide +kernel
theorem dQ_in_12 : decode prog_10_method_50_code 12 = .ok (.lload_n 1, 1) := by decide +kernel
theorem dQ_in_13 : decode prog_10_method_50_code 13 = .ok (.ldc2_w 332, 3) := by decide +kernel
theorem dQ_in_16 : decode prog_10_method_50_code 16 = .ok (.lsub, 1) := by decide +kernel
theorem dQ_in_17 : decode prog_10_method_50_code 17 = .ok (.l2i, 1) := by decide +kernel
theorem dQ_in_18 : decode prog_10_method_50_code 18 = .ok (.iaload, 1) := by decide +kernel
theorem dQ_in_19 : decode prog_10_method_50_code 19 = .ok (.goto 16, 3) := by decide +kernel
theorem dQ_in_22 : decode prog_10_method_50_code 22 = .ok (.lload_n 1, 1) := by decide +kernel
theorem dQ_in_23 : decode prog_10_method_50_code 23 = .ok (.invokestatic 328, 3) := by decide +kernel
theorem dQ_in_26 : decode prog_10_method_50_code 26 = .ok (.iload_n 3, 1) := by decide +kernel
theorem dQ_in_27 : decode prog_10_method_50_code 27 = .ok (.if_icmp .eq 7, 3) := by decide +kernel
theorem dQ_in_30 : decode prog_10_method_50_code 30 = .ok (.iconst 1, 1) := by decide +kernel
theorem dQ_in_31 : decode prog_10_method_50_code 31 = .ok (.goto 4, 3) := by decide +kernel
theorem dQ_in_34 : decode prog_10_method_50_code 34 = .ok (.iconst 0, 1) := by decide +kernel
theorem dQ_in_35 : decode prog_10_method_50_code 35 = .ok (.ireturn, 1) := by decide +kernel
def fQ_in (a1 : Int64) (a3 : Int32) (z : lc_S) : Option ((Int32) × lc_S) :=
  if (lg_cmp a1 8589934592) < 0 then (lc_bnd (fQ_isNumber a1 z) (fun r23 z23 => if r23 = a3 then (some (0, z23)) else (some (1, z23)))) else (lc_chk (lc_in ((a1 - 8589934592).toInt32) 340) (some (lcI z 121 ((a1 - 8589934592).toInt32).toNatClampNeg, z)))
set_option maxHeartbeats 4000000 in
set_option maxRecDepth 100000 in
theorem cQ_in (l : Launch) (G : lc_G) {a1 : Int64} {a3 : Int32} {r : Int32} {z z' : lc_S} (hf : fQ_in a1 a3 z = some (r, z')) : lc_M l G yQ_in wQ_in 1 [.ref (lc_ad G 80), .long a1, .int a3] z (some (.int r)) z' := by
  refine lc_M_of (cc := prog_10_method_50_code) (maxL := 4) (ret := (some .int)) (own := "LinearCellsModel") (by decide) rfl (fun w h => List.mem_cons_of_mem _ h) (Nat.le_of_ble_eq_true rfl) rfl ?_
  intro p e s m below meth c hx hb hml hr hlocks hown hts hE ls hl hH
  replace hl : lv_has ls 4 [(0, .ref (lc_ad G 80)), (1, .long a1), (3, .int a3)] := hl
  rw [fQ_in] at hf
  refine lv_lload_n hx hb dQ_in_0 rfl (lv_at hl 1 rfl) ?_
  refine lv_ldc2 hx hb hown (hts _ kcQ_332) dQ_in_1 ?_
  refine W.lcmp hx hb dQ_in_4 ?_
  refine lv_if_lt (tgt := 22) hx hb dQ_in_5 (by decide) (fun hc => ?_) (fun hc => ?_)
  · replace hf := lc_ite_pos hc hf
    refine lv_lload_n hx hb dQ_in_22 rfl (lv_at hl 1 rfl) ?_
    obtain ⟨r23, z23, h23, hf⟩ := lc_bnd_some hf
    refine lc_calli (va_runS (As := [.long a1]) (rest := []) ⟨hx, hb, hml, hown, hts⟩ (cQ_isNumber l G h23) (lc_cwS hts ksQ_328 (lc_room (by decide) (by decide))) (lc_preS hE hH _) rfl rfl hl.1 rfl (lv_room (Nat.le_of_ble_eq_true rfl)) dQ_in_23 ⟨Nat.zero_le _, Nat.zero_le _⟩) hH (fun H locs hH => ?_)
    refine lv_iload_n hx hb dQ_in_26 rfl (lv_at hl 2 rfl) ?_
    refine lv_icmp_eq (tgt := 34) hx hb dQ_in_27 (by decide) (fun hc => ?_) (fun hc => ?_)
    · replace hf := lc_ite_pos hc hf
      refine lv_iconst (v := 0) hx hb dQ_in_34 (by decide) ?_
      exact lc_iret hx hb hr hlocks hH hf dQ_in_35
    · replace hf := lc_ite_neg hc hf
      refine lv_iconst (v := 1) hx hb dQ_in_30 (by decide) ?_
      refine lv_goto (tgt := 35) hx hb dQ_in_31 (by decide) ?_
      exact lc_iret hx hb hr hlocks hH hf dQ_in_35
  · replace hf := lc_ite_neg hc hf
    refine lv_aload_n hx hb dQ_in_8 rfl (lv_at hl 0 rfl) ?_
    refine lc_getf (d := 41) (q := 121) hx hb hts hown hE hH flQ_132 lc_h80 rfl rfl dQ_in_9 ?_
    refine lv_lload_n hx hb dQ_in_12 rfl (lv_at hl 1 rfl) ?_
    refine lv_ldc2 hx hb hown (hts _ kcQ_332) dQ_in_13 ?_
    refine lv_lsub hx hb dQ_in_16 ?_
    refine lv_l2i hx hb dQ_in_17 rfl ?_
    obtain ⟨hi18, hf⟩ := lc_chk_some hf
    refine lc_iald hx hb hE hH lc_h121 rfl hi18 dQ_in_18 ?_
    refine lv_goto (tgt := 35) hx hb dQ_in_19 (by decide) ?_
    exact lc_iret hx hb hr hlocks hH hf dQ_in_35
theorem dQ_count_0 : decode prog_10_method_49_code 0 = .ok (.aload_n 0, 1) := by decide +kernel
theorem dQ_count_1 : decode prog_10_method_49_code 1 = .ok (.getfield 301, 3) := by decide +kernel
theorem dQ_count_4 : decode prog_10_method_49_code 4 = .ok (.ldc2_w 332, 3) := by decide +kernel
theorem dQ_count_7 : decode prog_10_method_49_code 7 = .ok (.lcmp, 1) := by decide +kernel
theorem dQ_count_8 : decode prog_10_method_49_code 8 = .ok (.ifCond .ge 20, 3) := by decide +kernel
theorem dQ_count_11 : decode prog_10_method_49_code 11 = .ok (.aload_n 0, 1) := by decide +kernel
theorem dQ_count_12 : decode prog_10_method_49_code 12 = .ok (.getfield 301, 3) := by decide +kernel
theorem dQ_count_15 : decode prog_10_method_49_code 15 = .ok (.invokestatic 328, 3) := by decide +kernel
theorem dQ_count_18 : decode prog_10_method_49_code 18 = .ok (.iload_n 1, 1) := by decide +kernel
theorem dQ_count_19 : decode prog_10_method_49_code 19 = .ok (.if_icmp .eq 7, 3) := by decide +kernel
theorem dQ_count_22 : decode prog_10_method_49_code 22 = .ok (.iconst 1, 1) := by decide +kernel
theorem dQ_count_23 : decode prog_10_method_49_code 23 = .ok (.goto 4, 3) := by decide +kernel
theorem dQ_count_26 : decode prog_10_method_49_code 26 = .ok (.iconst 0, 1) := by decide +kernel
theorem dQ_count_27 : decode prog_10_method_49_code 27 = .ok (.ireturn, 1) := by decide +kernel
theorem dQ_count_28 : decode prog_10_method_49_code 28 = .ok (.iconst 0, 1) := by decide +kernel
theorem dQ_count_29 : decode prog_10_method_49_code 29 = .ok (.istore_n 2, 1) := by decide +kernel
theorem dQ_count_30 : decode prog_10_method_49_code 30 = .ok (.iload_n 2, 1) := by decide +kernel
theorem dQ_count_31 : decode prog_10_method_49_code 31 = .ok (.aload_n 0, 1) := by decide +kernel
theorem dQ_count_32 : decode prog_10_method_49_code 32 = .ok (.getfield 283, 3) := by decide +kernel
theorem dQ_count_35 : decode prog_10_method_49_code 35 = .ok (.if_icmp .ge 38, 3) := by decide +kernel
theorem dQ_count_38 : decode prog_10_method_49_code 38 = .ok (.aload_n 0, 1) := by decide +kernel
theorem dQ_count_39 : decode prog_10_method_49_code 39 = .ok (.getfield 132, 3) := by decide +kernel
theorem dQ_count_42 : decode prog_10_method_49_code 42 = .ok (.iload_n 2, 1) := by decide +kernel
theorem dQ_count_43 : decode prog_10_method_49_code 43 = .ok (.aload_n 0, 1) := by decide +kernel
theorem dQ_count_44 : decode prog_10_method_49_code 44 = .ok (.aload_n 0, 1) := by decide +kernel
theorem dQ_count_45 : decode prog_10_method_49_code 45 = .ok (.getfield 120, 3) := by decide +kernel
theorem dQ_count_48 : decode prog_10_method_49_code 48 = .ok (.iload_n 2, 1) := by decide +kernel
theorem dQ_count_49 : decode prog_10_method_49_code 49 = .ok (.laload, 1) := by decide +kernel
theorem dQ_count_50 : decode prog_10_method_49_code 50 = .ok (.iload_n 1, 1) := by decide +kernel
theorem dQ_count_51 : decode prog_10_method_49_code 51 = .ok (.invokevirtual 343, 3) := by decide +kernel
theorem dQ_count_54 : decode prog_10_method_49_code 54 = .ok (.aload_n 0, 1) := by decide +kernel
theorem dQ_count_55 : decode prog_10_method_49_code 55 = .ok (.aload_n 0, 1) := by decide +kernel
theorem dQ_count_56 : decode prog_10_method_49_code 56 = .ok (.getfield 123, 3) := by decide +kernel
theorem dQ_count_59 : decode prog_10_method_49_code 59 = .ok (.iload_n 2, 1) := by decide +kernel
theorem dQ_count_60 : decode prog_10_method_49_code 60 = .ok (.laload, 1) := by decide +kernel
theorem dQ_count_61 : decode prog_10_method_49_code 61 = .ok (.iload_n 1, 1) := by decide +kernel
theorem dQ_count_62 : decode prog_10_method_49_code 62 = .ok (.invokevirtual 343, 3) := by decide +kernel
theorem dQ_count_65 : decode prog_10_method_49_code 65 = .ok (.iadd, 1) := by decide +kernel
theorem dQ_count_66 : decode prog_10_method_49_code 66 = .ok (.iastore, 1) := by decide +kernel
theorem dQ_count_67 : decode prog_10_method_49_code 67 = .ok (.iinc 2 1, 3) := by decide +kernel
theorem dQ_count_70 : decode prog_10_method_49_code 70 = .ok (.goto (-40), 3) := by decide +kernel
theorem dQ_count_73 : decode prog_10_method_49_code 73 = .ok (.aload_n 0, 1) := by decide +kernel
theorem dQ_count_74 : decode prog_10_method_49_code 74 = .ok (.getfield 132, 3) := by decide +kernel
theorem dQ_count_77 : decode prog_10_method_49_code 77 = .ok (.aload_n 0, 1) := by decide +kernel
theorem dQ_count_78 : decode prog_10_method_49_code 78 = .ok (.getfield 301, 3) := by decide +kernel
theorem dQ_count_81 : decode prog_10_method_49_code 81 = .ok (.ldc2_w 332, 3) := by decide +kernel
theorem dQ_count_84 : decode prog_10_method_49_code 84 = .ok (.lsub, 1) := by decide +kernel
theorem dQ_count_85 : decode prog_10_method_49_code 85 = .ok (.l2i, 1) := by decide +kernel
theorem dQ_count_86 : decode prog_10_method_49_code 86 = .ok (.iaload, 1) := by decide +kernel
theorem dQ_count_87 : decode prog_10_method_49_code 87 = .ok (.ireturn, 1) := by decide +kernel
def fQ_count_30 : Nat → Int32 → Int32 → lc_S → Option ((Int32) × lc_S)
  | 0, _, _, _ => none
  | n + 1, x1, x2, z => if (lcI z 80 53) ≤ x2 then (lc_chk (lc_in (((lcL z 80 47) - 8589934592).toInt32) 340) (some (lcI z 121 (((lcL z 80 47) - 8589934592).toInt32).toNatClampNeg, z))) else (lc_chk (lc_in x2 120) (lc_bnd (fQ_in (lcL z 117 x2.toNatClampNeg) x1 z) (fun r51 z51 => lc_chk (lc_in x2 120) (lc_bnd (fQ_in (lcL z51 118 x2.toNatClampNeg) x1 z51) (fun r62 z62 => lc_chk (lc_in x2 340) (lc_let (x2 + 1) (fun x67 => fQ_count_30 n x1 x67 (lcUI z62 121 x2.toNatClampNeg (r51 + r62)))))))))
def fQ_count (a1 : Int32) (z : lc_S) : Option ((Int32) × lc_S) :=
  if 0 ≤ (lg_cmp (lcL z 80 47) 8589934592) then (fQ_count_30 lc_FU a1 0 z) else (lc_bnd (fQ_isNumber (lcL z 80 47) z) (fun r15 z15 => if r15 = a1 then (some (0, z15)) else (some (1, z15))))
set_option maxHeartbeats 4000000 in
set_option maxRecDepth 100000 in
theorem bQ_count_30 {p : Program} {l : Launch} {e : Env} {s : State} {m : MethodId} {args : Array Value} {below : List Frame} {meth : Method} {c : Code} {G : lc_G} (hx : p.tables.exec = Jvm.exec) (hb : c.code = prog_10_method_49_code) (hml : c.maxLocals = 3) (hr : meth.sig.returnType = (some .int)) (hlocks : meth.locks = false) (hown : s.vm.findClass "LinearCellsModel" = some m.cls) (hts : ∀ w ∈ lc_ALL, w.before args s = true) (hE : lc_E G s) {r : Int32} {z' : lc_S} : ∀ (n : Nat) {x1 : Int32} {x2 : Int32} {z : lc_S} {H : Heap} {locs : List Loc} {ls : Array Slot}, fQ_count_30 n x1 x2 z = some (r, z') → lv_has ls 3 [(0, .ref (lc_ad G 80)), (1, .int x1), (2, .int x2)] → lc_H G z s.heap H locs → W p l e (lc_rm 2) s m args below meth c H locs 0 0 (MQ below (lc_Q G (some (.int r)) z') args s 0 0 (lc_A G)) (F0 m 30 ls []) := by
  intro n
  induction n with
  | zero =>
    intro x1 x2 z H locs ls hf hl hH
    exact absurd (show (none : Option ((Int32) × lc_S)) = some (r, z') from hf) (fun h => by cases h)
  | succ n ih =>
    intro x1 x2 z H locs ls hf hl hH
    rw [fQ_count_30] at hf
    refine lv_iload_n hx hb dQ_count_30 rfl (lv_at hl 2 rfl) ?_
    refine lv_aload_n hx hb dQ_count_31 rfl (lv_at hl 0 rfl) ?_
    refine lc_geti hx hb hts hown hE hH flQ_283 lc_h80 rfl dQ_count_32 ?_
    refine lv_icmp_ge (tgt := 73) hx hb dQ_count_35 (by decide) (fun hc => ?_) (fun hc => ?_)
    · replace hf := lc_ite_pos hc hf
      refine lv_aload_n hx hb dQ_count_73 rfl (lv_at hl 0 rfl) ?_
      refine lc_getf (d := 41) (q := 121) hx hb hts hown hE hH flQ_132 lc_h80 rfl rfl dQ_count_74 ?_
      refine lv_aload_n hx hb dQ_count_77 rfl (lv_at hl 0 rfl) ?_
      refine lc_getl hx hb hts hown hE hH flQ_301 lc_h80 rfl dQ_count_78 ?_
      refine lv_ldc2 hx hb hown (hts _ kcQ_332) dQ_count_81 ?_
      refine lv_lsub hx hb dQ_count_84 ?_
      refine lv_l2i hx hb dQ_count_85 rfl ?_
      obtain ⟨hi86, hf⟩ := lc_chk_some hf
      refine lc_iald hx hb hE hH lc_h121 rfl hi86 dQ_count_86 ?_
      exact lc_iret hx hb hr hlocks hH hf dQ_count_87
    · replace hf := lc_ite_neg hc hf
      refine lv_aload_n hx hb dQ_count_38 rfl (lv_at hl 0 rfl) ?_
      refine lc_getf (d := 41) (q := 121) hx hb hts hown hE hH flQ_132 lc_h80 rfl rfl dQ_count_39 ?_
      refine lv_iload_n hx hb dQ_count_42 rfl (lv_at hl 2 rfl) ?_
      refine lv_aload_n hx hb dQ_count_43 rfl (lv_at hl 0 rfl) ?_
      refine lv_aload_n hx hb dQ_count_44 rfl (lv_at hl 0 rfl) ?_
      refine lc_getf (d := 37) (q := 117) hx hb hts hown hE hH flQ_120 lc_h80 rfl rfl dQ_count_45 ?_
      refine lv_iload_n hx hb dQ_count_48 rfl (lv_at hl 2 rfl) ?_
      obtain ⟨hi49, hf⟩ := lc_chk_some hf
      refine lc_lald hx hb hE hH lc_h117 rfl hi49 dQ_count_49 ?_
      refine lv_iload_n hx hb dQ_count_50 rfl (lv_at hl 1 rfl) ?_
      obtain ⟨r51, z51, h51, hf⟩ := lc_bnd_some hf
      refine lc_calli (va_runV (As := [.long (lcL z 117 x2.toNatClampNeg), .int x1]) (rest := [.int x2, .ref (lc_ad G 121)]) ⟨hx, hb, hml, hown, hts⟩ (cQ_in l G h51) (lc_cwV hts kvQ_343 (lc_room (by decide) (by decide))) (lc_preV hE hH lc_h80 rfl _) rfl rfl hl.1 rfl (lv_room (Nat.le_of_ble_eq_true rfl)) dQ_count_51 ⟨Nat.zero_le _, Nat.zero_le _⟩) hH (fun H locs hH => ?_)
      refine lv_aload_n hx hb dQ_count_54 rfl (lv_at hl 0 rfl) ?_
      refine lv_aload_n hx hb dQ_count_55 rfl (lv_at hl 0 rfl) ?_
      refine lc_getf (d := 38) (q := 118) hx hb hts hown hE hH flQ_123 lc_h80 rfl rfl dQ_count_56 ?_
      refine lv_iload_n hx hb dQ_count_59 rfl (lv_at hl 2 rfl) ?_
      obtain ⟨hi60, hf⟩ := lc_chk_some hf
      refine lc_lald hx hb hE hH lc_h118 rfl hi60 dQ_count_60 ?_
      refine lv_iload_n hx hb dQ_count_61 rfl (lv_at hl 1 rfl) ?_
      obtain ⟨r62, z62, h62, hf⟩ := lc_bnd_some hf
      refine lc_calli (va_runV (As := [.long (lcL z51 118 x2.toNatClampNeg), .int x1]) (rest := [.int r51, .int x2, .ref (lc_ad G 121)]) ⟨hx, hb, hml, hown, hts⟩ (cQ_in l G h62) (lc_cwV hts kvQ_343 (lc_room (by decide) (by decide))) (lc_preV hE hH lc_h80 rfl _) rfl rfl hl.1 rfl (lv_room (Nat.le_of_ble_eq_true rfl)) dQ_count_62 ⟨Nat.zero_le _, Nat.zero_le _⟩) hH (fun H locs hH => ?_)
      refine lv_iadd hx hb dQ_count_65 ?_
      obtain ⟨hi66, hf⟩ := lc_chk_some hf
      refine lc_iast hx hb hE hH lc_h121 rfl hi66 dQ_count_66 (fun H locs hH => ?_)
      obtain ⟨x67, e67⟩ : ∃ x : Int32, x = x2 + 1 := ⟨_, rfl⟩
      replace hf := lc_let_of e67 hf
      refine lv_iinc (k := 2) (v := x67) hx hb dQ_count_67 hl rfl ((lc_incv _ (by decide)).trans e67.symm) (by decide) rfl (fun ls hl => ?_)
      replace hl : lv_has ls 3 [(2, .int x67), (0, .ref (lc_ad G 80)), (1, .int x1)] := hl
      refine lv_goto (tgt := 30) hx hb dQ_count_70 (by decide) ?_
      exact ih hf (lv_sub hl [1, 2, 0] rfl) hH
set_option maxHeartbeats 4000000 in
set_option maxRecDepth 100000 in
theorem cQ_count (l : Launch) (G : lc_G) {a1 : Int32} {r : Int32} {z z' : lc_S} (hf : fQ_count a1 z = some (r, z')) : lc_M l G yQ_count wQ_count 2 [.ref (lc_ad G 80), .int a1] z (some (.int r)) z' := by
  refine lc_M_of (cc := prog_10_method_49_code) (maxL := 3) (ret := (some .int)) (own := "LinearCellsModel") (by decide) rfl (fun w h => List.mem_cons_of_mem _ h) (Nat.le_of_ble_eq_true rfl) rfl ?_
  intro p e s m below meth c hx hb hml hr hlocks hown hts hE ls hl hH
  replace hl : lv_has ls 3 [(0, .ref (lc_ad G 80)), (1, .int a1)] := hl
  rw [fQ_count] at hf
  refine lv_aload_n hx hb dQ_count_0 rfl (lv_at hl 0 rfl) ?_
  refine lc_getl hx hb hts hown hE hH flQ_301 lc_h80 rfl dQ_count_1 ?_
  refine lv_ldc2 hx hb hown (hts _ kcQ_332) dQ_count_4 ?_
  refine W.lcmp hx hb dQ_count_7 ?_
  refine lv_if_ge (tgt := 28) hx hb dQ_count_8 (by decide) (fun hc => ?_) (fun hc => ?_)
  · replace hf := lc_ite_pos hc hf
    refine lv_iconst (v := 0) hx hb dQ_count_28 (by decide) ?_
    refine lv_istore_n hx hb dQ_count_29 rfl hl (by decide) rfl (fun ls hl => ?_)
    replace hl : lv_has ls 3 [(2, .int 0), (0, .ref (lc_ad G 80)), (1, .int a1)] := hl
    exact bQ_count_30 hx hb hml hr hlocks hown hts hE _ hf (lv_sub hl [1, 2, 0] rfl) hH
  · replace hf := lc_ite_neg hc hf
    refine lv_aload_n hx hb dQ_count_11 rfl (lv_at hl 0 rfl) ?_
    refine lc_getl hx hb hts hown hE hH flQ_301 lc_h80 rfl dQ_count_12 ?_
    obtain ⟨r15, z15, h15, hf⟩ := lc_bnd_some hf
    refine lc_calli (va_runS (As := [.long (lcL z 80 47)]) (rest := []) ⟨hx, hb, hml, hown, hts⟩ (cQ_isNumber l G h15) (lc_cwS hts ksQ_328 (lc_room (by decide) (by decide))) (lc_preS hE hH _) rfl rfl hl.1 rfl (lv_room (Nat.le_of_ble_eq_true rfl)) dQ_count_15 ⟨Nat.zero_le _, Nat.zero_le _⟩) hH (fun H locs hH => ?_)
    refine lv_iload_n hx hb dQ_count_18 rfl (lv_at hl 1 rfl) ?_
    refine lv_icmp_eq (tgt := 26) hx hb dQ_count_19 (by decide) (fun hc => ?_) (fun hc => ?_)
    · replace hf := lc_ite_pos hc hf
      refine lv_iconst (v := 0) hx hb dQ_count_26 (by decide) ?_
      exact lc_iret hx hb hr hlocks hH hf dQ_count_27
    · replace hf := lc_ite_neg hc hf
      refine lv_iconst (v := 1) hx hb dQ_count_22 (by decide) ?_
      refine lv_goto (tgt := 27) hx hb dQ_count_23 (by decide) ?_
      exact lc_iret hx hb hr hlocks hH hf dQ_count_27
