theorem dQ_isChecked_0 : decode prog_10_method_30_code 0 = .ok (.aload_n 0, 1) := by decide +kernel
theorem dQ_isChecked_1 : decode prog_10_method_30_code 1 = .ok (.iload_n 1, 1) := by decide +kernel
theorem dQ_isChecked_2 : decode prog_10_method_30_code 2 = .ok (.invokevirtual 244, 3) := by decide +kernel
theorem dQ_isChecked_5 : decode prog_10_method_30_code 5 = .ok (.ifCond .eq 18, 3) := by decide +kernel
theorem dQ_isChecked_8 : decode prog_10_method_30_code 8 = .ok (.aload_n 0, 1) := by decide +kernel
theorem dQ_isChecked_9 : decode prog_10_method_30_code 9 = .ok (.getfield 68, 3) := by decide +kernel
theorem dQ_isChecked_12 : decode prog_10_method_30_code 12 = .ok (.iconst 0, 1) := by decide +kernel
theorem dQ_isChecked_13 : decode prog_10_method_30_code 13 = .ok (.iaload, 1) := by decide +kernel
theorem dQ_isChecked_14 : decode prog_10_method_30_code 14 = .ok (.aload_n 0, 1) := by decide +kernel
theorem dQ_isChecked_15 : decode prog_10_method_30_code 15 = .ok (.getfield 74, 3) := by decide +kernel
theorem dQ_isChecked_18 : decode prog_10_method_30_code 18 = .ok (.iload_n 1, 1) := by decide +kernel
theorem dQ_isChecked_19 : decode prog_10_method_30_code 19 = .ok (.iaload, 1) := by decide +kernel
theorem dQ_isChecked_20 : decode prog_10_method_30_code 20 = .ok (.if_icmp .eq 5, 3) := by decide +kernel
theorem dQ_isChecked_23 : decode prog_10_method_30_code 23 = .ok (.iconst 0, 1) := by decide +kernel
theorem dQ_isChecked_24 : decode prog_10_method_30_code 24 = .ok (.ireturn, 1) := by decide +kernel
theorem dQ_isChecked_25 : decode prog_10_method_30_code 25 = .ok (.aload_n 0, 1) := by decide +kernel
theorem dQ_isChecked_26 : decode prog_10_method_30_code 26 = .ok (.aload_n 0, 1) := by decide +kernel
theorem dQ_isChecked_27 : decode prog_10_method_30_code 27 = .ok (.getfield 71, 3) := by decide +kernel
theorem dQ_isChecked_30 : decode prog_10_method_30_code 30 = .ok (.iload_n 1, 1) := by decide +kernel
theorem dQ_isChecked_31 : decode prog_10_method_30_code 31 = .ok (.iaload, 1) := by decide +kernel
theorem dQ_isChecked_32 : decode prog_10_method_30_code 32 = .ok (.invokevirtual 247, 3) := by decide +kernel
theorem dQ_isChecked_35 : decode prog_10_method_30_code 35 = .ok (.ifCond .eq 14, 3) := by decide +kernel
theorem dQ_isChecked_38 : decode prog_10_method_30_code 38 = .ok (.aload_n 0, 1) := by decide +kernel
theorem dQ_isChecked_39 : decode prog_10_method_30_code 39 = .ok (.iload_n 1, 1) := by decide +kernel
theorem dQ_isChecked_40 : decode prog_10_method_30_code 40 = .ok (.iconst (-1), 1) := by decide +kernel
theorem dQ_isChecked_41 : decode prog_10_method_30_code 41 = .ok (.iconst 0, 1) := by decide +kernel
theorem dQ_isChecked_42 : decode prog_10_method_30_code 42 = .ok (.iconst 0, 1) := by decide +kernel
theorem dQ_isChecked_43 : decode prog_10_method_30_code 43 = .ok (.invokevirtual 250, 3) := by decide +kernel
theorem dQ_isChecked_46 : decode prog_10_method_30_code 46 = .ok (.ifCond .eq 7, 3) := by decide +kernel
theorem dQ_isChecked_49 : decode prog_10_method_30_code 49 = .ok (.iconst 1, 1) := by decide +kernel
theorem dQ_isChecked_50 : decode prog_10_method_30_code 50 = .ok (.goto 4, 3) := by decide +kernel
theorem dQ_isChecked_53 : decode prog_10_method_30_code 53 = .ok (.iconst 0, 1) := by decide +kernel
theorem dQ_isChecked_54 : decode prog_10_method_30_code 54 = .ok (.istore_n 2, 1) := by decide +kernel
theorem dQ_isChecked_55 : decode prog_10_method_30_code 55 = .ok (.iconst 0, 1) := by decide +kernel
theorem dQ_isChecked_56 : decode prog_10_method_30_code 56 = .ok (.istore_n 3, 1) := by decide +kernel
theorem dQ_isChecked_57 : decode prog_10_method_30_code 57 = .ok (.iload_n 3, 1) := by decide +kernel
theorem dQ_isChecked_58 : decode prog_10_method_30_code 58 = .ok (.aload_n 0, 1) := by decide +kernel
theorem dQ_isChecked_59 : decode prog_10_method_30_code 59 = .ok (.getfield 35, 3) := by decide +kernel
theorem dQ_isChecked_62 : decode prog_10_method_30_code 62 = .ok (.iload_n 1, 1) := by decide +kernel
theorem dQ_isChecked_63 : decode prog_10_method_30_code 63 = .ok (.iconst 1, 1) := by decide +kernel
theorem dQ_isChecked_64 : decode prog_10_method_30_code 64 = .ok (.iadd, 1) := by decide +kernel
theorem dQ_isChecked_65 : decode prog_10_method_30_code 65 = .ok (.iaload, 1) := by decide +kernel
theorem dQ_isChecked_66 : decode prog_10_method_30_code 66 = .ok (.if_icmp .ge 189, 3) := by decide +kernel
theorem dQ_isChecked_69 : decode prog_10_method_30_code 69 = .ok (.iload_n 2, 1) := by decide +kernel
theorem dQ_isChecked_70 : decode prog_10_method_30_code 70 = .ok (.ifCond .eq 185, 3) := by decide +kernel
theorem dQ_isChecked_73 : decode prog_10_method_30_code 73 = .ok (.bipush 120, 2) := by decide +kernel
theorem dQ_isChecked_75 : decode prog_10_method_30_code 75 = .ok (.iload_n 1, 1) := by decide +kernel
theorem dQ_isChecked_76 : decode prog_10_method_30_code 76 = .ok (.iconst 1, 1) := by decide +kernel
theorem dQ_isChecked_77 : decode prog_10_method_30_code 77 = .ok (.iadd, 1) := by decide +kernel
theorem dQ_isChecked_78 : decode prog_10_method_30_code 78 = .ok (.imul, 1) := by decide +kernel
theorem dQ_isChecked_79 : decode prog_10_method_30_code 79 = .ok (.iload_n 3, 1) := by decide +kernel
theorem dQ_isChecked_80 : decode prog_10_method_30_code 80 = .ok (.iadd, 1) := by decide +kernel
theorem dQ_isChecked_81 : decode prog_10_method_30_code 81 = .ok (.istore 4, 2) := by decide +kernel
theorem dQ_isChecked_83 : decode prog_10_method_30_code 83 = .ok (.aload_n 0, 1) := by decide +kernel
theorem dQ_isChecked_84 : decode prog_10_method_30_code 84 = .ok (.getfield 13, 3) := by decide +kernel
theorem dQ_isChecked_87 : decode prog_10_method_30_code 87 = .ok (.iload 4, 2) := by decide +kernel
theorem dQ_isChecked_89 : decode prog_10_method_30_code 89 = .ok (.iaload, 1) := by decide +kernel
theorem dQ_isChecked_90 : decode prog_10_method_30_code 90 = .ok (.bipush 58, 2) := by decide +kernel
theorem dQ_isChecked_92 : decode prog_10_method_30_code 92 = .ok (.if_icmp .eq 15, 3) := by decide +kernel
theorem dQ_isChecked_95 : decode prog_10_method_30_code 95 = .ok (.aload_n 0, 1) := by decide +kernel
theorem dQ_isChecked_96 : decode prog_10_method_30_code 96 = .ok (.getfield 13, 3) := by decide +kernel
theorem dQ_isChecked_99 : decode prog_10_method_30_code 99 = .ok (.iload 4, 2) := by decide +kernel
theorem dQ_isChecked_101 : decode prog_10_method_30_code 101 = .ok (.iaload, 1) := by decide +kernel
theorem dQ_isChecked_102 : decode prog_10_method_30_code 102 = .ok (.bipush 47, 2) := by decide +kernel
theorem dQ_isChecked_104 : decode prog_10_method_30_code 104 = .ok (.if_icmp .ne 18, 3) := by decide +kernel
theorem dQ_isChecked_107 : decode prog_10_method_30_code 107 = .ok (.aload_n 0, 1) := by decide +kernel
theorem dQ_isChecked_108 : decode prog_10_method_30_code 108 = .ok (.getfield 68, 3) := by decide +kernel
theorem dQ_isChecked_111 : decode prog_10_method_30_code 111 = .ok (.aload_n 0, 1) := by decide +kernel
theorem dQ_isChecked_112 : decode prog_10_method_30_code 112 = .ok (.getfield 19, 3) := by decide +kernel
theorem dQ_isChecked_115 : decode prog_10_method_30_code 115 = .ok (.iload 4, 2) := by decide +kernel
theorem dQ_isChecked_117 : decode prog_10_method_30_code 117 = .ok (.iaload, 1) := by decide +kernel
theorem dQ_isChecked_118 : decode prog_10_method_30_code 118 = .ok (.iaload, 1) := by decide +kernel
theorem dQ_isChecked_119 : decode prog_10_method_30_code 119 = .ok (.goto 4, 3) := by decide +kernel
theorem dQ_isChecked_122 : decode prog_10_method_30_code 122 = .ok (.iconst 0, 1) := by decide +kernel
theorem dQ_isChecked_123 : decode prog_10_method_30_code 123 = .ok (.istore 5, 2) := by decide +kernel
theorem dQ_isChecked_125 : decode prog_10_method_30_code 125 = .ok (.aload_n 0, 1) := by decide +kernel
theorem dQ_isChecked_126 : decode prog_10_method_30_code 126 = .ok (.getfield 13, 3) := by decide +kernel
theorem dQ_isChecked_129 : decode prog_10_method_30_code 129 = .ok (.iload 4, 2) := by decide +kernel
theorem dQ_isChecked_131 : decode prog_10_method_30_code 131 = .ok (.iaload, 1) := by decide +kernel
theorem dQ_isChecked_132 : decode prog_10_method_30_code 132 = .ok (.bipush 58, 2) := by decide +kernel
theorem dQ_isChecked_134 : decode prog_10_method_30_code 134 = .ok (.if_icmp .ne 35, 3) := by decide +kernel
theorem dQ_isChecked_137 : decode prog_10_method_30_code 137 = .ok (.aload_n 0, 1) := by decide +kernel
theorem dQ_isChecked_138 : decode prog_10_method_30_code 138 = .ok (.iload 5, 2) := by decide +kernel
theorem dQ_isChecked_140 : decode prog_10_method_30_code 140 = .ok (.invokevirtual 247, 3) := by decide +kernel
theorem dQ_isChecked_143 : decode prog_10_method_30_code 143 = .ok (.ifCond .eq 20, 3) := by decide +kernel
theorem dQ_isChecked_146 : decode prog_10_method_30_code 146 = .ok (.aload_n 0, 1) := by decide +kernel
theorem dQ_isChecked_147 : decode prog_10_method_30_code 147 = .ok (.iload_n 1, 1) := by decide +kernel
theorem dQ_isChecked_148 : decode prog_10_method_30_code 148 = .ok (.iload_n 3, 1) := by decide +kernel
theorem dQ_isChecked_149 : decode prog_10_method_30_code 149 = .ok (.iconst 0, 1) := by decide +kernel
theorem dQ_isChecked_150 : decode prog_10_method_30_code 150 = .ok (.aload_n 0, 1) := by decide +kernel
theorem dQ_isChecked_151 : decode prog_10_method_30_code 151 = .ok (.getfield 22, 3) := by decide +kernel
theorem dQ_isChecked_154 : decode prog_10_method_30_code 154 = .ok (.iload 4, 2) := by decide +kernel
theorem dQ_isChecked_156 : decode prog_10_method_30_code 156 = .ok (.iaload, 1) := by decide +kernel
theorem dQ_isChecked_157 : decode prog_10_method_30_code 157 = .ok (.invokevirtual 250, 3) := by decide +kernel
theorem dQ_isChecked_160 : decode prog_10_method_30_code 160 = .ok (.ifCond .eq 7, 3) := by decide +kernel
theorem dQ_isChecked_163 : decode prog_10_method_30_code 163 = .ok (.iconst 1, 1) := by decide +kernel
theorem dQ_isChecked_164 : decode prog_10_method_30_code 164 = .ok (.goto 4, 3) := by decide +kernel
theorem dQ_isChecked_167 : decode prog_10_method_30_code 167 = .ok (.iconst 0, 1) := by decide +kernel
theorem dQ_isChecked_168 : decode prog_10_method_30_code 168 = .ok (.istore_n 2, 1) := by decide +kernel
theorem dQ_isChecked_169 : decode prog_10_method_30_code 169 = .ok (.aload_n 0, 1) := by decide +kernel
theorem dQ_isChecked_170 : decode prog_10_method_30_code 170 = .ok (.getfield 13, 3) := by decide +kernel
theorem dQ_isChecked_173 : decode prog_10_method_30_code 173 = .ok (.iload 4, 2) := by decide +kernel
theorem dQ_isChecked_175 : decode prog_10_method_30_code 175 = .ok (.iaload, 1) := by decide +kernel
theorem dQ_isChecked_176 : decode prog_10_method_30_code 176 = .ok (.bipush 47, 2) := by decide +kernel
theorem dQ_isChecked_178 : decode prog_10_method_30_code 178 = .ok (.if_icmp .ne 71, 3) := by decide +kernel
theorem dQ_isChecked_181 : decode prog_10_method_30_code 181 = .ok (.aload_n 0, 1) := by decide +kernel
theorem dQ_isChecked_182 : decode prog_10_method_30_code 182 = .ok (.aload_n 0, 1) := by decide +kernel
theorem dQ_isChecked_183 : decode prog_10_method_30_code 183 = .ok (.getfield 62, 3) := by decide +kernel
theorem dQ_isChecked_186 : decode prog_10_method_30_code 186 = .ok (.iload 5, 2) := by decide +kernel
theorem dQ_isChecked_188 : decode prog_10_method_30_code 188 = .ok (.iaload, 1) := by decide +kernel
theorem dQ_isChecked_189 : decode prog_10_method_30_code 189 = .ok (.invokevirtual 247, 3) := by decide +kernel
theorem dQ_isChecked_192 : decode prog_10_method_30_code 192 = .ok (.ifCond .eq 20, 3) := by decide +kernel
theorem dQ_isChecked_195 : decode prog_10_method_30_code 195 = .ok (.aload_n 0, 1) := by decide +kernel
theorem dQ_isChecked_196 : decode prog_10_method_30_code 196 = .ok (.iload_n 1, 1) := by decide +kernel
theorem dQ_isChecked_197 : decode prog_10_method_30_code 197 = .ok (.iload_n 3, 1) := by decide +kernel
theorem dQ_isChecked_198 : decode prog_10_method_30_code 198 = .ok (.iconst 0, 1) := by decide +kernel
theorem dQ_isChecked_199 : decode prog_10_method_30_code 199 = .ok (.aload_n 0, 1) := by decide +kernel
theorem dQ_isChecked_200 : decode prog_10_method_30_code 200 = .ok (.getfield 22, 3) := by decide +kernel
theorem dQ_isChecked_203 : decode prog_10_method_30_code 203 = .ok (.iload 4, 2) := by decide +kernel
theorem dQ_isChecked_205 : decode prog_10_method_30_code 205 = .ok (.iaload, 1) := by decide +kernel
theorem dQ_isChecked_206 : decode prog_10_method_30_code 206 = .ok (.invokevirtual 250, 3) := by decide +kernel
theorem dQ_isChecked_209 : decode prog_10_method_30_code 209 = .ok (.ifCond .eq 38, 3) := by decide +kernel
theorem dQ_isChecked_212 : decode prog_10_method_30_code 212 = .ok (.aload_n 0, 1) := by decide +kernel
theorem dQ_isChecked_213 : decode prog_10_method_30_code 213 = .ok (.aload_n 0, 1) := by decide +kernel
theorem dQ_isChecked_214 : decode prog_10_method_30_code 214 = .ok (.getfield 65, 3) := by decide +kernel
theorem dQ_isChecked_217 : decode prog_10_method_30_code 217 = .ok (.iload 5, 2) := by decide +kernel
theorem dQ_isChecked_219 : decode prog_10_method_30_code 219 = .ok (.iaload, 1) := by decide +kernel
theorem dQ_isChecked_220 : decode prog_10_method_30_code 220 = .ok (.invokevirtual 247, 3) := by decide +kernel
theorem dQ_isChecked_223 : decode prog_10_method_30_code 223 = .ok (.ifCond .eq 20, 3) := by decide +kernel
theorem dQ_isChecked_226 : decode prog_10_method_30_code 226 = .ok (.aload_n 0, 1) := by decide +kernel
theorem dQ_isChecked_227 : decode prog_10_method_30_code 227 = .ok (.iload_n 1, 1) := by decide +kernel
theorem dQ_isChecked_228 : decode prog_10_method_30_code 228 = .ok (.iload_n 3, 1) := by decide +kernel
theorem dQ_isChecked_229 : decode prog_10_method_30_code 229 = .ok (.iconst 1, 1) := by decide +kernel
theorem dQ_isChecked_230 : decode prog_10_method_30_code 230 = .ok (.aload_n 0, 1) := by decide +kernel
theorem dQ_isChecked_231 : decode prog_10_method_30_code 231 = .ok (.getfield 22, 3) := by decide +kernel
theorem dQ_isChecked_234 : decode prog_10_method_30_code 234 = .ok (.iload 4, 2) := by decide +kernel
theorem dQ_isChecked_236 : decode prog_10_method_30_code 236 = .ok (.iaload, 1) := by decide +kernel
theorem dQ_isChecked_237 : decode prog_10_method_30_code 237 = .ok (.invokevirtual 250, 3) := by decide +kernel
theorem dQ_isChecked_240 : decode prog_10_method_30_code 240 = .ok (.ifCond .eq 7, 3) := by decide +kernel
theorem dQ_isChecked_243 : decode prog_10_method_30_code 243 = .ok (.iconst 1, 1) := by decide +kernel
theorem dQ_isChecked_244 : decode prog_10_method_30_code 244 = .ok (.goto 4, 3) := by decide +kernel
theorem dQ_isChecked_247 : decode prog_10_method_30_code 247 = .ok (.iconst 0, 1) := by decide +kernel
theorem dQ_isChecked_248 : decode prog_10_method_30_code 248 = .ok (.istore_n 2, 1) := by decide +kernel
theorem dQ_isChecked_249 : decode prog_10_method_30_code 249 = .ok (.iinc 3 1, 3) := by decide +kernel
theorem dQ_isChecked_252 : decode prog_10_method_30_code 252 = .ok (.goto (-195), 3) := by decide +kernel
theorem dQ_isChecked_255 : decode prog_10_method_30_code 255 = .ok (.iload_n 2, 1) := by decide +kernel
theorem dQ_isChecked_256 : decode prog_10_method_30_code 256 = .ok (.ireturn, 1) := by decide +kernel
def fQ_isChecked_23 (z : lc_S) : Option ((Int32) × lc_S) :=
  some (0, z)
def fQ_isChecked_249 (k57 : Int32 → Int32 → Int32 → lc_S → Option ((Int32) × lc_S)) (x1 : Int32) (x2 : Int32) (x3 : Int32) (z : lc_S) : Option ((Int32) × lc_S) :=
  lc_let (x3 + 1) (fun x249 => k57 x1 x2 x249 z)
def fQ_isChecked_248 (k57 : Int32 → Int32 → Int32 → lc_S → Option ((Int32) × lc_S)) (x1 : Int32) (x3 : Int32) (t0 : Int32) (z : lc_S) : Option ((Int32) × lc_S) :=
  fQ_isChecked_249 k57 x1 t0 x3 z
def fQ_isChecked_243 (k57 : Int32 → Int32 → Int32 → lc_S → Option ((Int32) × lc_S)) (x1 : Int32) (x3 : Int32) (z : lc_S) : Option ((Int32) × lc_S) :=
  fQ_isChecked_248 k57 x1 x3 1 z
def fQ_isChecked_247 (k57 : Int32 → Int32 → Int32 → lc_S → Option ((Int32) × lc_S)) (x1 : Int32) (x3 : Int32) (z : lc_S) : Option ((Int32) × lc_S) :=
  fQ_isChecked_248 k57 x1 x3 0 z
def fQ_isChecked_212 (k57 : Int32 → Int32 → Int32 → lc_S → Option ((Int32) × lc_S)) (x1 : Int32) (x3 : Int32) (x4 : Int32) (x5 : Int32) (z : lc_S) : Option ((Int32) × lc_S) :=
  lc_chk (lc_in x5 340) (lc_bnd (fQ_isLinear (lcI z 99 x5.toNatClampNeg) z) (fun r220 z220 => if r220 = 0 then (fQ_isChecked_243 k57 x1 x3 z220) else (lc_chk (lc_in x4 600) (lc_bnd (fQ_isUsedOnce x1 x3 1 (lcI z220 85 x4.toNatClampNeg) z220) (fun r237 z237 => if r237 = 0 then (fQ_isChecked_247 k57 x1 x3 z237) else (fQ_isChecked_243 k57 x1 x3 z237))))))
def fQ_isChecked_169 (k57 : Int32 → Int32 → Int32 → lc_S → Option ((Int32) × lc_S)) (x1 : Int32) (x2 : Int32) (x3 : Int32) (x4 : Int32) (x5 : Int32) (z : lc_S) : Option ((Int32) × lc_S) :=
  lc_chk (lc_in x4 600) (if (lcI z 82 x4.toNatClampNeg) = 47 then (lc_chk (lc_in x5 340) (lc_bnd (fQ_isLinear (lcI z 98 x5.toNatClampNeg) z) (fun r189 z189 => if r189 = 0 then (fQ_isChecked_212 k57 x1 x3 x4 x5 z189) else (lc_chk (lc_in x4 600) (lc_bnd (fQ_isUsedOnce x1 x3 0 (lcI z189 85 x4.toNatClampNeg) z189) (fun r206 z206 => if r206 = 0 then (fQ_isChecked_247 k57 x1 x3 z206) else (fQ_isChecked_212 k57 x1 x3 x4 x5 z206))))))) else (fQ_isChecked_249 k57 x1 x2 x3 z))
def fQ_isChecked_168 (k57 : Int32 → Int32 → Int32 → lc_S → Option ((Int32) × lc_S)) (x1 : Int32) (x3 : Int32) (x4 : Int32) (x5 : Int32) (t0 : Int32) (z : lc_S) : Option ((Int32) × lc_S) :=
  fQ_isChecked_169 k57 x1 t0 x3 x4 x5 z
def fQ_isChecked_163 (k57 : Int32 → Int32 → Int32 → lc_S → Option ((Int32) × lc_S)) (x1 : Int32) (x3 : Int32) (x4 : Int32) (x5 : Int32) (z : lc_S) : Option ((Int32) × lc_S) :=
  fQ_isChecked_168 k57 x1 x3 x4 x5 1 z
def fQ_isChecked_123 (k57 : Int32 → Int32 → Int32 → lc_S → Option ((Int32) × lc_S)) (x1 : Int32) (x2 : Int32) (x3 : Int32) (x4 : Int32) (t0 : Int32) (z : lc_S) : Option ((Int32) × lc_S) :=
  lc_chk (lc_in x4 600) (if (lcI z 82 x4.toNatClampNeg) = 58 then (lc_bnd (fQ_isLinear t0 z) (fun r140 z140 => if r140 = 0 then (fQ_isChecked_163 k57 x1 x3 x4 t0 z140) else (lc_chk (lc_in x4 600) (lc_bnd (fQ_isUsedOnce x1 x3 0 (lcI z140 85 x4.toNatClampNeg) z140) (fun r157 z157 => if r157 = 0 then (fQ_isChecked_168 k57 x1 x3 x4 t0 0 z157) else (fQ_isChecked_163 k57 x1 x3 x4 t0 z157)))))) else (fQ_isChecked_169 k57 x1 x2 x3 x4 t0 z))
def fQ_isChecked_107 (k57 : Int32 → Int32 → Int32 → lc_S → Option ((Int32) × lc_S)) (x1 : Int32) (x2 : Int32) (x3 : Int32) (x4 : Int32) (z : lc_S) : Option ((Int32) × lc_S) :=
  lc_chk (lc_in x4 600) (lc_chk (lc_in (lcI z 84 x4.toNatClampNeg) 120) (fQ_isChecked_123 k57 x1 x2 x3 x4 (lcI z 100 (lcI z 84 x4.toNatClampNeg).toNatClampNeg) z))
def fQ_isChecked_255 (x2 : Int32) (z : lc_S) : Option ((Int32) × lc_S) :=
  lc_chk (lc_zok x2) (some (x2, z))
def fQ_isChecked_57 : Nat → Int32 → Int32 → Int32 → lc_S → Option ((Int32) × lc_S)
  | 0, _, _, _, _ => none
  | n + 1, x1, x2, x3, z => lc_chk (lc_in (x1 + 1) 5) (if (lcI z 89 (x1 + 1).toNatClampNeg) ≤ x3 then (fQ_isChecked_255 x2 z) else (if x2 = 0 then (fQ_isChecked_255 x2 z) else (lc_let ((120 * (x1 + 1)) + x3) (fun x81 => lc_chk (lc_in x81 600) (if (lcI z 82 x81.toNatClampNeg) = 58 then (fQ_isChecked_107 (fQ_isChecked_57 n) x1 x2 x3 x81 z) else (lc_chk (lc_in x81 600) (if (lcI z 82 x81.toNatClampNeg) = 47 then (fQ_isChecked_107 (fQ_isChecked_57 n) x1 x2 x3 x81 z) else (fQ_isChecked_123 (fQ_isChecked_57 n) x1 x2 x3 x81 0 z))))))))
def fQ_isChecked_54 (x1 : Int32) (t0 : Int32) (z : lc_S) : Option ((Int32) × lc_S) :=
  fQ_isChecked_57 lc_FU x1 t0 0 z
def fQ_isChecked_49 (x1 : Int32) (z : lc_S) : Option ((Int32) × lc_S) :=
  fQ_isChecked_54 x1 1 z
def fQ_isChecked (a1 : Int32) (z : lc_S) : Option ((Int32) × lc_S) :=
  lc_bnd (fQ_find a1 z) (fun r2 z2 => if r2 = 0 then (fQ_isChecked_23 z2) else (lc_chk (lc_in a1 4) (if (lcI z2 100 (0 : Int32).toNatClampNeg) = (lcI z2 102 a1.toNatClampNeg) then (lc_chk (lc_in a1 4) (lc_bnd (fQ_isLinear (lcI z2 101 a1.toNatClampNeg) z2) (fun r32 z32 => if r32 = 0 then (fQ_isChecked_49 a1 z32) else (lc_bnd (fQ_isUsedOnce a1 (-1) 0 0 z32) (fun r43 z43 => if r43 = 0 then (fQ_isChecked_54 a1 0 z43) else (fQ_isChecked_49 a1 z43)))))) else (fQ_isChecked_23 z2))))
set_option maxHeartbeats 4000000 in
set_option maxRecDepth 100000 in
theorem bQ_isChecked_23 {p : Program} {l : Launch} {e : Env} {s : State} {m : MethodId} {args : Array Value} {below : List Frame} {meth : Method} {c : Code} {G : lc_G} (hx : p.tables.exec = Jvm.exec) (hb : c.code = prog_10_method_30_code) (hml : c.maxLocals = 6) (hr : meth.sig.returnType = (some .boolean)) (hlocks : meth.locks = false) (hown : s.vm.findClass "LinearCellsModel" = some m.cls) (hts : ∀ w ∈ lc_ALL, w.before args s = true) (hE : lc_E G s) {r : Int32} {z' : lc_S} : ∀ {z : lc_S} {H : Heap} {locs : List Loc} {ls : Array Slot}, fQ_isChecked_23 z = some (r, z') → lv_has ls 6 [] → lc_H G z s.heap H locs → W p l e (lc_rm 4) s m args below meth c H locs 0 0 (MQ below (lc_Q G (some (.int r)) z') args s 0 0 (lc_A G)) (F0 m 23 ls []) := by
  intro z H locs ls hf hl hH
  rw [fQ_isChecked_23] at hf
  refine lv_iconst (v := 0) hx hb dQ_isChecked_23 (by decide) ?_
  exact lc_zret hx hb hr hlocks (by decide) hH hf dQ_isChecked_24
set_option maxHeartbeats 4000000 in
set_option maxRecDepth 100000 in
theorem bQ_isChecked_249 {p : Program} {l : Launch} {e : Env} {s : State} {m : MethodId} {args : Array Value} {below : List Frame} {meth : Method} {c : Code} {G : lc_G} (hx : p.tables.exec = Jvm.exec) (hb : c.code = prog_10_method_30_code) (hml : c.maxLocals = 6) (hr : meth.sig.returnType = (some .boolean)) (hlocks : meth.locks = false) (hown : s.vm.findClass "LinearCellsModel" = some m.cls) (hts : ∀ w ∈ lc_ALL, w.before args s = true) (hE : lc_E G s) {k57 : Int32 → Int32 → Int32 → lc_S → Option ((Int32) × lc_S)} {r : Int32} {z' : lc_S} (hk57 : ∀ {x1 : Int32} {x2 : Int32} {x3 : Int32} {z : lc_S} {H : Heap} {locs : List Loc} {ls : Array Slot}, k57 x1 x2 x3 z = some (r, z') → lv_has ls 6 [(0, .ref (lc_ad G 80)), (1, .int x1), (2, .int x2), (3, .int x3)] → lc_H G z s.heap H locs → W p l e (lc_rm 4) s m args below meth c H locs 0 0 (MQ below (lc_Q G (some (.int r)) z') args s 0 0 (lc_A G)) (F0 m 57 ls [])) : ∀ {x1 : Int32} {x2 : Int32} {x3 : Int32} {z : lc_S} {H : Heap} {locs : List Loc} {ls : Array Slot}, fQ_isChecked_249 k57 x1 x2 x3 z = some (r, z') → lv_has ls 6 [(0, .ref (lc_ad G 80)), (1, .int x1), (2, .int x2), (3, .int x3)] → lc_H G z s.heap H locs → W p l e (lc_rm 4) s m args below meth c H locs 0 0 (MQ below (lc_Q G (some (.int r)) z') args s 0 0 (lc_A G)) (F0 m 249 ls []) := by
  intro x1 x2 x3 z H locs ls hf hl hH
  rw [fQ_isChecked_249] at hf
  obtain ⟨x249, e249⟩ : ∃ x : Int32, x = x3 + 1 := ⟨_, rfl⟩
  replace hf := lc_let_of e249 hf
  refine lv_iinc (k := 3) (v := x249) hx hb dQ_isChecked_249 hl rfl ((lc_incv _ (by decide)).trans e249.symm) (by decide) rfl (fun ls hl => ?_)
  replace hl : lv_has ls 6 [(3, .int x249), (0, .ref (lc_ad G 80)), (1, .int x1), (2, .int x2)] := hl
  refine lv_goto (tgt := 57) hx hb dQ_isChecked_252 (by decide) ?_
  exact hk57 hf (lv_sub hl [1, 2, 3, 0] rfl) hH
set_option maxHeartbeats 4000000 in
set_option maxRecDepth 100000 in
theorem bQ_isChecked_248 {p : Program} {l : Launch} {e : Env} {s : State} {m : MethodId} {args : Array Value} {below : List Frame} {meth : Method} {c : Code} {G : lc_G} (hx : p.tables.exec = Jvm.exec) (hb : c.code = prog_10_method_30_code) (hml : c.maxLocals = 6) (hr : meth.sig.returnType = (some .boolean)) (hlocks : meth.locks = false) (hown : s.vm.findClass "LinearCellsModel" = some m.cls) (hts : ∀ w ∈ lc_ALL, w.before args s = true) (hE : lc_E G s) {k57 : Int32 → Int32 → Int32 → lc_S → Option ((Int32) × lc_S)} {r : Int32} {z' : lc_S} (hk57 : ∀ {x1 : Int32} {x2 : Int32} {x3 : Int32} {z : lc_S} {H : Heap} {locs : List Loc} {ls : Array Slot}, k57 x1 x2 x3 z = some (r, z') → lv_has ls 6 [(0, .ref (lc_ad G 80)), (1, .int x1), (2, .int x2), (3, .int x3)] → lc_H G z s.heap H locs → W p l e (lc_rm 4) s m args below meth c H locs 0 0 (MQ below (lc_Q G (some (.int r)) z') args s 0 0 (lc_A G)) (F0 m 57 ls [])) : ∀ {x1 : Int32} {x3 : Int32} {t0 : Int32} {z : lc_S} {H : Heap} {locs : List Loc} {ls : Array Slot}, fQ_isChecked_248 k57 x1 x3 t0 z = some (r, z') → lv_has ls 6 [(0, .ref (lc_ad G 80)), (1, .int x1), (3, .int x3)] → lc_H G z s.heap H locs → W p l e (lc_rm 4) s m args below meth c H locs 0 0 (MQ below (lc_Q G (some (.int r)) z') args s 0 0 (lc_A G)) (F0 m 248 ls [.int t0]) := by
  intro x1 x3 t0 z H locs ls hf hl hH
  rw [fQ_isChecked_248] at hf
  refine lv_istore_n hx hb dQ_isChecked_248 rfl hl (by decide) rfl (fun ls hl => ?_)
  replace hl : lv_has ls 6 [(2, .int t0), (0, .ref (lc_ad G 80)), (1, .int x1), (3, .int x3)] := hl
  exact bQ_isChecked_249 hx hb hml hr hlocks hown hts hE (fun hf hl hH => hk57 hf hl hH) hf (lv_sub hl [1, 2, 0, 3] rfl) hH
set_option maxHeartbeats 4000000 in
set_option maxRecDepth 100000 in
theorem bQ_isChecked_243 {p : Program} {l : Launch} {e : Env} {s : State} {m : MethodId} {args : Array Value} {below : List Frame} {meth : Method} {c : Code} {G : lc_G} (hx : p.tables.exec = Jvm.exec) (hb : c.code = prog_10_method_30_code) (hml : c.maxLocals = 6) (hr : meth.sig.returnType = (some .boolean)) (hlocks : meth.locks = false) (hown : s.vm.findClass "LinearCellsModel" = some m.cls) (hts : ∀ w ∈ lc_ALL, w.before args s = true) (hE : lc_E G s) {k57 : Int32 → Int32 → Int32 → lc_S → Option ((Int32) × lc_S)} {r : Int32} {z' : lc_S} (hk57 : ∀ {x1 : Int32} {x2 : Int32} {x3 : Int32} {z : lc_S} {H : Heap} {locs : List Loc} {ls : Array Slot}, k57 x1 x2 x3 z = some (r, z') → lv_has ls 6 [(0, .ref (lc_ad G 80)), (1, .int x1), (2, .int x2), (3, .int x3)] → lc_H G z s.heap H locs → W p l e (lc_rm 4) s m args below meth c H locs 0 0 (MQ below (lc_Q G (some (.int r)) z') args s 0 0 (lc_A G)) (F0 m 57 ls [])) : ∀ {x1 : Int32} {x3 : Int32} {z : lc_S} {H : Heap} {locs : List Loc} {ls : Array Slot}, fQ_isChecked_243 k57 x1 x3 z = some (r, z') → lv_has ls 6 [(0, .ref (lc_ad G 80)), (1, .int x1), (3, .int x3)] → lc_H G z s.heap H locs → W p l e (lc_rm 4) s m args below meth c H locs 0 0 (MQ below (lc_Q G (some (.int r)) z') args s 0 0 (lc_A G)) (F0 m 243 ls []) := by
  intro x1 x3 z H locs ls hf hl hH
  rw [fQ_isChecked_243] at hf
  refine lv_iconst (v := 1) hx hb dQ_isChecked_243 (by decide) ?_
  refine lv_goto (tgt := 248) hx hb dQ_isChecked_244 (by decide) ?_
  exact bQ_isChecked_248 hx hb hml hr hlocks hown hts hE (fun hf hl hH => hk57 hf hl hH) hf (lv_sub hl [0, 1, 2] rfl) hH
set_option maxHeartbeats 4000000 in
set_option maxRecDepth 100000 in
theorem bQ_isChecked_247 {p : Program} {l : Launch} {e : Env} {s : State} {m : MethodId} {args : Array Value} {below : List Frame} {meth : Method} {c : Code} {G : lc_G} (hx : p.tables.exec = Jvm.exec) (hb : c.code = prog_10_method_30_code) (hml : c.maxLocals = 6) (hr : meth.sig.returnType = (some .boolean)) (hlocks : meth.locks = false) (hown : s.vm.findClass "LinearCellsModel" = some m.cls) (hts : ∀ w ∈ lc_ALL, w.before args s = true) (hE : lc_E G s) {k57 : Int32 → Int32 → Int32 → lc_S → Option ((Int32) × lc_S)} {r : Int32} {z' : lc_S} (hk57 : ∀ {x1 : Int32} {x2 : Int32} {x3 : Int32} {z : lc_S} {H : Heap} {locs : List Loc} {ls : Array Slot}, k57 x1 x2 x3 z = some (r, z') → lv_has ls 6 [(0, .ref (lc_ad G 80)), (1, .int x1), (2, .int x2), (3, .int x3)] → lc_H G z s.heap H locs → W p l e (lc_rm 4) s m args below meth c H locs 0 0 (MQ below (lc_Q G (some (.int r)) z') args s 0 0 (lc_A G)) (F0 m 57 ls [])) : ∀ {x1 : Int32} {x3 : Int32} {z : lc_S} {H : Heap} {locs : List Loc} {ls : Array Slot}, fQ_isChecked_247 k57 x1 x3 z = some (r, z') → lv_has ls 6 [(0, .ref (lc_ad G 80)), (1, .int x1), (3, .int x3)] → lc_H G z s.heap H locs → W p l e (lc_rm 4) s m args below meth c H locs 0 0 (MQ below (lc_Q G (some (.int r)) z') args s 0 0 (lc_A G)) (F0 m 247 ls []) := by
  intro x1 x3 z H locs ls hf hl hH
  rw [fQ_isChecked_247] at hf
  refine lv_iconst (v := 0) hx hb dQ_isChecked_247 (by decide) ?_
  exact bQ_isChecked_248 hx hb hml hr hlocks hown hts hE (fun hf hl hH => hk57 hf hl hH) hf (lv_sub hl [0, 1, 2] rfl) hH
set_option maxHeartbeats 4000000 in
set_option maxRecDepth 100000 in
theorem bQ_isChecked_212 {p : Program} {l : Launch} {e : Env} {s : State} {m : MethodId} {args : Array Value} {below : List Frame} {meth : Method} {c : Code} {G : lc_G} (hx : p.tables.exec = Jvm.exec) (hb : c.code = prog_10_method_30_code) (hml : c.maxLocals = 6) (hr : meth.sig.returnType = (some .boolean)) (hlocks : meth.locks = false) (hown : s.vm.findClass "LinearCellsModel" = some m.cls) (hts : ∀ w ∈ lc_ALL, w.before args s = true) (hE : lc_E G s) {k57 : Int32 → Int32 → Int32 → lc_S → Option ((Int32) × lc_S)} {r : Int32} {z' : lc_S} (hk57 : ∀ {x1 : Int32} {x2 : Int32} {x3 : Int32} {z : lc_S} {H : Heap} {locs : List Loc} {ls : Array Slot}, k57 x1 x2 x3 z = some (r, z') → lv_has ls 6 [(0, .ref (lc_ad G 80)), (1, .int x1), (2, .int x2), (3, .int x3)] → lc_H G z s.heap H locs → W p l e (lc_rm 4) s m args below meth c H locs 0 0 (MQ below (lc_Q G (some (.int r)) z') args s 0 0 (lc_A G)) (F0 m 57 ls [])) : ∀ {x1 : Int32} {x3 : Int32} {x4 : Int32} {x5 : Int32} {z : lc_S} {H : Heap} {locs : List Loc} {ls : Array Slot}, fQ_isChecked_212 k57 x1 x3 x4 x5 z = some (r, z') → lv_has ls 6 [(0, .ref (lc_ad G 80)), (1, .int x1), (3, .int x3), (4, .int x4), (5, .int x5)] → lc_H G z s.heap H locs → W p l e (lc_rm 4) s m args below meth c H locs 0 0 (MQ below (lc_Q G (some (.int r)) z') args s 0 0 (lc_A G)) (F0 m 212 ls []) := by
  intro x1 x3 x4 x5 z H locs ls hf hl hH
  rw [fQ_isChecked_212] at hf
  refine lv_aload_n hx hb dQ_isChecked_212 rfl (lv_at hl 0 rfl) ?_
  refine lv_aload_n hx hb dQ_isChecked_213 rfl (lv_at hl 0 rfl) ?_
  refine lc_getf (d := 19) (q := 99) hx hb hts hown hE hH flQ_65 lc_h80 rfl rfl dQ_isChecked_214 ?_
  refine lv_iload hx hb dQ_isChecked_217 (lv_at hl 4 rfl) ?_
  obtain ⟨hi219, hf⟩ := lc_chk_some hf
  refine lc_iald hx hb hE hH lc_h99 rfl hi219 dQ_isChecked_219 ?_
  obtain ⟨r220, z220, h220, hf⟩ := lc_bnd_some hf
  refine lc_calli (va_runV (As := [.int (lcI z 99 x5.toNatClampNeg)]) (rest := []) ⟨hx, hb, hml, hown, hts⟩ (cQ_isLinear l G h220) (lc_cwV hts kvQ_247 (lc_room (by decide) (by decide))) (lc_preV hE hH lc_h80 rfl _) rfl rfl hl.1 rfl (lv_room (Nat.le_of_ble_eq_true rfl)) dQ_isChecked_220 ⟨Nat.zero_le _, Nat.zero_le _⟩) hH (fun H locs hH => ?_)
  refine lv_if_eq (tgt := 243) hx hb dQ_isChecked_223 (by decide) (fun hc => ?_) (fun hc => ?_)
  · replace hf := lc_ite_pos hc hf
    exact bQ_isChecked_243 hx hb hml hr hlocks hown hts hE (fun hf hl hH => hk57 hf hl hH) hf (lv_sub hl [0, 1, 2] rfl) hH
  · replace hf := lc_ite_neg hc hf
    refine lv_aload_n hx hb dQ_isChecked_226 rfl (lv_at hl 0 rfl) ?_
    refine lv_iload_n hx hb dQ_isChecked_227 rfl (lv_at hl 1 rfl) ?_
    refine lv_iload_n hx hb dQ_isChecked_228 rfl (lv_at hl 2 rfl) ?_
    refine lv_iconst (v := 1) hx hb dQ_isChecked_229 (by decide) ?_
    refine lv_aload_n hx hb dQ_isChecked_230 rfl (lv_at hl 0 rfl) ?_
    refine lc_getf (d := 5) (q := 85) hx hb hts hown hE hH flQ_22 lc_h80 rfl rfl dQ_isChecked_231 ?_
    refine lv_iload hx hb dQ_isChecked_234 (lv_at hl 3 rfl) ?_
    obtain ⟨hi236, hf⟩ := lc_chk_some hf
    refine lc_iald hx hb hE hH lc_h85 rfl hi236 dQ_isChecked_236 ?_
    obtain ⟨r237, z237, h237, hf⟩ := lc_bnd_some hf
    refine lc_calli (va_runV (As := [.int x1, .int x3, .int 1, .int (lcI z220 85 x4.toNatClampNeg)]) (rest := []) ⟨hx, hb, hml, hown, hts⟩ (cQ_isUsedOnce l G h237) (lc_cwV hts kvQ_250 (lc_room (by decide) (by decide))) (lc_preV hE hH lc_h80 rfl _) rfl rfl hl.1 rfl (lv_room (Nat.le_of_ble_eq_true rfl)) dQ_isChecked_237 ⟨Nat.zero_le _, Nat.zero_le _⟩) hH (fun H locs hH => ?_)
    refine lv_if_eq (tgt := 247) hx hb dQ_isChecked_240 (by decide) (fun hc => ?_) (fun hc => ?_)
    · replace hf := lc_ite_pos hc hf
      exact bQ_isChecked_247 hx hb hml hr hlocks hown hts hE (fun hf hl hH => hk57 hf hl hH) hf (lv_sub hl [0, 1, 2] rfl) hH
    · replace hf := lc_ite_neg hc hf
      exact bQ_isChecked_243 hx hb hml hr hlocks hown hts hE (fun hf hl hH => hk57 hf hl hH) hf (lv_sub hl [0, 1, 2] rfl) hH
set_option maxHeartbeats 4000000 in
set_option maxRecDepth 100000 in
theorem bQ_isChecked_169 {p : Program} {l : Launch} {e : Env} {s : State} {m : MethodId} {args : Array Value} {below : List Frame} {meth : Method} {c : Code} {G : lc_G} (hx : p.tables.exec = Jvm.exec) (hb : c.code = prog_10_method_30_code) (hml : c.maxLocals = 6) (hr : meth.sig.returnType = (some .boolean)) (hlocks : meth.locks = false) (hown : s.vm.findClass "LinearCellsModel" = some m.cls) (hts : ∀ w ∈ lc_ALL, w.before args s = true) (hE : lc_E G s) {k57 : Int32 → Int32 → Int32 → lc_S → Option ((Int32) × lc_S)} {r : Int32} {z' : lc_S} (hk57 : ∀ {x1 : Int32} {x2 : Int32} {x3 : Int32} {z : lc_S} {H : Heap} {locs : List Loc} {ls : Array Slot}, k57 x1 x2 x3 z = some (r, z') → lv_has ls 6 [(0, .ref (lc_ad G 80)), (1, .int x1), (2, .int x2), (3, .int x3)] → lc_H G z s.heap H locs → W p l e (lc_rm 4) s m args below meth c H locs 0 0 (MQ below (lc_Q G (some (.int r)) z') args s 0 0 (lc_A G)) (F0 m 57 ls [])) : ∀ {x1 : Int32} {x2 : Int32} {x3 : Int32} {x4 : Int32} {x5 : Int32} {z : lc_S} {H : Heap} {locs : List Loc} {ls : Array Slot}, fQ_isChecked_169 k57 x1 x2 x3 x4 x5 z = some (r, z') → lv_has ls 6 [(0, .ref (lc_ad G 80)), (1, .int x1), (2, .int x2), (3, .int x3), (4, .int x4), (5, .int x5)] → lc_H G z s.heap H locs → W p l e (lc_rm 4) s m args below meth c H locs 0 0 (MQ below (lc_Q G (some (.int r)) z') args s 0 0 (lc_A G)) (F0 m 169 ls []) := by
  intro x1 x2 x3 x4 x5 z H locs ls hf hl hH
  rw [fQ_isChecked_169] at hf
  refine lv_aload_n hx hb dQ_isChecked_169 rfl (lv_at hl 0 rfl) ?_
  refine lc_getf (d := 2) (q := 82) hx hb hts hown hE hH flQ_13 lc_h80 rfl rfl dQ_isChecked_170 ?_
  refine lv_iload hx hb dQ_isChecked_173 (lv_at hl 4 rfl) ?_
  obtain ⟨hi175, hf⟩ := lc_chk_some hf
  refine lc_iald hx hb hE hH lc_h82 rfl hi175 dQ_isChecked_175 ?_
  refine lv_bipush (v := 47) hx hb dQ_isChecked_176 (by decide) ?_
  refine lv_icmp_ne (tgt := 249) hx hb dQ_isChecked_178 (by decide) (fun hc => ?_) (fun hc => ?_)
  · replace hf := lc_ite_neg hc hf
    exact bQ_isChecked_249 hx hb hml hr hlocks hown hts hE (fun hf hl hH => hk57 hf hl hH) hf (lv_sub hl [0, 1, 2, 3] rfl) hH
  · replace hf := lc_ite_pos hc hf
    refine lv_aload_n hx hb dQ_isChecked_181 rfl (lv_at hl 0 rfl) ?_
    refine lv_aload_n hx hb dQ_isChecked_182 rfl (lv_at hl 0 rfl) ?_
    refine lc_getf (d := 18) (q := 98) hx hb hts hown hE hH flQ_62 lc_h80 rfl rfl dQ_isChecked_183 ?_
    refine lv_iload hx hb dQ_isChecked_186 (lv_at hl 5 rfl) ?_
    obtain ⟨hi188, hf⟩ := lc_chk_some hf
    refine lc_iald hx hb hE hH lc_h98 rfl hi188 dQ_isChecked_188 ?_
    obtain ⟨r189, z189, h189, hf⟩ := lc_bnd_some hf
    refine lc_calli (va_runV (As := [.int (lcI z 98 x5.toNatClampNeg)]) (rest := []) ⟨hx, hb, hml, hown, hts⟩ (cQ_isLinear l G h189) (lc_cwV hts kvQ_247 (lc_room (by decide) (by decide))) (lc_preV hE hH lc_h80 rfl _) rfl rfl hl.1 rfl (lv_room (Nat.le_of_ble_eq_true rfl)) dQ_isChecked_189 ⟨Nat.zero_le _, Nat.zero_le _⟩) hH (fun H locs hH => ?_)
    refine lv_if_eq (tgt := 212) hx hb dQ_isChecked_192 (by decide) (fun hc => ?_) (fun hc => ?_)
    · replace hf := lc_ite_pos hc hf
      exact bQ_isChecked_212 hx hb hml hr hlocks hown hts hE (fun hf hl hH => hk57 hf hl hH) hf (lv_sub hl [0, 1, 3, 4, 5] rfl) hH
    · replace hf := lc_ite_neg hc hf
      refine lv_aload_n hx hb dQ_isChecked_195 rfl (lv_at hl 0 rfl) ?_
      refine lv_iload_n hx hb dQ_isChecked_196 rfl (lv_at hl 1 rfl) ?_
      refine lv_iload_n hx hb dQ_isChecked_197 rfl (lv_at hl 3 rfl) ?_
      refine lv_iconst (v := 0) hx hb dQ_isChecked_198 (by decide) ?_
      refine lv_aload_n hx hb dQ_isChecked_199 rfl (lv_at hl 0 rfl) ?_
      refine lc_getf (d := 5) (q := 85) hx hb hts hown hE hH flQ_22 lc_h80 rfl rfl dQ_isChecked_200 ?_
      refine lv_iload hx hb dQ_isChecked_203 (lv_at hl 4 rfl) ?_
      obtain ⟨hi205, hf⟩ := lc_chk_some hf
      refine lc_iald hx hb hE hH lc_h85 rfl hi205 dQ_isChecked_205 ?_
      obtain ⟨r206, z206, h206, hf⟩ := lc_bnd_some hf
      refine lc_calli (va_runV (As := [.int x1, .int x3, .int 0, .int (lcI z189 85 x4.toNatClampNeg)]) (rest := []) ⟨hx, hb, hml, hown, hts⟩ (cQ_isUsedOnce l G h206) (lc_cwV hts kvQ_250 (lc_room (by decide) (by decide))) (lc_preV hE hH lc_h80 rfl _) rfl rfl hl.1 rfl (lv_room (Nat.le_of_ble_eq_true rfl)) dQ_isChecked_206 ⟨Nat.zero_le _, Nat.zero_le _⟩) hH (fun H locs hH => ?_)
      refine lv_if_eq (tgt := 247) hx hb dQ_isChecked_209 (by decide) (fun hc => ?_) (fun hc => ?_)
      · replace hf := lc_ite_pos hc hf
        exact bQ_isChecked_247 hx hb hml hr hlocks hown hts hE (fun hf hl hH => hk57 hf hl hH) hf (lv_sub hl [0, 1, 3] rfl) hH
      · replace hf := lc_ite_neg hc hf
        exact bQ_isChecked_212 hx hb hml hr hlocks hown hts hE (fun hf hl hH => hk57 hf hl hH) hf (lv_sub hl [0, 1, 3, 4, 5] rfl) hH
set_option maxHeartbeats 4000000 in
set_option maxRecDepth 100000 in
theorem bQ_isChecked_168 {p : Program} {l : Launch} {e : Env} {s : State} {m : MethodId} {args : Array Value} {below : List Frame} {meth : Method} {c : Code} {G : lc_G} (hx : p.tables.exec = Jvm.exec) (hb : c.code = prog_10_method_30_code) (hml : c.maxLocals = 6) (hr : meth.sig.returnType = (some .boolean)) (hlocks : meth.locks = false) (hown : s.vm.findClass "LinearCellsModel" = some m.cls) (hts : ∀ w ∈ lc_ALL, w.before args s = true) (hE : lc_E G s) {k57 : Int32 → Int32 → Int32 → lc_S → Option ((Int32) × lc_S)} {r : Int32} {z' : lc_S} (hk57 : ∀ {x1 : Int32} {x2 : Int32} {x3 : Int32} {z : lc_S} {H : Heap} {locs : List Loc} {ls : Array Slot}, k57 x1 x2 x3 z = some (r, z') → lv_has ls 6 [(0, .ref (lc_ad G 80)), (1, .int x1), (2, .int x2), (3, .int x3)] → lc_H G z s.heap H locs → W p l e (lc_rm 4) s m args below meth c H locs 0 0 (MQ below (lc_Q G (some (.int r)) z') args s 0 0 (lc_A G)) (F0 m 57 ls [])) : ∀ {x1 : Int32} {x3 : Int32} {x4 : Int32} {x5 : Int32} {t0 : Int32} {z : lc_S} {H : Heap} {locs : List Loc} {ls : Array Slot}, fQ_isChecked_168 k57 x1 x3 x4 x5 t0 z = some (r, z') → lv_has ls 6 [(0, .ref (lc_ad G 80)), (1, .int x1), (3, .int x3), (4, .int x4), (5, .int x5)] → lc_H G z s.heap H locs → W p l e (lc_rm 4) s m args below meth c H locs 0 0 (MQ below (lc_Q G (some (.int r)) z') args s 0 0 (lc_A G)) (F0 m 168 ls [.int t0]) := by
  intro x1 x3 x4 x5 t0 z H locs ls hf hl hH
  rw [fQ_isChecked_168] at hf
  refine lv_istore_n hx hb dQ_isChecked_168 rfl hl (by decide) rfl (fun ls hl => ?_)
  replace hl : lv_has ls 6 [(2, .int t0), (0, .ref (lc_ad G 80)), (1, .int x1), (3, .int x3), (4, .int x4), (5, .int x5)] := hl
  exact bQ_isChecked_169 hx hb hml hr hlocks hown hts hE (fun hf hl hH => hk57 hf hl hH) hf (lv_sub hl [1, 2, 0, 3, 4, 5] rfl) hH
set_option maxHeartbeats 4000000 in
set_option maxRecDepth 100000 in
theorem bQ_isChecked_163 {p : Program} {l : Launch} {e : Env} {s : State} {m : MethodId} {args : Array Value} {below : List Frame} {meth : Method} {c : Code} {G : lc_G} (hx : p.tables.exec = Jvm.exec) (hb : c.code = prog_10_method_30_code) (hml : c.maxLocals = 6) (hr : meth.sig.returnType = (some .boolean)) (hlocks : meth.locks = false) (hown : s.vm.findClass "LinearCellsModel" = some m.cls) (hts : ∀ w ∈ lc_ALL, w.before args s = true) (hE : lc_E G s) {k57 : Int32 → Int32 → Int32 → lc_S → Option ((Int32) × lc_S)} {r : Int32} {z' : lc_S} (hk57 : ∀ {x1 : Int32} {x2 : Int32} {x3 : Int32} {z : lc_S} {H : Heap} {locs : List Loc} {ls : Array Slot}, k57 x1 x2 x3 z = some (r, z') → lv_has ls 6 [(0, .ref (lc_ad G 80)), (1, .int x1), (2, .int x2), (3, .int x3)] → lc_H G z s.heap H locs → W p l e (lc_rm 4) s m args below meth c H locs 0 0 (MQ below (lc_Q G (some (.int r)) z') args s 0 0 (lc_A G)) (F0 m 57 ls [])) : ∀ {x1 : Int32} {x3 : Int32} {x4 : Int32} {x5 : Int32} {z : lc_S} {H : Heap} {locs : List Loc} {ls : Array Slot}, fQ_isChecked_163 k57 x1 x3 x4 x5 z = some (r, z') → lv_has ls 6 [(0, .ref (lc_ad G 80)), (1, .int x1), (3, .int x3), (4, .int x4), (5, .int x5)] → lc_H G z s.heap H locs → W p l e (lc_rm 4) s m args below meth c H locs 0 0 (MQ below (lc_Q G (some (.int r)) z') args s 0 0 (lc_A G)) (F0 m 163 ls []) := by
  intro x1 x3 x4 x5 z H locs ls hf hl hH
  rw [fQ_isChecked_163] at hf
  refine lv_iconst (v := 1) hx hb dQ_isChecked_163 (by decide) ?_
  refine lv_goto (tgt := 168) hx hb dQ_isChecked_164 (by decide) ?_
  exact bQ_isChecked_168 hx hb hml hr hlocks hown hts hE (fun hf hl hH => hk57 hf hl hH) hf (lv_sub hl [0, 1, 2, 3, 4] rfl) hH
set_option maxHeartbeats 4000000 in
set_option maxRecDepth 100000 in
theorem bQ_isChecked_123 {p : Program} {l : Launch} {e : Env} {s : State} {m : MethodId} {args : Array Value} {below : List Frame} {meth : Method} {c : Code} {G : lc_G} (hx : p.tables.exec = Jvm.exec) (hb : c.code = prog_10_method_30_code) (hml : c.maxLocals = 6) (hr : meth.sig.returnType = (some .boolean)) (hlocks : meth.locks = false) (hown : s.vm.findClass "LinearCellsModel" = some m.cls) (hts : ∀ w ∈ lc_ALL, w.before args s = true) (hE : lc_E G s) {k57 : Int32 → Int32 → Int32 → lc_S → Option ((Int32) × lc_S)} {r : Int32} {z' : lc_S} (hk57 : ∀ {x1 : Int32} {x2 : Int32} {x3 : Int32} {z : lc_S} {H : Heap} {locs : List Loc} {ls : Array Slot}, k57 x1 x2 x3 z = some (r, z') → lv_has ls 6 [(0, .ref (lc_ad G 80)), (1, .int x1), (2, .int x2), (3, .int x3)] → lc_H G z s.heap H locs → W p l e (lc_rm 4) s m args below meth c H locs 0 0 (MQ below (lc_Q G (some (.int r)) z') args s 0 0 (lc_A G)) (F0 m 57 ls [])) : ∀ {x1 : Int32} {x2 : Int32} {x3 : Int32} {x4 : Int32} {t0 : Int32} {z : lc_S} {H : Heap} {locs : List Loc} {ls : Array Slot}, fQ_isChecked_123 k57 x1 x2 x3 x4 t0 z = some (r, z') → lv_has ls 6 [(0, .ref (lc_ad G 80)), (1, .int x1), (2, .int x2), (3, .int x3), (4, .int x4)] → lc_H G z s.heap H locs → W p l e (lc_rm 4) s m args below meth c H locs 0 0 (MQ below (lc_Q G (some (.int r)) z') args s 0 0 (lc_A G)) (F0 m 123 ls [.int t0]) := by
  intro x1 x2 x3 x4 t0 z H locs ls hf hl hH
  rw [fQ_isChecked_123] at hf
  refine lv_istore hx hb dQ_isChecked_123 hl (by decide) rfl (fun ls hl => ?_)
  replace hl : lv_has ls 6 [(5, .int t0), (0, .ref (lc_ad G 80)), (1, .int x1), (2, .int x2), (3, .int x3), (4, .int x4)] := hl
  refine lv_aload_n hx hb dQ_isChecked_125 rfl (lv_at hl 1 rfl) ?_
  refine lc_getf (d := 2) (q := 82) hx hb hts hown hE hH flQ_13 lc_h80 rfl rfl dQ_isChecked_126 ?_
  refine lv_iload hx hb dQ_isChecked_129 (lv_at hl 5 rfl) ?_
  obtain ⟨hi131, hf⟩ := lc_chk_some hf
  refine lc_iald hx hb hE hH lc_h82 rfl hi131 dQ_isChecked_131 ?_
  refine lv_bipush (v := 58) hx hb dQ_isChecked_132 (by decide) ?_
  refine lv_icmp_ne (tgt := 169) hx hb dQ_isChecked_134 (by decide) (fun hc => ?_) (fun hc => ?_)
  · replace hf := lc_ite_neg hc hf
    exact bQ_isChecked_169 hx hb hml hr hlocks hown hts hE (fun hf hl hH => hk57 hf hl hH) hf (lv_sub hl [1, 2, 3, 4, 5, 0] rfl) hH
  · replace hf := lc_ite_pos hc hf
    refine lv_aload_n hx hb dQ_isChecked_137 rfl (lv_at hl 1 rfl) ?_
    refine lv_iload hx hb dQ_isChecked_138 (lv_at hl 0 rfl) ?_
    obtain ⟨r140, z140, h140, hf⟩ := lc_bnd_some hf
    refine lc_calli (va_runV (As := [.int t0]) (rest := []) ⟨hx, hb, hml, hown, hts⟩ (cQ_isLinear l G h140) (lc_cwV hts kvQ_247 (lc_room (by decide) (by decide))) (lc_preV hE hH lc_h80 rfl _) rfl rfl hl.1 rfl (lv_room (Nat.le_of_ble_eq_true rfl)) dQ_isChecked_140 ⟨Nat.zero_le _, Nat.zero_le _⟩) hH (fun H locs hH => ?_)
    refine lv_if_eq (tgt := 163) hx hb dQ_isChecked_143 (by decide) (fun hc => ?_) (fun hc => ?_)
    · replace hf := lc_ite_pos hc hf
      exact bQ_isChecked_163 hx hb hml hr hlocks hown hts hE (fun hf hl hH => hk57 hf hl hH) hf (lv_sub hl [1, 2, 4, 5, 0] rfl) hH
    · replace hf := lc_ite_neg hc hf
      refine lv_aload_n hx hb dQ_isChecked_146 rfl (lv_at hl 1 rfl) ?_
      refine lv_iload_n hx hb dQ_isChecked_147 rfl (lv_at hl 2 rfl) ?_
      refine lv_iload_n hx hb dQ_isChecked_148 rfl (lv_at hl 4 rfl) ?_
      refine lv_iconst (v := 0) hx hb dQ_isChecked_149 (by decide) ?_
      refine lv_aload_n hx hb dQ_isChecked_150 rfl (lv_at hl 1 rfl) ?_
      refine lc_getf (d := 5) (q := 85) hx hb hts hown hE hH flQ_22 lc_h80 rfl rfl dQ_isChecked_151 ?_
      refine lv_iload hx hb dQ_isChecked_154 (lv_at hl 5 rfl) ?_
      obtain ⟨hi156, hf⟩ := lc_chk_some hf
      refine lc_iald hx hb hE hH lc_h85 rfl hi156 dQ_isChecked_156 ?_
      obtain ⟨r157, z157, h157, hf⟩ := lc_bnd_some hf
      refine lc_calli (va_runV (As := [.int x1, .int x3, .int 0, .int (lcI z140 85 x4.toNatClampNeg)]) (rest := []) ⟨hx, hb, hml, hown, hts⟩ (cQ_isUsedOnce l G h157) (lc_cwV hts kvQ_250 (lc_room (by decide) (by decide))) (lc_preV hE hH lc_h80 rfl _) rfl rfl hl.1 rfl (lv_room (Nat.le_of_ble_eq_true rfl)) dQ_isChecked_157 ⟨Nat.zero_le _, Nat.zero_le _⟩) hH (fun H locs hH => ?_)
      refine lv_if_eq (tgt := 167) hx hb dQ_isChecked_160 (by decide) (fun hc => ?_) (fun hc => ?_)
      · replace hf := lc_ite_pos hc hf
        refine lv_iconst (v := 0) hx hb dQ_isChecked_167 (by decide) ?_
        exact bQ_isChecked_168 hx hb hml hr hlocks hown hts hE (fun hf hl hH => hk57 hf hl hH) hf (lv_sub hl [1, 2, 4, 5, 0] rfl) hH
      · replace hf := lc_ite_neg hc hf
        exact bQ_isChecked_163 hx hb hml hr hlocks hown hts hE (fun hf hl hH => hk57 hf hl hH) hf (lv_sub hl [1, 2, 4, 5, 0] rfl) hH
set_option maxHeartbeats 4000000 in
set_option maxRecDepth 100000 in
theorem bQ_isChecked_107 {p : Program} {l : Launch} {e : Env} {s : State} {m : MethodId} {args : Array Value} {below : List Frame} {meth : Method} {c : Code} {G : lc_G} (hx : p.tables.exec = Jvm.exec) (hb : c.code = prog_10_method_30_code) (hml : c.maxLocals = 6) (hr : meth.sig.returnType = (some .boolean)) (hlocks : meth.locks = false) (hown : s.vm.findClass "LinearCellsModel" = some m.cls) (hts : ∀ w ∈ lc_ALL, w.before args s = true) (hE : lc_E G s) {k57 : Int32 → Int32 → Int32 → lc_S → Option ((Int32) × lc_S)} {r : Int32} {z' : lc_S} (hk57 : ∀ {x1 : Int32} {x2 : Int32} {x3 : Int32} {z : lc_S} {H : Heap} {locs : List Loc} {ls : Array Slot}, k57 x1 x2 x3 z = some (r, z') → lv_has ls 6 [(0, .ref (lc_ad G 80)), (1, .int x1), (2, .int x2), (3, .int x3)] → lc_H G z s.heap H locs → W p l e (lc_rm 4) s m args below meth c H locs 0 0 (MQ below (lc_Q G (some (.int r)) z') args s 0 0 (lc_A G)) (F0 m 57 ls [])) : ∀ {x1 : Int32} {x2 : Int32} {x3 : Int32} {x4 : Int32} {z : lc_S} {H : Heap} {locs : List Loc} {ls : Array Slot}, fQ_isChecked_107 k57 x1 x2 x3 x4 z = some (r, z') → lv_has ls 6 [(0, .ref (lc_ad G 80)), (1, .int x1), (2, .int x2), (3, .int x3), (4, .int x4)] → lc_H G z s.heap H locs → W p l e (lc_rm 4) s m args below meth c H locs 0 0 (MQ below (lc_Q G (some (.int r)) z') args s 0 0 (lc_A G)) (F0 m 107 ls []) := by
  intro x1 x2 x3 x4 z H locs ls hf hl hH
  rw [fQ_isChecked_107] at hf
  refine lv_aload_n hx hb dQ_isChecked_107 rfl (lv_at hl 0 rfl) ?_
  refine lc_getf (d := 20) (q := 100) hx hb hts hown hE hH flQ_68 lc_h80 rfl rfl dQ_isChecked_108 ?_
  refine lv_aload_n hx hb dQ_isChecked_111 rfl (lv_at hl 0 rfl) ?_
  refine lc_getf (d := 4) (q := 84) hx hb hts hown hE hH flQ_19 lc_h80 rfl rfl dQ_isChecked_112 ?_
  refine lv_iload hx hb dQ_isChecked_115 (lv_at hl 4 rfl) ?_
  obtain ⟨hi117, hf⟩ := lc_chk_some hf
  refine lc_iald hx hb hE hH lc_h84 rfl hi117 dQ_isChecked_117 ?_
  obtain ⟨hi118, hf⟩ := lc_chk_some hf
  refine lc_iald hx hb hE hH lc_h100 rfl hi118 dQ_isChecked_118 ?_
  refine lv_goto (tgt := 123) hx hb dQ_isChecked_119 (by decide) ?_
  exact bQ_isChecked_123 hx hb hml hr hlocks hown hts hE (fun hf hl hH => hk57 hf hl hH) hf (lv_sub hl [0, 1, 2, 3, 4] rfl) hH
set_option maxHeartbeats 4000000 in
set_option maxRecDepth 100000 in
theorem bQ_isChecked_255 {p : Program} {l : Launch} {e : Env} {s : State} {m : MethodId} {args : Array Value} {below : List Frame} {meth : Method} {c : Code} {G : lc_G} (hx : p.tables.exec = Jvm.exec) (hb : c.code = prog_10_method_30_code) (hml : c.maxLocals = 6) (hr : meth.sig.returnType = (some .boolean)) (hlocks : meth.locks = false) (hown : s.vm.findClass "LinearCellsModel" = some m.cls) (hts : ∀ w ∈ lc_ALL, w.before args s = true) (hE : lc_E G s) {r : Int32} {z' : lc_S} : ∀ {x2 : Int32} {z : lc_S} {H : Heap} {locs : List Loc} {ls : Array Slot}, fQ_isChecked_255 x2 z = some (r, z') → lv_has ls 6 [(2, .int x2)] → lc_H G z s.heap H locs → W p l e (lc_rm 4) s m args below meth c H locs 0 0 (MQ below (lc_Q G (some (.int r)) z') args s 0 0 (lc_A G)) (F0 m 255 ls []) := by
  intro x2 z H locs ls hf hl hH
  rw [fQ_isChecked_255] at hf
  refine lv_iload_n hx hb dQ_isChecked_255 rfl (lv_at hl 0 rfl) ?_
  obtain ⟨hz256, hf⟩ := lc_chk_some hf
  exact lc_zret hx hb hr hlocks (lc_zn hz256) hH hf dQ_isChecked_256
set_option maxHeartbeats 4000000 in
set_option maxRecDepth 100000 in
theorem bQ_isChecked_57 {p : Program} {l : Launch} {e : Env} {s : State} {m : MethodId} {args : Array Value} {below : List Frame} {meth : Method} {c : Code} {G : lc_G} (hx : p.tables.exec = Jvm.exec) (hb : c.code = prog_10_method_30_code) (hml : c.maxLocals = 6) (hr : meth.sig.returnType = (some .boolean)) (hlocks : meth.locks = false) (hown : s.vm.findClass "LinearCellsModel" = some m.cls) (hts : ∀ w ∈ lc_ALL, w.before args s = true) (hE : lc_E G s) {r : Int32} {z' : lc_S} : ∀ (n : Nat) {x1 : Int32} {x2 : Int32} {x3 : Int32} {z : lc_S} {H : Heap} {locs : List Loc} {ls : Array Slot}, fQ_isChecked_57 n x1 x2 x3 z = some (r, z') → lv_has ls 6 [(0, .ref (lc_ad G 80)), (1, .int x1), (2, .int x2), (3, .int x3)] → lc_H G z s.heap H locs → W p l e (lc_rm 4) s m args below meth c H locs 0 0 (MQ below (lc_Q G (some (.int r)) z') args s 0 0 (lc_A G)) (F0 m 57 ls []) := by
  intro n
  induction n with
  | zero =>
    intro x1 x2 x3 z H locs ls hf hl hH
    exact absurd (show (none : Option ((Int32) × lc_S)) = some (r, z') from hf) (fun h => by cases h)
  | succ n ih =>
    intro x1 x2 x3 z H locs ls hf hl hH
    rw [fQ_isChecked_57] at hf
    refine lv_iload_n hx hb dQ_isChecked_57 rfl (lv_at hl 3 rfl) ?_
    refine lv_aload_n hx hb dQ_isChecked_58 rfl (lv_at hl 0 rfl) ?_
    refine lc_getf (d := 9) (q := 89) hx hb hts hown hE hH flQ_35 lc_h80 rfl rfl dQ_isChecked_59 ?_
    refine lv_iload_n hx hb dQ_isChecked_62 rfl (lv_at hl 1 rfl) ?_
    refine lv_iconst (v := 1) hx hb dQ_isChecked_63 (by decide) ?_
    refine lv_iadd hx hb dQ_isChecked_64 ?_
    obtain ⟨hi65, hf⟩ := lc_chk_some hf
    refine lc_iald hx hb hE hH lc_h89 rfl hi65 dQ_isChecked_65 ?_
    refine lv_icmp_ge (tgt := 255) hx hb dQ_isChecked_66 (by decide) (fun hc => ?_) (fun hc => ?_)
    · replace hf := lc_ite_pos hc hf
      exact bQ_isChecked_255 hx hb hml hr hlocks hown hts hE hf (lv_sub hl [2] rfl) hH
    · replace hf := lc_ite_neg hc hf
      refine lv_iload_n hx hb dQ_isChecked_69 rfl (lv_at hl 2 rfl) ?_
      refine lv_if_eq (tgt := 255) hx hb dQ_isChecked_70 (by decide) (fun hc => ?_) (fun hc => ?_)
      · replace hf := lc_ite_pos hc hf
        exact bQ_isChecked_255 hx hb hml hr hlocks hown hts hE hf (lv_sub hl [2] rfl) hH
      · replace hf := lc_ite_neg hc hf
        refine lv_bipush (v := 120) hx hb dQ_isChecked_73 (by decide) ?_
        refine lv_iload_n hx hb dQ_isChecked_75 rfl (lv_at hl 1 rfl) ?_
        refine lv_iconst (v := 1) hx hb dQ_isChecked_76 (by decide) ?_
        refine lv_iadd hx hb dQ_isChecked_77 ?_
        refine lv_imul hx hb dQ_isChecked_78 ?_
        refine lv_iload_n hx hb dQ_isChecked_79 rfl (lv_at hl 3 rfl) ?_
        refine lv_iadd hx hb dQ_isChecked_80 ?_
        refine lv_topi (fun x81 e81 => ?_)
        replace hf := lc_let_of e81 hf
        refine lv_istore hx hb dQ_isChecked_81 hl (by decide) rfl (fun ls hl => ?_)
        replace hl : lv_has ls 6 [(4, .int x81), (0, .ref (lc_ad G 80)), (1, .int x1), (2, .int x2), (3, .int x3)] := hl
        refine lv_aload_n hx hb dQ_isChecked_83 rfl (lv_at hl 1 rfl) ?_
        refine lc_getf (d := 2) (q := 82) hx hb hts hown hE hH flQ_13 lc_h80 rfl rfl dQ_isChecked_84 ?_
        refine lv_iload hx hb dQ_isChecked_87 (lv_at hl 0 rfl) ?_
        obtain ⟨hi89, hf⟩ := lc_chk_some hf
        refine lc_iald hx hb hE hH lc_h82 rfl hi89 dQ_isChecked_89 ?_
        refine lv_bipush (v := 58) hx hb dQ_isChecked_90 (by decide) ?_
        refine lv_icmp_eq (tgt := 107) hx hb dQ_isChecked_92 (by decide) (fun hc => ?_) (fun hc => ?_)
        · replace hf := lc_ite_pos hc hf
          exact bQ_isChecked_107 hx hb hml hr hlocks hown hts hE (fun hf hl hH => ih hf hl hH) hf (lv_sub hl [1, 2, 3, 4, 0] rfl) hH
        · replace hf := lc_ite_neg hc hf
          refine lv_aload_n hx hb dQ_isChecked_95 rfl (lv_at hl 1 rfl) ?_
          refine lc_getf (d := 2) (q := 82) hx hb hts hown hE hH flQ_13 lc_h80 rfl rfl dQ_isChecked_96 ?_
          refine lv_iload hx hb dQ_isChecked_99 (lv_at hl 0 rfl) ?_
          obtain ⟨hi101, hf⟩ := lc_chk_some hf
          refine lc_iald hx hb hE hH lc_h82 rfl hi101 dQ_isChecked_101 ?_
          refine lv_bipush (v := 47) hx hb dQ_isChecked_102 (by decide) ?_
          refine lv_icmp_ne (tgt := 122) hx hb dQ_isChecked_104 (by decide) (fun hc => ?_) (fun hc => ?_)
          · replace hf := lc_ite_neg hc hf
            refine lv_iconst (v := 0) hx hb dQ_isChecked_122 (by decide) ?_
            exact bQ_isChecked_123 hx hb hml hr hlocks hown hts hE (fun hf hl hH => ih hf hl hH) hf (lv_sub hl [1, 2, 3, 4, 0] rfl) hH
          · replace hf := lc_ite_pos hc hf
            exact bQ_isChecked_107 hx hb hml hr hlocks hown hts hE (fun hf hl hH => ih hf hl hH) hf (lv_sub hl [1, 2, 3, 4, 0] rfl) hH
set_option maxHeartbeats 4000000 in
set_option maxRecDepth 100000 in
theorem bQ_isChecked_54 {p : Program} {l : Launch} {e : Env} {s : State} {m : MethodId} {args : Array Value} {below : List Frame} {meth : Method} {c : Code} {G : lc_G} (hx : p.tables.exec = Jvm.exec) (hb : c.code = prog_10_method_30_code) (hml : c.maxLocals = 6) (hr : meth.sig.returnType = (some .boolean)) (hlocks : meth.locks = false) (hown : s.vm.findClass "LinearCellsModel" = some m.cls) (hts : ∀ w ∈ lc_ALL, w.before args s = true) (hE : lc_E G s) {r : Int32} {z' : lc_S} : ∀ {x1 : Int32} {t0 : Int32} {z : lc_S} {H : Heap} {locs : List Loc} {ls : Array Slot}, fQ_isChecked_54 x1 t0 z = some (r, z') → lv_has ls 6 [(0, .ref (lc_ad G 80)), (1, .int x1)] → lc_H G z s.heap H locs → W p l e (lc_rm 4) s m args below meth c H locs 0 0 (MQ below (lc_Q G (some (.int r)) z') args s 0 0 (lc_A G)) (F0 m 54 ls [.int t0]) := by
  intro x1 t0 z H locs ls hf hl hH
  rw [fQ_isChecked_54] at hf
  refine lv_istore_n hx hb dQ_isChecked_54 rfl hl (by decide) rfl (fun ls hl => ?_)
  replace hl : lv_has ls 6 [(2, .int t0), (0, .ref (lc_ad G 80)), (1, .int x1)] := hl
  refine lv_iconst (v := 0) hx hb dQ_isChecked_55 (by decide) ?_
  refine lv_istore_n hx hb dQ_isChecked_56 rfl hl (by decide) rfl (fun ls hl => ?_)
  replace hl : lv_has ls 6 [(3, .int 0), (2, .int t0), (0, .ref (lc_ad G 80)), (1, .int x1)] := hl
  exact bQ_isChecked_57 hx hb hml hr hlocks hown hts hE _ hf (lv_sub hl [2, 3, 1, 0] rfl) hH
set_option maxHeartbeats 4000000 in
set_option maxRecDepth 100000 in
theorem bQ_isChecked_49 {p : Program} {l : Launch} {e : Env} {s : State} {m : MethodId} {args : Array Value} {below : List Frame} {meth : Method} {c : Code} {G : lc_G} (hx : p.tables.exec = Jvm.exec) (hb : c.code = prog_10_method_30_code) (hml : c.maxLocals = 6) (hr : meth.sig.returnType = (some .boolean)) (hlocks : meth.locks = false) (hown : s.vm.findClass "LinearCellsModel" = some m.cls) (hts : ∀ w ∈ lc_ALL, w.before args s = true) (hE : lc_E G s) {r : Int32} {z' : lc_S} : ∀ {x1 : Int32} {z : lc_S} {H : Heap} {locs : List Loc} {ls : Array Slot}, fQ_isChecked_49 x1 z = some (r, z') → lv_has ls 6 [(0, .ref (lc_ad G 80)), (1, .int x1)] → lc_H G z s.heap H locs → W p l e (lc_rm 4) s m args below meth c H locs 0 0 (MQ below (lc_Q G (some (.int r)) z') args s 0 0 (lc_A G)) (F0 m 49 ls []) := by
  intro x1 z H locs ls hf hl hH
  rw [fQ_isChecked_49] at hf
  refine lv_iconst (v := 1) hx hb dQ_isChecked_49 (by decide) ?_
  refine lv_goto (tgt := 54) hx hb dQ_isChecked_50 (by decide) ?_
  exact bQ_isChecked_54 hx hb hml hr hlocks hown hts hE hf (lv_sub hl [0, 1] rfl) hH
set_option maxHeartbeats 4000000 in
set_option maxRecDepth 100000 in
theorem cQ_isChecked (l : Launch) (G : lc_G) {a1 : Int32} {r : Int32} {z z' : lc_S} (hf : fQ_isChecked a1 z = some (r, z')) : lc_M l G yQ_isChecked wQ_isChecked 4 [.ref (lc_ad G 80), .int a1] z (some (.int r)) z' := by
  refine lc_M_of (cc := prog_10_method_30_code) (maxL := 6) (ret := (some .boolean)) (own := "LinearCellsModel") (by decide) rfl (fun w h => List.mem_cons_of_mem _ h) (Nat.le_of_ble_eq_true rfl) rfl ?_
  intro p e s m below meth c hx hb hml hr hlocks hown hts hE ls hl hH
  replace hl : lv_has ls 6 [(0, .ref (lc_ad G 80)), (1, .int a1)] := hl
  rw [fQ_isChecked] at hf
  refine lv_aload_n hx hb dQ_isChecked_0 rfl (lv_at hl 0 rfl) ?_
  refine lv_iload_n hx hb dQ_isChecked_1 rfl (lv_at hl 1 rfl) ?_
  obtain ⟨r2, z2, h2, hf⟩ := lc_bnd_some hf
  refine lc_calli (va_runV (As := [.int a1]) (rest := []) ⟨hx, hb, hml, hown, hts⟩ (cQ_find l G h2) (lc_cwV hts kvQ_244 (lc_room (by decide) (by decide))) (lc_preV hE hH lc_h80 rfl _) rfl rfl hl.1 rfl (lv_room (Nat.le_of_ble_eq_true rfl)) dQ_isChecked_2 ⟨Nat.zero_le _, Nat.zero_le _⟩) hH (fun H locs hH => ?_)
  refine lv_if_eq (tgt := 23) hx hb dQ_isChecked_5 (by decide) (fun hc => ?_) (fun hc => ?_)
  · replace hf := lc_ite_pos hc hf
    exact bQ_isChecked_23 hx hb hml hr hlocks hown hts hE hf (lv_sub hl [] rfl) hH
  · replace hf := lc_ite_neg hc hf
    refine lv_aload_n hx hb dQ_isChecked_8 rfl (lv_at hl 0 rfl) ?_
    refine lc_getf (d := 20) (q := 100) hx hb hts hown hE hH flQ_68 lc_h80 rfl rfl dQ_isChecked_9 ?_
    refine lv_iconst (v := 0) hx hb dQ_isChecked_12 (by decide) ?_
    refine lc_iald hx hb hE hH lc_h100 rfl (by decide) dQ_isChecked_13 ?_
    refine lv_aload_n hx hb dQ_isChecked_14 rfl (lv_at hl 0 rfl) ?_
    refine lc_getf (d := 22) (q := 102) hx hb hts hown hE hH flQ_74 lc_h80 rfl rfl dQ_isChecked_15 ?_
    refine lv_iload_n hx hb dQ_isChecked_18 rfl (lv_at hl 1 rfl) ?_
    obtain ⟨hi19, hf⟩ := lc_chk_some hf
    refine lc_iald hx hb hE hH lc_h102 rfl hi19 dQ_isChecked_19 ?_
    refine lv_icmp_eq (tgt := 25) hx hb dQ_isChecked_20 (by decide) (fun hc => ?_) (fun hc => ?_)
    · replace hf := lc_ite_pos hc hf
      refine lv_aload_n hx hb dQ_isChecked_25 rfl (lv_at hl 0 rfl) ?_
      refine lv_aload_n hx hb dQ_isChecked_26 rfl (lv_at hl 0 rfl) ?_
      refine lc_getf (d := 21) (q := 101) hx hb hts hown hE hH flQ_71 lc_h80 rfl rfl dQ_isChecked_27 ?_
      refine lv_iload_n hx hb dQ_isChecked_30 rfl (lv_at hl 1 rfl) ?_
      obtain ⟨hi31, hf⟩ := lc_chk_some hf
      refine lc_iald hx hb hE hH lc_h101 rfl hi31 dQ_isChecked_31 ?_
      obtain ⟨r32, z32, h32, hf⟩ := lc_bnd_some hf
      refine lc_calli (va_runV (As := [.int (lcI z2 101 a1.toNatClampNeg)]) (rest := []) ⟨hx, hb, hml, hown, hts⟩ (cQ_isLinear l G h32) (lc_cwV hts kvQ_247 (lc_room (by decide) (by decide))) (lc_preV hE hH lc_h80 rfl _) rfl rfl hl.1 rfl (lv_room (Nat.le_of_ble_eq_true rfl)) dQ_isChecked_32 ⟨Nat.zero_le _, Nat.zero_le _⟩) hH (fun H locs hH => ?_)
      refine lv_if_eq (tgt := 49) hx hb dQ_isChecked_35 (by decide) (fun hc => ?_) (fun hc => ?_)
      · replace hf := lc_ite_pos hc hf
        exact bQ_isChecked_49 hx hb hml hr hlocks hown hts hE hf (lv_sub hl [0, 1] rfl) hH
      · replace hf := lc_ite_neg hc hf
        refine lv_aload_n hx hb dQ_isChecked_38 rfl (lv_at hl 0 rfl) ?_
        refine lv_iload_n hx hb dQ_isChecked_39 rfl (lv_at hl 1 rfl) ?_
        refine lv_iconst (v := (-1)) hx hb dQ_isChecked_40 (by decide) ?_
        refine lv_iconst (v := 0) hx hb dQ_isChecked_41 (by decide) ?_
        refine lv_iconst (v := 0) hx hb dQ_isChecked_42 (by decide) ?_
        obtain ⟨r43, z43, h43, hf⟩ := lc_bnd_some hf
        refine lc_calli (va_runV (As := [.int a1, .int (-1), .int 0, .int 0]) (rest := []) ⟨hx, hb, hml, hown, hts⟩ (cQ_isUsedOnce l G h43) (lc_cwV hts kvQ_250 (lc_room (by decide) (by decide))) (lc_preV hE hH lc_h80 rfl _) rfl rfl hl.1 rfl (lv_room (Nat.le_of_ble_eq_true rfl)) dQ_isChecked_43 ⟨Nat.zero_le _, Nat.zero_le _⟩) hH (fun H locs hH => ?_)
        refine lv_if_eq (tgt := 53) hx hb dQ_isChecked_46 (by decide) (fun hc => ?_) (fun hc => ?_)
        · replace hf := lc_ite_pos hc hf
          refine lv_iconst (v := 0) hx hb dQ_isChecked_53 (by decide) ?_
          exact bQ_isChecked_54 hx hb hml hr hlocks hown hts hE hf (lv_sub hl [0, 1] rfl) hH
        · replace hf := lc_ite_neg hc hf
          exact bQ_isChecked_49 hx hb hml hr hlocks hown hts hE hf (lv_sub hl [0, 1] rfl) hH
    · replace hf := lc_ite_neg hc hf
      exact bQ_isChecked_23 hx hb hml hr hlocks hown hts hE hf (lv_sub hl [] rfl) hH
