theorem dQ_begin_0 : decode prog_10_method_18_code 0 = .ok (.aload_n 0, 1) := by decide +kernel
theorem dQ_begin_1 : decode prog_10_method_18_code 1 = .ok (.invokevirtual 151, 3) := by decide +kernel
theorem dQ_begin_4 : decode prog_10_method_18_code 4 = .ok (.istore_n 1, 1) := by decide +kernel
theorem dQ_begin_5 : decode prog_10_method_18_code 5 = .ok (.aload_n 0, 1) := by decide +kernel
theorem dQ_begin_6 : decode prog_10_method_18_code 6 = .ok (.getfield 185, 3) := by decide +kernel
theorem dQ_begin_9 : decode prog_10_method_18_code 9 = .ok (.bipush 16, 2) := by decide +kernel
theorem dQ_begin_11 : decode prog_10_method_18_code 11 = .ok (.if_icmp .le 10, 3) := by decide +kernel
theorem dQ_begin_14 : decode prog_10_method_18_code 14 = .ok (.aload_n 0, 1) := by decide +kernel
theorem dQ_begin_15 : decode prog_10_method_18_code 15 = .ok (.iconst 1, 1) := by decide +kernel
theorem dQ_begin_16 : decode prog_10_method_18_code 16 = .ok (.putfield 155, 3) := by decide +kernel
theorem dQ_begin_19 : decode prog_10_method_18_code 19 = .ok (.iconst (-1), 1) := by decide +kernel
theorem dQ_begin_20 : decode prog_10_method_18_code 20 = .ok (.ireturn, 1) := by decide +kernel
theorem dQ_begin_21 : decode prog_10_method_18_code 21 = .ok (.iload_n 1, 1) := by decide +kernel
theorem dQ_begin_22 : decode prog_10_method_18_code 22 = .ok (.invokestatic 166, 3) := by decide +kernel
theorem dQ_begin_25 : decode prog_10_method_18_code 25 = .ok (.ifCond .eq 22, 3) := by decide +kernel
theorem dQ_begin_28 : decode prog_10_method_18_code 28 = .ok (.aload_n 0, 1) := by decide +kernel
theorem dQ_begin_29 : decode prog_10_method_18_code 29 = .ok (.bipush 48, 2) := by decide +kernel
theorem dQ_begin_31 : decode prog_10_method_18_code 31 = .ok (.invokevirtual 206, 3) := by decide +kernel
theorem dQ_begin_34 : decode prog_10_method_18_code 34 = .ok (.istore_n 2, 1) := by decide +kernel
theorem dQ_begin_35 : decode prog_10_method_18_code 35 = .ok (.aload_n 0, 1) := by decide +kernel
theorem dQ_begin_36 : decode prog_10_method_18_code 36 = .ok (.getfield 16, 3) := by decide +kernel
theorem dQ_begin_39 : decode prog_10_method_18_code 39 = .ok (.iload_n 2, 1) := by decide +kernel
theorem dQ_begin_40 : decode prog_10_method_18_code 40 = .ok (.aload_n 0, 1) := by decide +kernel
theorem dQ_begin_41 : decode prog_10_method_18_code 41 = .ok (.invokevirtual 209, 3) := by decide +kernel
theorem dQ_begin_44 : decode prog_10_method_18_code 44 = .ok (.iastore, 1) := by decide +kernel
theorem dQ_begin_45 : decode prog_10_method_18_code 45 = .ok (.iload_n 2, 1) := by decide +kernel
theorem dQ_begin_46 : decode prog_10_method_18_code 46 = .ok (.ireturn, 1) := by decide +kernel
theorem dQ_begin_47 : decode prog_10_method_18_code 47 = .ok (.aload_n 0, 1) := by decide +kernel
theorem dQ_begin_48 : decode prog_10_method_18_code 48 = .ok (.dup, 1) := by decide +kernel
theorem dQ_begin_49 : decode prog_10_method_18_code 49 = .ok (.getfield 148, 3) := by decide +kernel
theorem dQ_begin_52 : decode prog_10_method_18_code 52 = .ok (.iconst 1, 1) := by decide +kernel
theorem dQ_begin_53 : decode prog_10_method_18_code 53 = .ok (.iadd, 1) := by decide +kernel
theorem dQ_begin_54 : decode prog_10_method_18_code 54 = .ok (.putfield 148, 3) := by decide +kernel
theorem dQ_begin_57 : decode prog_10_method_18_code 57 = .ok (.iload_n 1, 1) := by decide +kernel
theorem dQ_begin_58 : decode prog_10_method_18_code 58 = .ok (.invokestatic 162, 3) := by decide +kernel
theorem dQ_begin_61 : decode prog_10_method_18_code 61 = .ok (.ifCond .eq 9, 3) := by decide +kernel
theorem dQ_begin_64 : decode prog_10_method_18_code 64 = .ok (.aload_n 0, 1) := by decide +kernel
theorem dQ_begin_65 : decode prog_10_method_18_code 65 = .ok (.iload_n 1, 1) := by decide +kernel
theorem dQ_begin_66 : decode prog_10_method_18_code 66 = .ok (.invokevirtual 211, 3) := by decide +kernel
theorem dQ_begin_69 : decode prog_10_method_18_code 69 = .ok (.ireturn, 1) := by decide +kernel
theorem dQ_begin_70 : decode prog_10_method_18_code 70 = .ok (.aload_n 0, 1) := by decide +kernel
theorem dQ_begin_71 : decode prog_10_method_18_code 71 = .ok (.iload_n 1, 1) := by decide +kernel
theorem dQ_begin_72 : decode prog_10_method_18_code 72 = .ok (.bipush 40, 2) := by decide +kernel
theorem dQ_begin_74 : decode prog_10_method_18_code 74 = .ok (.if_icmp .eq 7, 3) := by decide +kernel
theorem dQ_begin_77 : decode prog_10_method_18_code 77 = .ok (.iconst 1, 1) := by decide +kernel
theorem dQ_begin_78 : decode prog_10_method_18_code 78 = .ok (.goto 4, 3) := by decide +kernel
theorem dQ_begin_81 : decode prog_10_method_18_code 81 = .ok (.iconst 0, 1) := by decide +kernel
theorem dQ_begin_82 : decode prog_10_method_18_code 82 = .ok (.putfield 155, 3) := by decide +kernel
theorem dQ_begin_85 : decode prog_10_method_18_code 85 = .ok (.aload_n 0, 1) := by decide +kernel
theorem dQ_begin_86 : decode prog_10_method_18_code 86 = .ok (.invokevirtual 159, 3) := by decide +kernel
theorem dQ_begin_89 : decode prog_10_method_18_code 89 = .ok (.istore_n 2, 1) := by decide +kernel
theorem dQ_begin_90 : decode prog_10_method_18_code 90 = .ok (.aload_n 0, 1) := by decide +kernel
theorem dQ_begin_91 : decode prog_10_method_18_code 91 = .ok (.aload_n 0, 1) := by decide +kernel
theorem dQ_begin_92 : decode prog_10_method_18_code 92 = .ok (.getfield 155, 3) := by decide +kernel
theorem dQ_begin_95 : decode prog_10_method_18_code 95 = .ok (.ifCond .ne 10, 3) := by decide +kernel
theorem dQ_begin_98 : decode prog_10_method_18_code 98 = .ok (.iload_n 2, 1) := by decide +kernel
theorem dQ_begin_99 : decode prog_10_method_18_code 99 = .ok (.invokestatic 214, 3) := by decide +kernel
theorem dQ_begin_102 : decode prog_10_method_18_code 102 = .ok (.ifCond .ne 7, 3) := by decide +kernel
theorem dQ_begin_105 : decode prog_10_method_18_code 105 = .ok (.iconst 1, 1) := by decide +kernel
theorem dQ_begin_106 : decode prog_10_method_18_code 106 = .ok (.goto 4, 3) := by decide +kernel
theorem dQ_begin_109 : decode prog_10_method_18_code 109 = .ok (.iconst 0, 1) := by decide +kernel
theorem dQ_begin_110 : decode prog_10_method_18_code 110 = .ok (.putfield 155, 3) := by decide +kernel
theorem dQ_begin_113 : decode prog_10_method_18_code 113 = .ok (.aload_n 0, 1) := by decide +kernel
theorem dQ_begin_114 : decode prog_10_method_18_code 114 = .ok (.getfield 155, 3) := by decide +kernel
theorem dQ_begin_117 : decode prog_10_method_18_code 117 = .ok (.ifCond .eq 5, 3) := by decide +kernel
theorem dQ_begin_120 : decode prog_10_method_18_code 120 = .ok (.iconst (-1), 1) := by decide +kernel
theorem dQ_begin_121 : decode prog_10_method_18_code 121 = .ok (.ireturn, 1) := by decide +kernel
theorem dQ_begin_122 : decode prog_10_method_18_code 122 = .ok (.aload_n 0, 1) := by decide +kernel
theorem dQ_begin_123 : decode prog_10_method_18_code 123 = .ok (.iload_n 2, 1) := by decide +kernel
theorem dQ_begin_124 : decode prog_10_method_18_code 124 = .ok (.invokevirtual 206, 3) := by decide +kernel
theorem dQ_begin_127 : decode prog_10_method_18_code 127 = .ok (.istore_n 3, 1) := by decide +kernel
theorem dQ_begin_128 : decode prog_10_method_18_code 128 = .ok (.aload_n 0, 1) := by decide +kernel
theorem dQ_begin_129 : decode prog_10_method_18_code 129 = .ok (.getfield 44, 3) := by decide +kernel
theorem dQ_begin_132 : decode prog_10_method_18_code 132 = .ok (.aload_n 0, 1) := by decide +kernel
theorem dQ_begin_133 : decode prog_10_method_18_code 133 = .ok (.getfield 185, 3) := by decide +kernel
theorem dQ_begin_136 : decode prog_10_method_18_code 136 = .ok (.iload_n 3, 1) := by decide +kernel
theorem dQ_begin_137 : decode prog_10_method_18_code 137 = .ok (.iastore, 1) := by decide +kernel
theorem dQ_begin_138 : decode prog_10_method_18_code 138 = .ok (.aload_n 0, 1) := by decide +kernel
theorem dQ_begin_139 : decode prog_10_method_18_code 139 = .ok (.getfield 47, 3) := by decide +kernel
theorem dQ_begin_142 : decode prog_10_method_18_code 142 = .ok (.aload_n 0, 1) := by decide +kernel
theorem dQ_begin_143 : decode prog_10_method_18_code 143 = .ok (.getfield 185, 3) := by decide +kernel
theorem dQ_begin_146 : decode prog_10_method_18_code 146 = .ok (.iconst 0, 1) := by decide +kernel
theorem dQ_begin_147 : decode prog_10_method_18_code 147 = .ok (.iastore, 1) := by decide +kernel
theorem dQ_begin_148 : decode prog_10_method_18_code 148 = .ok (.aload_n 0, 1) := by decide +kernel
theorem dQ_begin_149 : decode prog_10_method_18_code 149 = .ok (.dup, 1) := by decide +kernel
theorem dQ_begin_150 : decode prog_10_method_18_code 150 = .ok (.getfield 185, 3) := by decide +kernel
theorem dQ_begin_153 : decode prog_10_method_18_code 153 = .ok (.iconst 1, 1) := by decide +kernel
theorem dQ_begin_154 : decode prog_10_method_18_code 154 = .ok (.iadd, 1) := by decide +kernel
theorem dQ_begin_155 : decode prog_10_method_18_code 155 = .ok (.putfield 185, 3) := by decide +kernel
theorem dQ_begin_158 : decode prog_10_method_18_code 158 = .ok (.iload_n 2, 1) := by decide +kernel
theorem dQ_begin_159 : decode prog_10_method_18_code 159 = .ok (.bipush 58, 2) := by decide +kernel
theorem dQ_begin_161 : decode prog_10_method_18_code 161 = .ok (.if_icmp .eq 9, 3) := by decide +kernel
theorem dQ_begin_164 : decode prog_10_method_18_code 164 = .ok (.iload_n 2, 1) := by decide +kernel
theorem dQ_begin_165 : decode prog_10_method_18_code 165 = .ok (.bipush 47, 2) := by decide +kernel
theorem dQ_begin_167 : decode prog_10_method_18_code 167 = .ok (.if_icmp .ne 13, 3) := by decide +kernel
theorem dQ_begin_170 : decode prog_10_method_18_code 170 = .ok (.aload_n 0, 1) := by decide +kernel
theorem dQ_begin_171 : decode prog_10_method_18_code 171 = .ok (.getfield 16, 3) := by decide +kernel
theorem dQ_begin_174 : decode prog_10_method_18_code 174 = .ok (.iload_n 3, 1) := by decide +kernel
theorem dQ_begin_175 : decode prog_10_method_18_code 175 = .ok (.aload_n 0, 1) := by decide +kernel
theorem dQ_begin_176 : decode prog_10_method_18_code 176 = .ok (.invokevirtual 188, 3) := by decide +kernel
theorem dQ_begin_179 : decode prog_10_method_18_code 179 = .ok (.iastore, 1) := by decide +kernel
theorem dQ_begin_180 : decode prog_10_method_18_code 180 = .ok (.iload_n 2, 1) := by decide +kernel
theorem dQ_begin_181 : decode prog_10_method_18_code 181 = .ok (.bipush 47, 2) := by decide +kernel
theorem dQ_begin_183 : decode prog_10_method_18_code 183 = .ok (.if_icmp .ne 51, 3) := by decide +kernel
theorem dQ_begin_186 : decode prog_10_method_18_code 186 = .ok (.aload_n 0, 1) := by decide +kernel
theorem dQ_begin_187 : decode prog_10_method_18_code 187 = .ok (.invokevirtual 188, 3) := by decide +kernel
theorem dQ_begin_190 : decode prog_10_method_18_code 190 = .ok (.istore 4, 2) := by decide +kernel
theorem dQ_begin_192 : decode prog_10_method_18_code 192 = .ok (.aload_n 0, 1) := by decide +kernel
theorem dQ_begin_193 : decode prog_10_method_18_code 193 = .ok (.aload_n 0, 1) := by decide +kernel
theorem dQ_begin_194 : decode prog_10_method_18_code 194 = .ok (.getfield 155, 3) := by decide +kernel
theorem dQ_begin_197 : decode prog_10_method_18_code 197 = .ok (.ifCond .ne 14, 3) := by decide +kernel
theorem dQ_begin_200 : decode prog_10_method_18_code 200 = .ok (.iload 4, 2) := by decide +kernel
theorem dQ_begin_202 : decode prog_10_method_18_code 202 = .ok (.aload_n 0, 1) := by decide +kernel
theorem dQ_begin_203 : decode prog_10_method_18_code 203 = .ok (.getfield 16, 3) := by decide +kernel
theorem dQ_begin_206 : decode prog_10_method_18_code 206 = .ok (.iload_n 3, 1) := by decide +kernel
theorem dQ_begin_207 : decode prog_10_method_18_code 207 = .ok (.iaload, 1) := by decide +kernel
theorem dQ_begin_208 : decode prog_10_method_18_code 208 = .ok (.if_icmp .ne 7, 3) := by decide +kernel
theorem dQ_begin_211 : decode prog_10_method_18_code 211 = .ok (.iconst 1, 1) := by decide +kernel
theorem dQ_begin_212 : decode prog_10_method_18_code 212 = .ok (.goto 4, 3) := by decide +kernel
theorem dQ_begin_215 : decode prog_10_method_18_code 215 = .ok (.iconst 0, 1) := by decide +kernel
theorem dQ_begin_216 : decode prog_10_method_18_code 216 = .ok (.putfield 155, 3) := by decide +kernel
theorem dQ_begin_219 : decode prog_10_method_18_code 219 = .ok (.aload_n 0, 1) := by decide +kernel
theorem dQ_begin_220 : decode prog_10_method_18_code 220 = .ok (.getfield 16, 3) := by decide +kernel
theorem dQ_begin_223 : decode prog_10_method_18_code 223 = .ok (.iload_n 3, 1) := by decide +kernel
theorem dQ_begin_224 : decode prog_10_method_18_code 224 = .ok (.dup2, 1) := by decide +kernel
theorem dQ_begin_225 : decode prog_10_method_18_code 225 = .ok (.iaload, 1) := by decide +kernel
theorem dQ_begin_226 : decode prog_10_method_18_code 226 = .ok (.sipush 256, 3) := by decide +kernel
theorem dQ_begin_229 : decode prog_10_method_18_code 229 = .ok (.iload 4, 2) := by decide +kernel
theorem dQ_begin_231 : decode prog_10_method_18_code 231 = .ok (.imul, 1) := by decide +kernel
theorem dQ_begin_232 : decode prog_10_method_18_code 232 = .ok (.iadd, 1) := by decide +kernel
theorem dQ_begin_233 : decode prog_10_method_18_code 233 = .ok (.iastore, 1) := by decide +kernel
theorem dQ_begin_234 : decode prog_10_method_18_code 234 = .ok (.iload_n 2, 1) := by decide +kernel
theorem dQ_begin_235 : decode prog_10_method_18_code 235 = .ok (.bipush 64, 2) := by decide +kernel
theorem dQ_begin_237 : decode prog_10_method_18_code 237 = .ok (.if_icmp .ne 39, 3) := by decide +kernel
theorem dQ_begin_240 : decode prog_10_method_18_code 240 = .ok (.aload_n 0, 1) := by decide +kernel
theorem dQ_begin_241 : decode prog_10_method_18_code 241 = .ok (.getfield 16, 3) := by decide +kernel
theorem dQ_begin_244 : decode prog_10_method_18_code 244 = .ok (.iload_n 3, 1) := by decide +kernel
theorem dQ_begin_245 : decode prog_10_method_18_code 245 = .ok (.aload_n 0, 1) := by decide +kernel
theorem dQ_begin_246 : decode prog_10_method_18_code 246 = .ok (.invokevirtual 209, 3) := by decide +kernel
theorem dQ_begin_249 : decode prog_10_method_18_code 249 = .ok (.iastore, 1) := by decide +kernel
theorem dQ_begin_250 : decode prog_10_method_18_code 250 = .ok (.aload_n 0, 1) := by decide +kernel
theorem dQ_begin_251 : decode prog_10_method_18_code 251 = .ok (.aload_n 0, 1) := by decide +kernel
theorem dQ_begin_252 : decode prog_10_method_18_code 252 = .ok (.getfield 155, 3) := by decide +kernel
theorem dQ_begin_255 : decode prog_10_method_18_code 255 = .ok (.ifCond .ne 13, 3) := by decide +kernel
theorem dQ_begin_258 : decode prog_10_method_18_code 258 = .ok (.aload_n 0, 1) := by decide +kernel
theorem dQ_begin_259 : decode prog_10_method_18_code 259 = .ok (.getfield 16, 3) := by decide +kernel
theorem dQ_begin_262 : decode prog_10_method_18_code 262 = .ok (.iload_n 3, 1) := by decide +kernel
theorem dQ_begin_263 : decode prog_10_method_18_code 263 = .ok (.iaload, 1) := by decide +kernel
theorem dQ_begin_264 : decode prog_10_method_18_code 264 = .ok (.iconst 3, 1) := by decide +kernel
theorem dQ_begin_265 : decode prog_10_method_18_code 265 = .ok (.if_icmp .le 7, 3) := by decide +kernel
theorem dQ_begin_268 : decode prog_10_method_18_code 268 = .ok (.iconst 1, 1) := by decide +kernel
theorem dQ_begin_269 : decode prog_10_method_18_code 269 = .ok (.goto 4, 3) := by decide +kernel
theorem dQ_begin_272 : decode prog_10_method_18_code 272 = .ok (.iconst 0, 1) := by decide +kernel
theorem dQ_begin_273 : decode prog_10_method_18_code 273 = .ok (.putfield 155, 3) := by decide +kernel
theorem dQ_begin_276 : decode prog_10_method_18_code 276 = .ok (.iconst (-1), 1) := by decide +kernel
theorem dQ_begin_277 : decode prog_10_method_18_code 277 = .ok (.ireturn, 1) := by decide +kernel
def fQ_begin_276 (z : lc_S) : Option ((Int32) × lc_S) :=
  some ((-1), z)
def fQ_begin_273 (t1 : Int32) (z : lc_S) : Option ((Int32) × lc_S) :=
  lc_chk (lc_zok t1) (fQ_begin_276 (lcUI z 80 14 t1))
def fQ_begin_268 (z : lc_S) : Option ((Int32) × lc_S) :=
  fQ_begin_273 1 z
def fQ_begin_234 (x2 : Int32) (x3 : Int32) (z : lc_S) : Option ((Int32) × lc_S) :=
  if x2 = 64 then (lc_bnd (fQ_number z) (fun r246 z246 => lc_chk (lc_in x3 600) (if (lcI (lcUI z246 83 x3.toNatClampNeg r246) 80 14) = 0 then (lc_chk (lc_in x3 600) (if (lcI (lcUI z246 83 x3.toNatClampNeg r246) 83 x3.toNatClampNeg) ≤ 3 then (fQ_begin_273 0 (lcUI z246 83 x3.toNatClampNeg r246)) else (fQ_begin_268 (lcUI z246 83 x3.toNatClampNeg r246)))) else (fQ_begin_268 (lcUI z246 83 x3.toNatClampNeg r246))))) else (fQ_begin_276 z)
def fQ_begin_216 (x2 : Int32) (x3 : Int32) (x4 : Int32) (t1 : Int32) (z : lc_S) : Option ((Int32) × lc_S) :=
  lc_chk (lc_zok t1) (lc_chk (lc_in x3 600) (lc_chk (lc_in x3 600) (fQ_begin_234 x2 x3 (lcUI (lcUI z 80 14 t1) 83 x3.toNatClampNeg ((lcI (lcUI z 80 14 t1) 83 x3.toNatClampNeg) + (256 * x4))))))
def fQ_begin_211 (x2 : Int32) (x3 : Int32) (x4 : Int32) (z : lc_S) : Option ((Int32) × lc_S) :=
  fQ_begin_216 x2 x3 x4 1 z
def fQ_begin_180 (x2 : Int32) (x3 : Int32) (z : lc_S) : Option ((Int32) × lc_S) :=
  if x2 = 47 then (lc_bnd (fQ_letter z) (fun r187 z187 => if (lcI z187 80 14) = 0 then (lc_chk (lc_in x3 600) (if r187 = (lcI z187 83 x3.toNatClampNeg) then (fQ_begin_211 x2 x3 r187 z187) else (fQ_begin_216 x2 x3 r187 0 z187))) else (fQ_begin_211 x2 x3 r187 z187))) else (fQ_begin_234 x2 x3 z)
def fQ_begin_170 (x2 : Int32) (x3 : Int32) (z : lc_S) : Option ((Int32) × lc_S) :=
  lc_bnd (fQ_letter z) (fun r176 z176 => lc_chk (lc_in x3 600) (fQ_begin_180 x2 x3 (lcUI z176 83 x3.toNatClampNeg r176)))
def fQ_begin_110 (x2 : Int32) (t1 : Int32) (z : lc_S) : Option ((Int32) × lc_S) :=
  lc_chk (lc_zok t1) (if (lcI (lcUI z 80 14 t1) 80 14) = 0 then (lc_bnd (fQ_part x2 (lcUI z 80 14 t1)) (fun r124 z124 => lc_chk (lc_in (lcI z124 80 16) 24) (lc_chk (lc_in (lcI (lcUI z124 92 (lcI z124 80 16).toNatClampNeg r124) 80 16) 24) (if x2 = 58 then (fQ_begin_170 x2 r124 (lcUI (lcUI (lcUI z124 92 (lcI z124 80 16).toNatClampNeg r124) 93 (lcI (lcUI z124 92 (lcI z124 80 16).toNatClampNeg r124) 80 16).toNatClampNeg 0) 80 16 ((lcI (lcUI (lcUI z124 92 (lcI z124 80 16).toNatClampNeg r124) 93 (lcI (lcUI z124 92 (lcI z124 80 16).toNatClampNeg r124) 80 16).toNatClampNeg 0) 80 16) + 1))) else (if x2 = 47 then (fQ_begin_170 x2 r124 (lcUI (lcUI (lcUI z124 92 (lcI z124 80 16).toNatClampNeg r124) 93 (lcI (lcUI z124 92 (lcI z124 80 16).toNatClampNeg r124) 80 16).toNatClampNeg 0) 80 16 ((lcI (lcUI (lcUI z124 92 (lcI z124 80 16).toNatClampNeg r124) 93 (lcI (lcUI z124 92 (lcI z124 80 16).toNatClampNeg r124) 80 16).toNatClampNeg 0) 80 16) + 1))) else (fQ_begin_180 x2 r124 (lcUI (lcUI (lcUI z124 92 (lcI z124 80 16).toNatClampNeg r124) 93 (lcI (lcUI z124 92 (lcI z124 80 16).toNatClampNeg r124) 80 16).toNatClampNeg 0) 80 16 ((lcI (lcUI (lcUI z124 92 (lcI z124 80 16).toNatClampNeg r124) 93 (lcI (lcUI z124 92 (lcI z124 80 16).toNatClampNeg r124) 80 16).toNatClampNeg 0) 80 16) + 1)))))))) else (some ((-1), lcUI z 80 14 t1)))
def fQ_begin_105 (x2 : Int32) (z : lc_S) : Option ((Int32) × lc_S) :=
  fQ_begin_110 x2 1 z
def fQ_begin_82 (t1 : Int32) (z : lc_S) : Option ((Int32) × lc_S) :=
  lc_chk (lc_zok t1) (lc_bnd (fQ_next (lcUI z 80 14 t1)) (fun r86 z86 => if (lcI z86 80 14) = 0 then (lc_bnd (fQ_partsOf r86 z86) (fun r99 z99 => if r99 = 0 then (fQ_begin_105 r86 z99) else (fQ_begin_110 r86 0 z99))) else (fQ_begin_105 r86 z86)))
def fQ_begin (z : lc_S) : Option ((Int32) × lc_S) :=
  lc_bnd (fQ_peek z) (fun r1 z1 => if (lcI z1 80 16) ≤ 16 then (lc_bnd (fQ_isDigit r1 z1) (fun r22 z22 => if r22 = 0 then (lc_bnd (fQ_isLetter r1 (lcUI z22 80 13 ((lcI z22 80 13) + 1))) (fun r58 z58 => if r58 = 0 then (if r1 = 40 then (fQ_begin_82 0 z58) else (fQ_begin_82 1 z58)) else (lc_bnd (fQ_variable r1 z58) (fun r66 z66 => some (r66, z66))))) else (lc_bnd (fQ_part 48 z22) (fun r31 z31 => lc_bnd (fQ_number z31) (fun r41 z41 => lc_chk (lc_in r31 600) (some (r31, lcUI z41 83 r31.toNatClampNeg r41))))))) else (some ((-1), lcUI z1 80 14 1)))
set_option maxHeartbeats 4000000 in
set_option maxRecDepth 100000 in
theorem bQ_begin_276 {p : Program} {l : Launch} {e : Env} {s : State} {m : MethodId} {args : Array Value} {below : List Frame} {meth : Method} {c : Code} {G : lc_G} (hx : p.tables.exec = Jvm.exec) (hb : c.code = prog_10_method_18_code) (hml : c.maxLocals = 5) (hr : meth.sig.returnType = (some .int)) (hlocks : meth.locks = false) (hown : s.vm.findClass "LinearCellsModel" = some m.cls) (hts : ∀ w ∈ lc_ALL, w.before args s = true) (hE : lc_E G s) {r : Int32} {z' : lc_S} : ∀ {z : lc_S} {H : Heap} {locs : List Loc} {ls : Array Slot}, fQ_begin_276 z = some (r, z') → lv_has ls 5 [] → lc_H G z s.heap H locs → W p l e (lc_rm 3) s m args below meth c H locs 0 0 (MQ below (lc_Q G (some (.int r)) z') args s 0 0 (lc_A G)) (F0 m 276 ls []) := by
  intro z H locs ls hf hl hH
  rw [fQ_begin_276] at hf
  refine lv_iconst (v := (-1)) hx hb dQ_begin_276 (by decide) ?_
  exact lc_iret hx hb hr hlocks hH hf dQ_begin_277
set_option maxHeartbeats 4000000 in
set_option maxRecDepth 100000 in
theorem bQ_begin_273 {p : Program} {l : Launch} {e : Env} {s : State} {m : MethodId} {args : Array Value} {below : List Frame} {meth : Method} {c : Code} {G : lc_G} (hx : p.tables.exec = Jvm.exec) (hb : c.code = prog_10_method_18_code) (hml : c.maxLocals = 5) (hr : meth.sig.returnType = (some .int)) (hlocks : meth.locks = false) (hown : s.vm.findClass "LinearCellsModel" = some m.cls) (hts : ∀ w ∈ lc_ALL, w.before args s = true) (hE : lc_E G s) {r : Int32} {z' : lc_S} : ∀ {t1 : Int32} {z : lc_S} {H : Heap} {locs : List Loc} {ls : Array Slot}, fQ_begin_273 t1 z = some (r, z') → lv_has ls 5 [] → lc_H G z s.heap H locs → W p l e (lc_rm 3) s m args below meth c H locs 0 0 (MQ below (lc_Q G (some (.int r)) z') args s 0 0 (lc_A G)) (F0 m 273 ls [.int t1, .ref (lc_ad G 80)]) := by
  intro t1 z H locs ls hf hl hH
  rw [fQ_begin_273] at hf
  obtain ⟨hz273, hf⟩ := lc_chk_some hf
  refine lc_puti hx hb hts hown hE hH fpQ_155 lc_h80 rfl (lc_zn hz273) (lc_zf hz273) dQ_begin_273 (fun H locs hH => ?_)
  exact bQ_begin_276 hx hb hml hr hlocks hown hts hE hf (lv_sub hl [] rfl) hH
set_option maxHeartbeats 4000000 in
set_option maxRecDepth 100000 in
theorem bQ_begin_268 {p : Program} {l : Launch} {e : Env} {s : State} {m : MethodId} {args : Array Value} {below : List Frame} {meth : Method} {c : Code} {G : lc_G} (hx : p.tables.exec = Jvm.exec) (hb : c.code = prog_10_method_18_code) (hml : c.maxLocals = 5) (hr : meth.sig.returnType = (some .int)) (hlocks : meth.locks = false) (hown : s.vm.findClass "LinearCellsModel" = some m.cls) (hts : ∀ w ∈ lc_ALL, w.before args s = true) (hE : lc_E G s) {r : Int32} {z' : lc_S} : ∀ {z : lc_S} {H : Heap} {locs : List Loc} {ls : Array Slot}, fQ_begin_268 z = some (r, z') → lv_has ls 5 [] → lc_H G z s.heap H locs → W p l e (lc_rm 3) s m args below meth c H locs 0 0 (MQ below (lc_Q G (some (.int r)) z') args s 0 0 (lc_A G)) (F0 m 268 ls [.ref (lc_ad G 80)]) := by
  intro z H locs ls hf hl hH
  rw [fQ_begin_268] at hf
  refine lv_iconst (v := 1) hx hb dQ_begin_268 (by decide) ?_
  refine lv_goto (tgt := 273) hx hb dQ_begin_269 (by decide) ?_
  exact bQ_begin_273 hx hb hml hr hlocks hown hts hE hf (lv_sub hl [] rfl) hH
set_option maxHeartbeats 4000000 in
set_option maxRecDepth 100000 in
theorem bQ_begin_234 {p : Program} {l : Launch} {e : Env} {s : State} {m : MethodId} {args : Array Value} {below : List Frame} {meth : Method} {c : Code} {G : lc_G} (hx : p.tables.exec = Jvm.exec) (hb : c.code = prog_10_method_18_code) (hml : c.maxLocals = 5) (hr : meth.sig.returnType = (some .int)) (hlocks : meth.locks = false) (hown : s.vm.findClass "LinearCellsModel" = some m.cls) (hts : ∀ w ∈ lc_ALL, w.before args s = true) (hE : lc_E G s) {r : Int32} {z' : lc_S} : ∀ {x2 : Int32} {x3 : Int32} {z : lc_S} {H : Heap} {locs : List Loc} {ls : Array Slot}, fQ_begin_234 x2 x3 z = some (r, z') → lv_has ls 5 [(0, .ref (lc_ad G 80)), (2, .int x2), (3, .int x3)] → lc_H G z s.heap H locs → W p l e (lc_rm 3) s m args below meth c H locs 0 0 (MQ below (lc_Q G (some (.int r)) z') args s 0 0 (lc_A G)) (F0 m 234 ls []) := by
  intro x2 x3 z H locs ls hf hl hH
  rw [fQ_begin_234] at hf
  refine lv_iload_n hx hb dQ_begin_234 rfl (lv_at hl 1 rfl) ?_
  refine lv_bipush (v := 64) hx hb dQ_begin_235 (by decide) ?_
  refine lv_icmp_ne (tgt := 276) hx hb dQ_begin_237 (by decide) (fun hc => ?_) (fun hc => ?_)
  · replace hf := lc_ite_neg hc hf
    exact bQ_begin_276 hx hb hml hr hlocks hown hts hE hf (lv_sub hl [] rfl) hH
  · replace hf := lc_ite_pos hc hf
    refine lv_aload_n hx hb dQ_begin_240 rfl (lv_at hl 0 rfl) ?_
    refine lc_getf (d := 3) (q := 83) hx hb hts hown hE hH flQ_16 lc_h80 rfl rfl dQ_begin_241 ?_
    refine lv_iload_n hx hb dQ_begin_244 rfl (lv_at hl 2 rfl) ?_
    refine lv_aload_n hx hb dQ_begin_245 rfl (lv_at hl 0 rfl) ?_
    obtain ⟨r246, z246, h246, hf⟩ := lc_bnd_some hf
    refine lc_calli (va_runV (As := []) (rest := [.int x3, .ref (lc_ad G 83)]) ⟨hx, hb, hml, hown, hts⟩ (cQ_number l G h246) (lc_cwV hts kvQ_209 (lc_room (by decide) (by decide))) (lc_preV hE hH lc_h80 rfl _) rfl rfl hl.1 rfl (lv_room (Nat.le_of_ble_eq_true rfl)) dQ_begin_246 ⟨Nat.zero_le _, Nat.zero_le _⟩) hH (fun H locs hH => ?_)
    obtain ⟨hi249, hf⟩ := lc_chk_some hf
    refine lc_iast hx hb hE hH lc_h83 rfl hi249 dQ_begin_249 (fun H locs hH => ?_)
    refine lv_aload_n hx hb dQ_begin_250 rfl (lv_at hl 0 rfl) ?_
    refine lv_aload_n hx hb dQ_begin_251 rfl (lv_at hl 0 rfl) ?_
    refine lc_geti hx hb hts hown hE hH flQ_155 lc_h80 rfl dQ_begin_252 ?_
    refine lv_if_ne (tgt := 268) hx hb dQ_begin_255 (by decide) (fun hc => ?_) (fun hc => ?_)
    · replace hf := lc_ite_neg hc hf
      exact bQ_begin_268 hx hb hml hr hlocks hown hts hE hf (lv_sub hl [] rfl) hH
    · replace hf := lc_ite_pos hc hf
      refine lv_aload_n hx hb dQ_begin_258 rfl (lv_at hl 0 rfl) ?_
      refine lc_getf (d := 3) (q := 83) hx hb hts hown hE hH flQ_16 lc_h80 rfl rfl dQ_begin_259 ?_
      refine lv_iload_n hx hb dQ_begin_262 rfl (lv_at hl 2 rfl) ?_
      obtain ⟨hi263, hf⟩ := lc_chk_some hf
      refine lc_iald hx hb hE hH lc_h83 rfl hi263 dQ_begin_263 ?_
      refine lv_iconst (v := 3) hx hb dQ_begin_264 (by decide) ?_
      refine lv_icmp_le (tgt := 272) hx hb dQ_begin_265 (by decide) (fun hc => ?_) (fun hc => ?_)
      · replace hf := lc_ite_pos hc hf
        refine lv_iconst (v := 0) hx hb dQ_begin_272 (by decide) ?_
        exact bQ_begin_273 hx hb hml hr hlocks hown hts hE hf (lv_sub hl [] rfl) hH
      · replace hf := lc_ite_neg hc hf
        exact bQ_begin_268 hx hb hml hr hlocks hown hts hE hf (lv_sub hl [] rfl) hH
set_option maxHeartbeats 4000000 in
set_option maxRecDepth 100000 in
theorem bQ_begin_216 {p : Program} {l : Launch} {e : Env} {s : State} {m : MethodId} {args : Array Value} {below : List Frame} {meth : Method} {c : Code} {G : lc_G} (hx : p.tables.exec = Jvm.exec) (hb : c.code = prog_10_method_18_code) (hml : c.maxLocals = 5) (hr : meth.sig.returnType = (some .int)) (hlocks : meth.locks = false) (hown : s.vm.findClass "LinearCellsModel" = some m.cls) (hts : ∀ w ∈ lc_ALL, w.before args s = true) (hE : lc_E G s) {r : Int32} {z' : lc_S} : ∀ {x2 : Int32} {x3 : Int32} {x4 : Int32} {t1 : Int32} {z : lc_S} {H : Heap} {locs : List Loc} {ls : Array Slot}, fQ_begin_216 x2 x3 x4 t1 z = some (r, z') → lv_has ls 5 [(0, .ref (lc_ad G 80)), (2, .int x2), (3, .int x3), (4, .int x4)] → lc_H G z s.heap H locs → W p l e (lc_rm 3) s m args below meth c H locs 0 0 (MQ below (lc_Q G (some (.int r)) z') args s 0 0 (lc_A G)) (F0 m 216 ls [.int t1, .ref (lc_ad G 80)]) := by
  intro x2 x3 x4 t1 z H locs ls hf hl hH
  rw [fQ_begin_216] at hf
  obtain ⟨hz216, hf⟩ := lc_chk_some hf
  refine lc_puti hx hb hts hown hE hH fpQ_155 lc_h80 rfl (lc_zn hz216) (lc_zf hz216) dQ_begin_216 (fun H locs hH => ?_)
  refine lv_aload_n hx hb dQ_begin_219 rfl (lv_at hl 0 rfl) ?_
  refine lc_getf (d := 3) (q := 83) hx hb hts hown hE hH flQ_16 lc_h80 rfl rfl dQ_begin_220 ?_
  refine lv_iload_n hx hb dQ_begin_223 rfl (lv_at hl 2 rfl) ?_
  refine lv_dup2_11 hx hb dQ_begin_224 rfl rfl ?_
  obtain ⟨hi225, hf⟩ := lc_chk_some hf
  refine lc_iald hx hb hE hH lc_h83 rfl hi225 dQ_begin_225 ?_
  refine lv_sipush (v := 256) hx hb dQ_begin_226 (by decide) ?_
  refine lv_iload hx hb dQ_begin_229 (lv_at hl 3 rfl) ?_
  refine lv_imul hx hb dQ_begin_231 ?_
  refine lv_iadd hx hb dQ_begin_232 ?_
  obtain ⟨hi233, hf⟩ := lc_chk_some hf
  refine lc_iast hx hb hE hH lc_h83 rfl hi233 dQ_begin_233 (fun H locs hH => ?_)
  exact bQ_begin_234 hx hb hml hr hlocks hown hts hE hf (lv_sub hl [0, 1, 2] rfl) hH
set_option maxHeartbeats 4000000 in
set_option maxRecDepth 100000 in
theorem bQ_begin_211 {p : Program} {l : Launch} {e : Env} {s : State} {m : MethodId} {args : Array Value} {below : List Frame} {meth : Method} {c : Code} {G : lc_G} (hx : p.tables.exec = Jvm.exec) (hb : c.code = prog_10_method_18_code) (hml : c.maxLocals = 5) (hr : meth.sig.returnType = (some .int)) (hlocks : meth.locks = false) (hown : s.vm.findClass "LinearCellsModel" = some m.cls) (hts : ∀ w ∈ lc_ALL, w.before args s = true) (hE : lc_E G s) {r : Int32} {z' : lc_S} : ∀ {x2 : Int32} {x3 : Int32} {x4 : Int32} {z : lc_S} {H : Heap} {locs : List Loc} {ls : Array Slot}, fQ_begin_211 x2 x3 x4 z = some (r, z') → lv_has ls 5 [(0, .ref (lc_ad G 80)), (2, .int x2), (3, .int x3), (4, .int x4)] → lc_H G z s.heap H locs → W p l e (lc_rm 3) s m args below meth c H locs 0 0 (MQ below (lc_Q G (some (.int r)) z') args s 0 0 (lc_A G)) (F0 m 211 ls [.ref (lc_ad G 80)]) := by
  intro x2 x3 x4 z H locs ls hf hl hH
  rw [fQ_begin_211] at hf
  refine lv_iconst (v := 1) hx hb dQ_begin_211 (by decide) ?_
  refine lv_goto (tgt := 216) hx hb dQ_begin_212 (by decide) ?_
  exact bQ_begin_216 hx hb hml hr hlocks hown hts hE hf (lv_sub hl [0, 1, 2, 3] rfl) hH
set_option maxHeartbeats 4000000 in
set_option maxRecDepth 100000 in
theorem bQ_begin_180 {p : Program} {l : Launch} {e : Env} {s : State} {m : MethodId} {args : Array Value} {below : List Frame} {meth : Method} {c : Code} {G : lc_G} (hx : p.tables.exec = Jvm.exec) (hb : c.code = prog_10_method_18_code) (hml : c.maxLocals = 5) (hr : meth.sig.returnType = (some .int)) (hlocks : meth.locks = false) (hown : s.vm.findClass "LinearCellsModel" = some m.cls) (hts : ∀ w ∈ lc_ALL, w.before args s = true) (hE : lc_E G s) {r : Int32} {z' : lc_S} : ∀ {x2 : Int32} {x3 : Int32} {z : lc_S} {H : Heap} {locs : List Loc} {ls : Array Slot}, fQ_begin_180 x2 x3 z = some (r, z') → lv_has ls 5 [(0, .ref (lc_ad G 80)), (2, .int x2), (3, .int x3)] → lc_H G z s.heap H locs → W p l e (lc_rm 3) s m args below meth c H locs 0 0 (MQ below (lc_Q G (some (.int r)) z') args s 0 0 (lc_A G)) (F0 m 180 ls []) := by
  intro x2 x3 z H locs ls hf hl hH
  rw [fQ_begin_180] at hf
  refine lv_iload_n hx hb dQ_begin_180 rfl (lv_at hl 1 rfl) ?_
  refine lv_bipush (v := 47) hx hb dQ_begin_181 (by decide) ?_
  refine lv_icmp_ne (tgt := 234) hx hb dQ_begin_183 (by decide) (fun hc => ?_) (fun hc => ?_)
  · replace hf := lc_ite_neg hc hf
    exact bQ_begin_234 hx hb hml hr hlocks hown hts hE hf (lv_sub hl [0, 1, 2] rfl) hH
  · replace hf := lc_ite_pos hc hf
    refine lv_aload_n hx hb dQ_begin_186 rfl (lv_at hl 0 rfl) ?_
    obtain ⟨r187, z187, h187, hf⟩ := lc_bnd_some hf
    refine lc_calli (va_runV (As := []) (rest := []) ⟨hx, hb, hml, hown, hts⟩ (cQ_letter l G h187) (lc_cwV hts kvQ_188 (lc_room (by decide) (by decide))) (lc_preV hE hH lc_h80 rfl _) rfl rfl hl.1 rfl (lv_room (Nat.le_of_ble_eq_true rfl)) dQ_begin_187 ⟨Nat.zero_le _, Nat.zero_le _⟩) hH (fun H locs hH => ?_)
    refine lv_istore hx hb dQ_begin_190 hl (by decide) rfl (fun ls hl => ?_)
    replace hl : lv_has ls 5 [(4, .int r187), (0, .ref (lc_ad G 80)), (2, .int x2), (3, .int x3)] := hl
    refine lv_aload_n hx hb dQ_begin_192 rfl (lv_at hl 1 rfl) ?_
    refine lv_aload_n hx hb dQ_begin_193 rfl (lv_at hl 1 rfl) ?_
    refine lc_geti hx hb hts hown hE hH flQ_155 lc_h80 rfl dQ_begin_194 ?_
    refine lv_if_ne (tgt := 211) hx hb dQ_begin_197 (by decide) (fun hc => ?_) (fun hc => ?_)
    · replace hf := lc_ite_neg hc hf
      exact bQ_begin_211 hx hb hml hr hlocks hown hts hE hf (lv_sub hl [1, 2, 3, 0] rfl) hH
    · replace hf := lc_ite_pos hc hf
      refine lv_iload hx hb dQ_begin_200 (lv_at hl 0 rfl) ?_
      refine lv_aload_n hx hb dQ_begin_202 rfl (lv_at hl 1 rfl) ?_
      refine lc_getf (d := 3) (q := 83) hx hb hts hown hE hH flQ_16 lc_h80 rfl rfl dQ_begin_203 ?_
      refine lv_iload_n hx hb dQ_begin_206 rfl (lv_at hl 3 rfl) ?_
      obtain ⟨hi207, hf⟩ := lc_chk_some hf
      refine lc_iald hx hb hE hH lc_h83 rfl hi207 dQ_begin_207 ?_
      refine lv_icmp_ne (tgt := 215) hx hb dQ_begin_208 (by decide) (fun hc => ?_) (fun hc => ?_)
      · replace hf := lc_ite_neg hc hf
        refine lv_iconst (v := 0) hx hb dQ_begin_215 (by decide) ?_
        exact bQ_begin_216 hx hb hml hr hlocks hown hts hE hf (lv_sub hl [1, 2, 3, 0] rfl) hH
      · replace hf := lc_ite_pos hc hf
        exact bQ_begin_211 hx hb hml hr hlocks hown hts hE hf (lv_sub hl [1, 2, 3, 0] rfl) hH
set_option maxHeartbeats 4000000 in
set_option maxRecDepth 100000 in
theorem bQ_begin_170 {p : Program} {l : Launch} {e : Env} {s : State} {m : MethodId} {args : Array Value} {below : List Frame} {meth : Method} {c : Code} {G : lc_G} (hx : p.tables.exec = Jvm.exec) (hb : c.code = prog_10_method_18_code) (hml : c.maxLocals = 5) (hr : meth.sig.returnType = (some .int)) (hlocks : meth.locks = false) (hown : s.vm.findClass "LinearCellsModel" = some m.cls) (hts : ∀ w ∈ lc_ALL, w.before args s = true) (hE : lc_E G s) {r : Int32} {z' : lc_S} : ∀ {x2 : Int32} {x3 : Int32} {z : lc_S} {H : Heap} {locs : List Loc} {ls : Array Slot}, fQ_begin_170 x2 x3 z = some (r, z') → lv_has ls 5 [(0, .ref (lc_ad G 80)), (2, .int x2), (3, .int x3)] → lc_H G z s.heap H locs → W p l e (lc_rm 3) s m args below meth c H locs 0 0 (MQ below (lc_Q G (some (.int r)) z') args s 0 0 (lc_A G)) (F0 m 170 ls []) := by
  intro x2 x3 z H locs ls hf hl hH
  rw [fQ_begin_170] at hf
  refine lv_aload_n hx hb dQ_begin_170 rfl (lv_at hl 0 rfl) ?_
  refine lc_getf (d := 3) (q := 83) hx hb hts hown hE hH flQ_16 lc_h80 rfl rfl dQ_begin_171 ?_
  refine lv_iload_n hx hb dQ_begin_174 rfl (lv_at hl 2 rfl) ?_
  refine lv_aload_n hx hb dQ_begin_175 rfl (lv_at hl 0 rfl) ?_
  obtain ⟨r176, z176, h176, hf⟩ := lc_bnd_some hf
  refine lc_calli (va_runV (As := []) (rest := [.int x3, .ref (lc_ad G 83)]) ⟨hx, hb, hml, hown, hts⟩ (cQ_letter l G h176) (lc_cwV hts kvQ_188 (lc_room (by decide) (by decide))) (lc_preV hE hH lc_h80 rfl _) rfl rfl hl.1 rfl (lv_room (Nat.le_of_ble_eq_true rfl)) dQ_begin_176 ⟨Nat.zero_le _, Nat.zero_le _⟩) hH (fun H locs hH => ?_)
  obtain ⟨hi179, hf⟩ := lc_chk_some hf
  refine lc_iast hx hb hE hH lc_h83 rfl hi179 dQ_begin_179 (fun H locs hH => ?_)
  exact bQ_begin_180 hx hb hml hr hlocks hown hts hE hf (lv_sub hl [0, 1, 2] rfl) hH
set_option maxHeartbeats 4000000 in
set_option maxRecDepth 100000 in
theorem bQ_begin_110 {p : Program} {l : Launch} {e : Env} {s : State} {m : MethodId} {args : Array Value} {below : List Frame} {meth : Method} {c : Code} {G : lc_G} (hx : p.tables.exec = Jvm.exec) (hb : c.code = prog_10_method_18_code) (hml : c.maxLocals = 5) (hr : meth.sig.returnType = (some .int)) (hlocks : meth.locks = false) (hown : s.vm.findClass "LinearCellsModel" = some m.cls) (hts : ∀ w ∈ lc_ALL, w.before args s = true) (hE : lc_E G s) {r : Int32} {z' : lc_S} : ∀ {x2 : Int32} {t1 : Int32} {z : lc_S} {H : Heap} {locs : List Loc} {ls : Array Slot}, fQ_begin_110 x2 t1 z = some (r, z') → lv_has ls 5 [(0, .ref (lc_ad G 80)), (2, .int x2)] → lc_H G z s.heap H locs → W p l e (lc_rm 3) s m args below meth c H locs 0 0 (MQ below (lc_Q G (some (.int r)) z') args s 0 0 (lc_A G)) (F0 m 110 ls [.int t1, .ref (lc_ad G 80)]) := by
  intro x2 t1 z H locs ls hf hl hH
  rw [fQ_begin_110] at hf
  obtain ⟨hz110, hf⟩ := lc_chk_some hf
  refine lc_puti hx hb hts hown hE hH fpQ_155 lc_h80 rfl (lc_zn hz110) (lc_zf hz110) dQ_begin_110 (fun H locs hH => ?_)
  refine lv_aload_n hx hb dQ_begin_113 rfl (lv_at hl 0 rfl) ?_
  refine lc_geti hx hb hts hown hE hH flQ_155 lc_h80 rfl dQ_begin_114 ?_
  refine lv_if_eq (tgt := 122) hx hb dQ_begin_117 (by decide) (fun hc => ?_) (fun hc => ?_)
  · replace hf := lc_ite_pos hc hf
    refine lv_aload_n hx hb dQ_begin_122 rfl (lv_at hl 0 rfl) ?_
    refine lv_iload_n hx hb dQ_begin_123 rfl (lv_at hl 1 rfl) ?_
    obtain ⟨r124, z124, h124, hf⟩ := lc_bnd_some hf
    refine lc_calli (va_runV (As := [.int x2]) (rest := []) ⟨hx, hb, hml, hown, hts⟩ (cQ_part l G h124) (lc_cwV hts kvQ_206 (lc_room (by decide) (by decide))) (lc_preV hE hH lc_h80 rfl _) rfl rfl hl.1 rfl (lv_room (Nat.le_of_ble_eq_true rfl)) dQ_begin_124 ⟨Nat.zero_le _, Nat.zero_le _⟩) hH (fun H locs hH => ?_)
    refine lv_istore_n hx hb dQ_begin_127 rfl hl (by decide) rfl (fun ls hl => ?_)
    replace hl : lv_has ls 5 [(3, .int r124), (0, .ref (lc_ad G 80)), (2, .int x2)] := hl
    refine lv_aload_n hx hb dQ_begin_128 rfl (lv_at hl 1 rfl) ?_
    refine lc_getf (d := 12) (q := 92) hx hb hts hown hE hH flQ_44 lc_h80 rfl rfl dQ_begin_129 ?_
    refine lv_aload_n hx hb dQ_begin_132 rfl (lv_at hl 1 rfl) ?_
    refine lc_geti hx hb hts hown hE hH flQ_185 lc_h80 rfl dQ_begin_133 ?_
    refine lv_iload_n hx hb dQ_begin_136 rfl (lv_at hl 0 rfl) ?_
    obtain ⟨hi137, hf⟩ := lc_chk_some hf
    refine lc_iast hx hb hE hH lc_h92 rfl hi137 dQ_begin_137 (fun H locs hH => ?_)
    refine lv_aload_n hx hb dQ_begin_138 rfl (lv_at hl 1 rfl) ?_
    refine lc_getf (d := 13) (q := 93) hx hb hts hown hE hH flQ_47 lc_h80 rfl rfl dQ_begin_139 ?_
    refine lv_aload_n hx hb dQ_begin_142 rfl (lv_at hl 1 rfl) ?_
    refine lc_geti hx hb hts hown hE hH flQ_185 lc_h80 rfl dQ_begin_143 ?_
    refine lv_iconst (v := 0) hx hb dQ_begin_146 (by decide) ?_
    obtain ⟨hi147, hf⟩ := lc_chk_some hf
    refine lc_iast hx hb hE hH lc_h93 rfl hi147 dQ_begin_147 (fun H locs hH => ?_)
    refine lv_aload_n hx hb dQ_begin_148 rfl (lv_at hl 1 rfl) ?_
    refine lv_dup hx hb dQ_begin_149 rfl ?_
    refine lc_geti hx hb hts hown hE hH flQ_185 lc_h80 rfl dQ_begin_150 ?_
    refine lv_iconst (v := 1) hx hb dQ_begin_153 (by decide) ?_
    refine lv_iadd hx hb dQ_begin_154 ?_
    refine lc_puti hx hb hts hown hE hH fpQ_185 lc_h80 rfl rfl rfl dQ_begin_155 (fun H locs hH => ?_)
    refine lv_iload_n hx hb dQ_begin_158 rfl (lv_at hl 2 rfl) ?_
    refine lv_bipush (v := 58) hx hb dQ_begin_159 (by decide) ?_
    refine lv_icmp_eq (tgt := 170) hx hb dQ_begin_161 (by decide) (fun hc => ?_) (fun hc => ?_)
    · replace hf := lc_ite_pos hc hf
      exact bQ_begin_170 hx hb hml hr hlocks hown hts hE hf (lv_sub hl [1, 2, 0] rfl) hH
    · replace hf := lc_ite_neg hc hf
      refine lv_iload_n hx hb dQ_begin_164 rfl (lv_at hl 2 rfl) ?_
      refine lv_bipush (v := 47) hx hb dQ_begin_165 (by decide) ?_
      refine lv_icmp_ne (tgt := 180) hx hb dQ_begin_167 (by decide) (fun hc => ?_) (fun hc => ?_)
      · replace hf := lc_ite_neg hc hf
        exact bQ_begin_180 hx hb hml hr hlocks hown hts hE hf (lv_sub hl [1, 2, 0] rfl) hH
      · replace hf := lc_ite_pos hc hf
        exact bQ_begin_170 hx hb hml hr hlocks hown hts hE hf (lv_sub hl [1, 2, 0] rfl) hH
  · replace hf := lc_ite_neg hc hf
    refine lv_iconst (v := (-1)) hx hb dQ_begin_120 (by decide) ?_
    exact lc_iret hx hb hr hlocks hH hf dQ_begin_121
set_option maxHeartbeats 4000000 in
set_option maxRecDepth 100000 in
theorem bQ_begin_105 {p : Program} {l : Launch} {e : Env} {s : State} {m : MethodId} {args : Array Value} {below : List Frame} {meth : Method} {c : Code} {G : lc_G} (hx : p.tables.exec = Jvm.exec) (hb : c.code = prog_10_method_18_code) (hml : c.maxLocals = 5) (hr : meth.sig.returnType = (some .int)) (hlocks : meth.locks = false) (hown : s.vm.findClass "LinearCellsModel" = some m.cls) (hts : ∀ w ∈ lc_ALL, w.before args s = true) (hE : lc_E G s) {r : Int32} {z' : lc_S} : ∀ {x2 : Int32} {z : lc_S} {H : Heap} {locs : List Loc} {ls : Array Slot}, fQ_begin_105 x2 z = some (r, z') → lv_has ls 5 [(0, .ref (lc_ad G 80)), (2, .int x2)] → lc_H G z s.heap H locs → W p l e (lc_rm 3) s m args below meth c H locs 0 0 (MQ below (lc_Q G (some (.int r)) z') args s 0 0 (lc_A G)) (F0 m 105 ls [.ref (lc_ad G 80)]) := by
  intro x2 z H locs ls hf hl hH
  rw [fQ_begin_105] at hf
  refine lv_iconst (v := 1) hx hb dQ_begin_105 (by decide) ?_
  refine lv_goto (tgt := 110) hx hb dQ_begin_106 (by decide) ?_
  exact bQ_begin_110 hx hb hml hr hlocks hown hts hE hf (lv_sub hl [0, 1] rfl) hH
set_option maxHeartbeats 4000000 in
set_option maxRecDepth 100000 in
theorem bQ_begin_82 {p : Program} {l : Launch} {e : Env} {s : State} {m : MethodId} {args : Array Value} {below : List Frame} {meth : Method} {c : Code} {G : lc_G} (hx : p.tables.exec = Jvm.exec) (hb : c.code = prog_10_method_18_code) (hml : c.maxLocals = 5) (hr : meth.sig.returnType = (some .int)) (hlocks : meth.locks = false) (hown : s.vm.findClass "LinearCellsModel" = some m.cls) (hts : ∀ w ∈ lc_ALL, w.before args s = true) (hE : lc_E G s) {r : Int32} {z' : lc_S} : ∀ {t1 : Int32} {z : lc_S} {H : Heap} {locs : List Loc} {ls : Array Slot}, fQ_begin_82 t1 z = some (r, z') → lv_has ls 5 [(0, .ref (lc_ad G 80))] → lc_H G z s.heap H locs → W p l e (lc_rm 3) s m args below meth c H locs 0 0 (MQ below (lc_Q G (some (.int r)) z') args s 0 0 (lc_A G)) (F0 m 82 ls [.int t1, .ref (lc_ad G 80)]) := by
  intro t1 z H locs ls hf hl hH
  rw [fQ_begin_82] at hf
  obtain ⟨hz82, hf⟩ := lc_chk_some hf
  refine lc_puti hx hb hts hown hE hH fpQ_155 lc_h80 rfl (lc_zn hz82) (lc_zf hz82) dQ_begin_82 (fun H locs hH => ?_)
  refine lv_aload_n hx hb dQ_begin_85 rfl (lv_at hl 0 rfl) ?_
  obtain ⟨r86, z86, h86, hf⟩ := lc_bnd_some hf
  refine lc_calli (va_runV (As := []) (rest := []) ⟨hx, hb, hml, hown, hts⟩ (cQ_next l G h86) (lc_cwV hts kvQ_159 (lc_room (by decide) (by decide))) (lc_preV hE hH lc_h80 rfl _) rfl rfl hl.1 rfl (lv_room (Nat.le_of_ble_eq_true rfl)) dQ_begin_86 ⟨Nat.zero_le _, Nat.zero_le _⟩) hH (fun H locs hH => ?_)
  refine lv_istore_n hx hb dQ_begin_89 rfl hl (by decide) rfl (fun ls hl => ?_)
  replace hl : lv_has ls 5 [(2, .int r86), (0, .ref (lc_ad G 80))] := hl
  refine lv_aload_n hx hb dQ_begin_90 rfl (lv_at hl 1 rfl) ?_
  refine lv_aload_n hx hb dQ_begin_91 rfl (lv_at hl 1 rfl) ?_
  refine lc_geti hx hb hts hown hE hH flQ_155 lc_h80 rfl dQ_begin_92 ?_
  refine lv_if_ne (tgt := 105) hx hb dQ_begin_95 (by decide) (fun hc => ?_) (fun hc => ?_)
  · replace hf := lc_ite_neg hc hf
    exact bQ_begin_105 hx hb hml hr hlocks hown hts hE hf (lv_sub hl [1, 0] rfl) hH
  · replace hf := lc_ite_pos hc hf
    refine lv_iload_n hx hb dQ_begin_98 rfl (lv_at hl 0 rfl) ?_
    obtain ⟨r99, z99, h99, hf⟩ := lc_bnd_some hf
    refine lc_calli (va_runS (As := [.int r86]) (rest := [.ref (lc_ad G 80)]) ⟨hx, hb, hml, hown, hts⟩ (cQ_partsOf l G h99) (lc_cwS hts ksQ_214 (lc_room (by decide) (by decide))) (lc_preS hE hH _) rfl rfl hl.1 rfl (lv_room (Nat.le_of_ble_eq_true rfl)) dQ_begin_99 ⟨Nat.zero_le _, Nat.zero_le _⟩) hH (fun H locs hH => ?_)
    refine lv_if_ne (tgt := 109) hx hb dQ_begin_102 (by decide) (fun hc => ?_) (fun hc => ?_)
    · replace hf := lc_ite_neg hc hf
      refine lv_iconst (v := 0) hx hb dQ_begin_109 (by decide) ?_
      exact bQ_begin_110 hx hb hml hr hlocks hown hts hE hf (lv_sub hl [1, 0] rfl) hH
    · replace hf := lc_ite_pos hc hf
      exact bQ_begin_105 hx hb hml hr hlocks hown hts hE hf (lv_sub hl [1, 0] rfl) hH
set_option maxHeartbeats 4000000 in
set_option maxRecDepth 100000 in
theorem cQ_begin (l : Launch) (G : lc_G) {r : Int32} {z z' : lc_S} (hf : fQ_begin z = some (r, z')) : lc_M l G yQ_begin wQ_begin 3 [.ref (lc_ad G 80)] z (some (.int r)) z' := by
  refine lc_M_of (cc := prog_10_method_18_code) (maxL := 5) (ret := (some .int)) (own := "LinearCellsModel") (by decide) rfl (fun w h => List.mem_cons_of_mem _ h) (Nat.le_of_ble_eq_true rfl) rfl ?_
  intro p e s m below meth c hx hb hml hr hlocks hown hts hE ls hl hH
  replace hl : lv_has ls 5 [(0, .ref (lc_ad G 80))] := hl
  rw [fQ_begin] at hf
  refine lv_aload_n hx hb dQ_begin_0 rfl (lv_at hl 0 rfl) ?_
  obtain ⟨r1, z1, h1, hf⟩ := lc_bnd_some hf
  refine lc_calli (va_runV (As := []) (rest := []) ⟨hx, hb, hml, hown, hts⟩ (cQ_peek l G h1) (lc_cwV hts kvQ_151 (lc_room (by decide) (by decide))) (lc_preV hE hH lc_h80 rfl _) rfl rfl hl.1 rfl (lv_room (Nat.le_of_ble_eq_true rfl)) dQ_begin_1 ⟨Nat.zero_le _, Nat.zero_le _⟩) hH (fun H locs hH => ?_)
  refine lv_istore_n hx hb dQ_begin_4 rfl hl (by decide) rfl (fun ls hl => ?_)
  replace hl : lv_has ls 5 [(1, .int r1), (0, .ref (lc_ad G 80))] := hl
  refine lv_aload_n hx hb dQ_begin_5 rfl (lv_at hl 1 rfl) ?_
  refine lc_geti hx hb hts hown hE hH flQ_185 lc_h80 rfl dQ_begin_6 ?_
  refine lv_bipush (v := 16) hx hb dQ_begin_9 (by decide) ?_
  refine lv_icmp_le (tgt := 21) hx hb dQ_begin_11 (by decide) (fun hc => ?_) (fun hc => ?_)
  · replace hf := lc_ite_pos hc hf
    refine lv_iload_n hx hb dQ_begin_21 rfl (lv_at hl 0 rfl) ?_
    obtain ⟨r22, z22, h22, hf⟩ := lc_bnd_some hf
    refine lc_calli (va_runS (As := [.int r1]) (rest := []) ⟨hx, hb, hml, hown, hts⟩ (cQ_isDigit l G h22) (lc_cwS hts ksQ_166 (lc_room (by decide) (by decide))) (lc_preS hE hH _) rfl rfl hl.1 rfl (lv_room (Nat.le_of_ble_eq_true rfl)) dQ_begin_22 ⟨Nat.zero_le _, Nat.zero_le _⟩) hH (fun H locs hH => ?_)
    refine lv_if_eq (tgt := 47) hx hb dQ_begin_25 (by decide) (fun hc => ?_) (fun hc => ?_)
    · replace hf := lc_ite_pos hc hf
      refine lv_aload_n hx hb dQ_begin_47 rfl (lv_at hl 1 rfl) ?_
      refine lv_dup hx hb dQ_begin_48 rfl ?_
      refine lc_geti hx hb hts hown hE hH flQ_148 lc_h80 rfl dQ_begin_49 ?_
      refine lv_iconst (v := 1) hx hb dQ_begin_52 (by decide) ?_
      refine lv_iadd hx hb dQ_begin_53 ?_
      refine lc_puti hx hb hts hown hE hH fpQ_148 lc_h80 rfl rfl rfl dQ_begin_54 (fun H locs hH => ?_)
      refine lv_iload_n hx hb dQ_begin_57 rfl (lv_at hl 0 rfl) ?_
      obtain ⟨r58, z58, h58, hf⟩ := lc_bnd_some hf
      refine lc_calli (va_runS (As := [.int r1]) (rest := []) ⟨hx, hb, hml, hown, hts⟩ (cQ_isLetter l G h58) (lc_cwS hts ksQ_162 (lc_room (by decide) (by decide))) (lc_preS hE hH _) rfl rfl hl.1 rfl (lv_room (Nat.le_of_ble_eq_true rfl)) dQ_begin_58 ⟨Nat.zero_le _, Nat.zero_le _⟩) hH (fun H locs hH => ?_)
      refine lv_if_eq (tgt := 70) hx hb dQ_begin_61 (by decide) (fun hc => ?_) (fun hc => ?_)
      · replace hf := lc_ite_pos hc hf
        refine lv_aload_n hx hb dQ_begin_70 rfl (lv_at hl 1 rfl) ?_
        refine lv_iload_n hx hb dQ_begin_71 rfl (lv_at hl 0 rfl) ?_
        refine lv_bipush (v := 40) hx hb dQ_begin_72 (by decide) ?_
        refine lv_icmp_eq (tgt := 81) hx hb dQ_begin_74 (by decide) (fun hc => ?_) (fun hc => ?_)
        · replace hf := lc_ite_pos hc hf
          refine lv_iconst (v := 0) hx hb dQ_begin_81 (by decide) ?_
          exact bQ_begin_82 hx hb hml hr hlocks hown hts hE hf (lv_sub hl [1] rfl) hH
        · replace hf := lc_ite_neg hc hf
          refine lv_iconst (v := 1) hx hb dQ_begin_77 (by decide) ?_
          refine lv_goto (tgt := 82) hx hb dQ_begin_78 (by decide) ?_
          exact bQ_begin_82 hx hb hml hr hlocks hown hts hE hf (lv_sub hl [1] rfl) hH
      · replace hf := lc_ite_neg hc hf
        refine lv_aload_n hx hb dQ_begin_64 rfl (lv_at hl 1 rfl) ?_
        refine lv_iload_n hx hb dQ_begin_65 rfl (lv_at hl 0 rfl) ?_
        obtain ⟨r66, z66, h66, hf⟩ := lc_bnd_some hf
        refine lc_calli (va_runV (As := [.int r1]) (rest := []) ⟨hx, hb, hml, hown, hts⟩ (cQ_variable l G h66) (lc_cwV hts kvQ_211 (lc_room (by decide) (by decide))) (lc_preV hE hH lc_h80 rfl _) rfl rfl hl.1 rfl (lv_room (Nat.le_of_ble_eq_true rfl)) dQ_begin_66 ⟨Nat.zero_le _, Nat.zero_le _⟩) hH (fun H locs hH => ?_)
        exact lc_iret hx hb hr hlocks hH hf dQ_begin_69
    · replace hf := lc_ite_neg hc hf
      refine lv_aload_n hx hb dQ_begin_28 rfl (lv_at hl 1 rfl) ?_
      refine lv_bipush (v := 48) hx hb dQ_begin_29 (by decide) ?_
      obtain ⟨r31, z31, h31, hf⟩ := lc_bnd_some hf
      refine lc_calli (va_runV (As := [.int 48]) (rest := []) ⟨hx, hb, hml, hown, hts⟩ (cQ_part l G h31) (lc_cwV hts kvQ_206 (lc_room (by decide) (by decide))) (lc_preV hE hH lc_h80 rfl _) rfl rfl hl.1 rfl (lv_room (Nat.le_of_ble_eq_true rfl)) dQ_begin_31 ⟨Nat.zero_le _, Nat.zero_le _⟩) hH (fun H locs hH => ?_)
      refine lv_istore_n hx hb dQ_begin_34 rfl hl (by decide) rfl (fun ls hl => ?_)
      replace hl : lv_has ls 5 [(2, .int r31), (1, .int r1), (0, .ref (lc_ad G 80))] := hl
      refine lv_aload_n hx hb dQ_begin_35 rfl (lv_at hl 2 rfl) ?_
      refine lc_getf (d := 3) (q := 83) hx hb hts hown hE hH flQ_16 lc_h80 rfl rfl dQ_begin_36 ?_
      refine lv_iload_n hx hb dQ_begin_39 rfl (lv_at hl 0 rfl) ?_
      refine lv_aload_n hx hb dQ_begin_40 rfl (lv_at hl 2 rfl) ?_
      obtain ⟨r41, z41, h41, hf⟩ := lc_bnd_some hf
      refine lc_calli (va_runV (As := []) (rest := [.int r31, .ref (lc_ad G 83)]) ⟨hx, hb, hml, hown, hts⟩ (cQ_number l G h41) (lc_cwV hts kvQ_209 (lc_room (by decide) (by decide))) (lc_preV hE hH lc_h80 rfl _) rfl rfl hl.1 rfl (lv_room (Nat.le_of_ble_eq_true rfl)) dQ_begin_41 ⟨Nat.zero_le _, Nat.zero_le _⟩) hH (fun H locs hH => ?_)
      obtain ⟨hi44, hf⟩ := lc_chk_some hf
      refine lc_iast hx hb hE hH lc_h83 rfl hi44 dQ_begin_44 (fun H locs hH => ?_)
      refine lv_iload_n hx hb dQ_begin_45 rfl (lv_at hl 0 rfl) ?_
      exact lc_iret hx hb hr hlocks hH hf dQ_begin_46
  · replace hf := lc_ite_neg hc hf
    refine lv_aload_n hx hb dQ_begin_14 rfl (lv_at hl 1 rfl) ?_
    refine lv_iconst (v := 1) hx hb dQ_begin_15 (by decide) ?_
    refine lc_puti hx hb hts hown hE hH fpQ_155 lc_h80 rfl (by decide) (by decide) dQ_begin_16 (fun H locs hH => ?_)
    refine lv_iconst (v := (-1)) hx hb dQ_begin_19 (by decide) ?_
    exact lc_iret hx hb hr hlocks hH hf dQ_begin_20
theorem dQ_attach_0 : decode prog_10_method_20_code 0 = .ok (.aload_n 0, 1) := by decide +kernel
theorem dQ_attach_1 : decode prog_10_method_20_code 1 = .ok (.getfield 44, 3) := by decide +kernel
theorem dQ_attach_4 : decode prog_10_method_20_code 4 = .ok (.aload_n 0, 1) := by decide +kernel
theorem dQ_attach_5 : decode prog_10_method_20_code 5 = .ok (.getfield 185, 3) := by decide +kernel
theorem dQ_attach_8 : decode prog_10_method_20_code 8 = .ok (.iconst 1, 1) := by decide +kernel
theorem dQ_attach_9 : decode prog_10_method_20_code 9 = .ok (.isub, 1) := by decide +kernel
theorem dQ_attach_10 : decode prog_10_method_20_code 10 = .ok (.iaload, 1) := by decide +kernel
theorem dQ_attach_11 : decode prog_10_method_20_code 11 = .ok (.istore_n 2, 1) := by decide +kernel
theorem dQ_attach_12 : decode prog_10_method_20_code 12 = .ok (.aload_n 0, 1) := by decide +kernel
theorem dQ_attach_13 : decode prog_10_method_20_code 13 = .ok (.getfield 47, 3) := by decide +kernel
theorem dQ_attach_16 : decode prog_10_method_20_code 16 = .ok (.aload_n 0, 1) := by decide +kernel
theorem dQ_attach_17 : decode prog_10_method_20_code 17 = .ok (.getfield 185, 3) := by decide +kernel
theorem dQ_attach_20 : decode prog_10_method_20_code 20 = .ok (.iconst 1, 1) := by decide +kernel
theorem dQ_attach_21 : decode prog_10_method_20_code 21 = .ok (.isub, 1) := by decide +kernel
theorem dQ_attach_22 : decode prog_10_method_20_code 22 = .ok (.iaload, 1) := by decide +kernel
theorem dQ_attach_23 : decode prog_10_method_20_code 23 = .ok (.istore_n 3, 1) := by decide +kernel
theorem dQ_attach_24 : decode prog_10_method_20_code 24 = .ok (.aload_n 0, 1) := by decide +kernel
theorem dQ_attach_25 : decode prog_10_method_20_code 25 = .ok (.getfield 13, 3) := by decide +kernel
theorem dQ_attach_28 : decode prog_10_method_20_code 28 = .ok (.iload_n 2, 1) := by decide +kernel
theorem dQ_attach_29 : decode prog_10_method_20_code 29 = .ok (.iaload, 1) := by decide +kernel
theorem dQ_attach_30 : decode prog_10_method_20_code 30 = .ok (.istore 4, 2) := by decide +kernel
theorem dQ_attach_32 : decode prog_10_method_20_code 32 = .ok (.iload_n 3, 1) := by decide +kernel
theorem dQ_attach_33 : decode prog_10_method_20_code 33 = .ok (.ifCond .ne 13, 3) := by decide +kernel
theorem dQ_attach_36 : decode prog_10_method_20_code 36 = .ok (.aload_n 0, 1) := by decide +kernel
theorem dQ_attach_37 : decode prog_10_method_20_code 37 = .ok (.getfield 19, 3) := by decide +kernel
theorem dQ_attach_40 : decode prog_10_method_20_code 40 = .ok (.iload_n 2, 1) := by decide +kernel
theorem dQ_attach_41 : decode prog_10_method_20_code 41 = .ok (.iload_n 1, 1) := by decide +kernel
theorem dQ_attach_42 : decode prog_10_method_20_code 42 = .ok (.iastore, 1) := by decide +kernel
theorem dQ_attach_43 : decode prog_10_method_20_code 43 = .ok (.goto 25, 3) := by decide +kernel
theorem dQ_attach_46 : decode prog_10_method_20_code 46 = .ok (.iload_n 3, 1) := by decide +kernel
theorem dQ_attach_47 : decode prog_10_method_20_code 47 = .ok (.iconst 1, 1) := by decide +kernel
theorem dQ_attach_48 : decode prog_10_method_20_code 48 = .ok (.if_icmp .ne 13, 3) := by decide +kernel
theorem dQ_attach_51 : decode prog_10_method_20_code 51 = .ok (.aload_n 0, 1) := by decide +kernel
theorem dQ_attach_52 : decode prog_10_method_20_code 52 = .ok (.getfield 22, 3) := by decide +kernel
theorem dQ_attach_55 : decode prog_10_method_20_code 55 = .ok (.iload_n 2, 1) := by decide +kernel
theorem dQ_attach_56 : decode prog_10_method_20_code 56 = .ok (.iload_n 1, 1) := by decide +kernel
theorem dQ_attach_57 : decode prog_10_method_20_code 57 = .ok (.iastore, 1) := by decide +kernel
theorem dQ_attach_58 : decode prog_10_method_20_code 58 = .ok (.goto 10, 3) := by decide +kernel
theorem dQ_attach_61 : decode prog_10_method_20_code 61 = .ok (.aload_n 0, 1) := by decide +kernel
theorem dQ_attach_62 : decode prog_10_method_20_code 62 = .ok (.getfield 25, 3) := by decide +kernel
theorem dQ_attach_65 : decode prog_10_method_20_code 65 = .ok (.iload_n 2, 1) := by decide +kernel
theorem dQ_attach_66 : decode prog_10_method_20_code 66 = .ok (.iload_n 1, 1) := by decide +kernel
theorem dQ_attach_67 : decode prog_10_method_20_code 67 = .ok (.iastore, 1) := by decide +kernel
theorem dQ_attach_68 : decode prog_10_method_20_code 68 = .ok (.aload_n 0, 1) := by decide +kernel
theorem dQ_attach_69 : decode prog_10_method_20_code 69 = .ok (.getfield 47, 3) := by decide +kernel
theorem dQ_attach_72 : decode prog_10_method_20_code 72 = .ok (.aload_n 0, 1) := by decide +kernel
theorem dQ_attach_73 : decode prog_10_method_20_code 73 = .ok (.getfield 185, 3) := by decide +kernel
theorem dQ_attach_76 : decode prog_10_method_20_code 76 = .ok (.iconst 1, 1) := by decide +kernel
theorem dQ_attach_77 : decode prog_10_method_20_code 77 = .ok (.isub, 1) := by decide +kernel
theorem dQ_attach_78 : decode prog_10_method_20_code 78 = .ok (.dup2, 1) := by decide +kernel
theorem dQ_attach_79 : decode prog_10_method_20_code 79 = .ok (.iaload, 1) := by decide +kernel
theorem dQ_attach_80 : decode prog_10_method_20_code 80 = .ok (.iconst 1, 1) := by decide +kernel
theorem dQ_attach_81 : decode prog_10_method_20_code 81 = .ok (.iadd, 1) := by decide +kernel
theorem dQ_attach_82 : decode prog_10_method_20_code 82 = .ok (.iastore, 1) := by decide +kernel
theorem dQ_attach_83 : decode prog_10_method_20_code 83 = .ok (.iload_n 3, 1) := by decide +kernel
theorem dQ_attach_84 : decode prog_10_method_20_code 84 = .ok (.ifCond .ne 56, 3) := by decide +kernel
theorem dQ_attach_87 : decode prog_10_method_20_code 87 = .ok (.iload 4, 2) := by decide +kernel
theorem dQ_attach_89 : decode prog_10_method_20_code 89 = .ok (.bipush 58, 2) := by decide +kernel
theorem dQ_attach_91 : decode prog_10_method_20_code 91 = .ok (.if_icmp .eq 10, 3) := by decide +kernel
theorem dQ_attach_94 : decode prog_10_method_20_code 94 = .ok (.iload 4, 2) := by decide +kernel
theorem dQ_attach_96 : decode prog_10_method_20_code 96 = .ok (.bipush 47, 2) := by decide +kernel
theorem dQ_attach_98 : decode prog_10_method_20_code 98 = .ok (.if_icmp .ne 42, 3) := by decide +kernel
theorem dQ_attach_101 : decode prog_10_method_20_code 101 = .ok (.aload_n 0, 1) := by decide +kernel
theorem dQ_attach_102 : decode prog_10_method_20_code 102 = .ok (.aload_n 0, 1) := by decide +kernel
theorem dQ_attach_103 : decode prog_10_method_20_code 103 = .ok (.getfield 16, 3) := by decide +kernel
theorem dQ_attach_106 : decode prog_10_method_20_code 106 = .ok (.iload_n 2, 1) := by decide +kernel
theorem dQ_attach_107 : decode prog_10_method_20_code 107 = .ok (.iaload, 1) := by decide +kernel
theorem dQ_attach_108 : decode prog_10_method_20_code 108 = .ok (.sipush 256, 3) := by decide +kernel
theorem dQ_attach_111 : decode prog_10_method_20_code 111 = .ok (.irem, 1) := by decide +kernel
theorem dQ_attach_112 : decode prog_10_method_20_code 112 = .ok (.iload_n 2, 1) := by decide +kernel
theorem dQ_attach_113 : decode prog_10_method_20_code 113 = .ok (.iconst 0, 1) := by decide +kernel
theorem dQ_attach_114 : decode prog_10_method_20_code 114 = .ok (.invokevirtual 191, 3) := by decide +kernel
theorem dQ_attach_117 : decode prog_10_method_20_code 117 = .ok (.iload 4, 2) := by decide +kernel
theorem dQ_attach_119 : decode prog_10_method_20_code 119 = .ok (.bipush 47, 2) := by decide +kernel
theorem dQ_attach_121 : decode prog_10_method_20_code 121 = .ok (.if_icmp .ne 19, 3) := by decide +kernel
theorem dQ_attach_124 : decode prog_10_method_20_code 124 = .ok (.aload_n 0, 1) := by decide +kernel
theorem dQ_attach_125 : decode prog_10_method_20_code 125 = .ok (.aload_n 0, 1) := by decide +kernel
theorem dQ_attach_126 : decode prog_10_method_20_code 126 = .ok (.getfield 16, 3) := by decide +kernel
theorem dQ_attach_129 : decode prog_10_method_20_code 129 = .ok (.iload_n 2, 1) := by decide +kernel
theorem dQ_attach_130 : decode prog_10_method_20_code 130 = .ok (.iaload, 1) := by decide +kernel
theorem dQ_attach_131 : decode prog_10_method_20_code 131 = .ok (.sipush 256, 3) := by decide +kernel
theorem dQ_attach_134 : decode prog_10_method_20_code 134 = .ok (.idiv, 1) := by decide +kernel
theorem dQ_attach_135 : decode prog_10_method_20_code 135 = .ok (.iload_n 2, 1) := by decide +kernel
theorem dQ_attach_136 : decode prog_10_method_20_code 136 = .ok (.iconst 1, 1) := by decide +kernel
theorem dQ_attach_137 : decode prog_10_method_20_code 137 = .ok (.invokevirtual 191, 3) := by decide +kernel
theorem dQ_attach_140 : decode prog_10_method_20_code 140 = .ok (.aload_n 0, 1) := by decide +kernel
theorem dQ_attach_141 : decode prog_10_method_20_code 141 = .ok (.getfield 47, 3) := by decide +kernel
theorem dQ_attach_144 : decode prog_10_method_20_code 144 = .ok (.aload_n 0, 1) := by decide +kernel
theorem dQ_attach_145 : decode prog_10_method_20_code 145 = .ok (.getfield 185, 3) := by decide +kernel
theorem dQ_attach_148 : decode prog_10_method_20_code 148 = .ok (.iconst 1, 1) := by decide +kernel
theorem dQ_attach_149 : decode prog_10_method_20_code 149 = .ok (.isub, 1) := by decide +kernel
theorem dQ_attach_150 : decode prog_10_method_20_code 150 = .ok (.iaload, 1) := by decide +kernel
theorem dQ_attach_151 : decode prog_10_method_20_code 151 = .ok (.iload 4, 2) := by decide +kernel
theorem dQ_attach_153 : decode prog_10_method_20_code 153 = .ok (.invokestatic 214, 3) := by decide +kernel
theorem dQ_attach_156 : decode prog_10_method_20_code 156 = .ok (.if_icmp .ge 5, 3) := by decide +kernel
theorem dQ_attach_159 : decode prog_10_method_20_code 159 = .ok (.iconst (-1), 1) := by decide +kernel
theorem dQ_attach_160 : decode prog_10_method_20_code 160 = .ok (.ireturn, 1) := by decide +kernel
theorem dQ_attach_161 : decode prog_10_method_20_code 161 = .ok (.aload_n 0, 1) := by decide +kernel
theorem dQ_attach_162 : decode prog_10_method_20_code 162 = .ok (.dup, 1) := by decide +kernel
theorem dQ_attach_163 : decode prog_10_method_20_code 163 = .ok (.getfield 179, 3) := by decide +kernel
theorem dQ_attach_166 : decode prog_10_method_20_code 166 = .ok (.iload 4, 2) := by decide +kernel
theorem dQ_attach_168 : decode prog_10_method_20_code 168 = .ok (.bipush 58, 2) := by decide +kernel
theorem dQ_attach_170 : decode prog_10_method_20_code 170 = .ok (.if_icmp .ne 7, 3) := by decide +kernel
theorem dQ_attach_173 : decode prog_10_method_20_code 173 = .ok (.iconst 1, 1) := by decide +kernel
theorem dQ_attach_174 : decode prog_10_method_20_code 174 = .ok (.goto 15, 3) := by decide +kernel
theorem dQ_attach_177 : decode prog_10_method_20_code 177 = .ok (.iload 4, 2) := by decide +kernel
theorem dQ_attach_179 : decode prog_10_method_20_code 179 = .ok (.bipush 47, 2) := by decide +kernel
theorem dQ_attach_181 : decode prog_10_method_20_code 181 = .ok (.if_icmp .ne 7, 3) := by decide +kernel
theorem dQ_attach_184 : decode prog_10_method_20_code 184 = .ok (.iconst 2, 1) := by decide +kernel
theorem dQ_attach_185 : decode prog_10_method_20_code 185 = .ok (.goto 4, 3) := by decide +kernel
theorem dQ_attach_188 : decode prog_10_method_20_code 188 = .ok (.iconst 0, 1) := by decide +kernel
theorem dQ_attach_189 : decode prog_10_method_20_code 189 = .ok (.isub, 1) := by decide +kernel
theorem dQ_attach_190 : decode prog_10_method_20_code 190 = .ok (.putfield 179, 3) := by decide +kernel
theorem dQ_attach_193 : decode prog_10_method_20_code 193 = .ok (.aload_n 0, 1) := by decide +kernel
theorem dQ_attach_194 : decode prog_10_method_20_code 194 = .ok (.bipush 41, 2) := by decide +kernel
theorem dQ_attach_196 : decode prog_10_method_20_code 196 = .ok (.invokevirtual 172, 3) := by decide +kernel
theorem dQ_attach_199 : decode prog_10_method_20_code 199 = .ok (.aload_n 0, 1) := by decide +kernel
theorem dQ_attach_200 : decode prog_10_method_20_code 200 = .ok (.dup, 1) := by decide +kernel
theorem dQ_attach_201 : decode prog_10_method_20_code 201 = .ok (.getfield 185, 3) := by decide +kernel
theorem dQ_attach_204 : decode prog_10_method_20_code 204 = .ok (.iconst 1, 1) := by decide +kernel
theorem dQ_attach_205 : decode prog_10_method_20_code 205 = .ok (.isub, 1) := by decide +kernel
theorem dQ_attach_206 : decode prog_10_method_20_code 206 = .ok (.putfield 185, 3) := by decide +kernel
theorem dQ_attach_209 : decode prog_10_method_20_code 209 = .ok (.iload_n 2, 1) := by decide +kernel
theorem dQ_attach_210 : decode prog_10_method_20_code 210 = .ok (.ireturn, 1) := by decide +kernel
def fQ_attach_189 (x2 : Int32) (t1 : Int32) (t2 : Int32) (z : lc_S) : Option ((Int32) × lc_S) :=
  lc_bnd (fQ_expect 41 (lcUI z 80 19 (t1 - t2))) (fun r196 z196 => some (x2, lcUI z196 80 16 ((lcI z196 80 16) - 1)))
def fQ_attach_140 (x2 : Int32) (x4 : Int32) (z : lc_S) : Option ((Int32) × lc_S) :=
  lc_chk (lc_in ((lcI z 80 16) - 1) 24) (lc_bnd (fQ_partsOf x4 z) (fun r153 z153 => if r153 ≤ (lcI z 93 ((lcI z 80 16) - 1).toNatClampNeg) then (if x4 = 58 then (fQ_attach_189 x2 (lcI z153 80 19) 1 z153) else (if x4 = 47 then (fQ_attach_189 x2 (lcI z153 80 19) 2 z153) else (fQ_attach_189 x2 (lcI z153 80 19) 0 z153))) else (some ((-1), z153))))
def fQ_attach_101 (x2 : Int32) (x4 : Int32) (z : lc_S) : Option ((Int32) × lc_S) :=
  lc_chk (lc_in x2 600) (lc_bnd (fQ_bind ((lcI z 83 x2.toNatClampNeg) - (lcI z 83 x2.toNatClampNeg) / 256 * 256) x2 0 z) (fun r114 z114 => if x4 = 47 then (lc_chk (lc_in x2 600) (lc_bnd (fQ_bind ((lcI z114 83 x2.toNatClampNeg) / 256) x2 1 z114) (fun r137 z137 => fQ_attach_140 x2 x4 z137))) else (fQ_attach_140 x2 x4 z114)))
def fQ_attach_68 (x2 : Int32) (x3 : Int32) (x4 : Int32) (z : lc_S) : Option ((Int32) × lc_S) :=
  lc_chk (lc_in ((lcI z 80 16) - 1) 24) (lc_chk (lc_in ((lcI z 80 16) - 1) 24) (if x3 = 0 then (if x4 = 58 then (fQ_attach_101 x2 x4 (lcUI z 93 ((lcI z 80 16) - 1).toNatClampNeg ((lcI z 93 ((lcI z 80 16) - 1).toNatClampNeg) + 1))) else (if x4 = 47 then (fQ_attach_101 x2 x4 (lcUI z 93 ((lcI z 80 16) - 1).toNatClampNeg ((lcI z 93 ((lcI z 80 16) - 1).toNatClampNeg) + 1))) else (fQ_attach_140 x2 x4 (lcUI z 93 ((lcI z 80 16) - 1).toNatClampNeg ((lcI z 93 ((lcI z 80 16) - 1).toNatClampNeg) + 1))))) else (fQ_attach_140 x2 x4 (lcUI z 93 ((lcI z 80 16) - 1).toNatClampNeg ((lcI z 93 ((lcI z 80 16) - 1).toNatClampNeg) + 1)))))
def fQ_attach (a1 : Int32) (z : lc_S) : Option ((Int32) × lc_S) :=
  lc_chk (lc_in ((lcI z 80 16) - 1) 24) (lc_let (lcI z 92 ((lcI z 80 16) - 1).toNatClampNeg) (fun x11 => lc_chk (lc_in ((lcI z 80 16) - 1) 24) (lc_let (lcI z 93 ((lcI z 80 16) - 1).toNatClampNeg) (fun x23 => lc_chk (lc_in x11 600) (lc_let (lcI z 82 x11.toNatClampNeg) (fun x30 => if x23 = 0 then (lc_chk (lc_in x11 600) (fQ_attach_68 x11 x23 x30 (lcUI z 84 x11.toNatClampNeg a1))) else (if x23 = 1 then (lc_chk (lc_in x11 600) (fQ_attach_68 x11 x23 x30 (lcUI z 85 x11.toNatClampNeg a1))) else (lc_chk (lc_in x11 600) (fQ_attach_68 x11 x23 x30 (lcUI z 86 x11.toNatClampNeg a1))))))))))
set_option maxHeartbeats 4000000 in
set_option maxRecDepth 100000 in
theorem bQ_attach_189 {p : Program} {l : Launch} {e : Env} {s : State} {m : MethodId} {args : Array Value} {below : List Frame} {meth : Method} {c : Code} {G : lc_G} (hx : p.tables.exec = Jvm.exec) (hb : c.code = prog_10_method_20_code) (hml : c.maxLocals = 5) (hr : meth.sig.returnType = (some .int)) (hlocks : meth.locks = false) (hown : s.vm.findClass "LinearCellsModel" = some m.cls) (hts : ∀ w ∈ lc_ALL, w.before args s = true) (hE : lc_E G s) {r : Int32} {z' : lc_S} : ∀ {x2 : Int32} {t1 : Int32} {t2 : Int32} {z : lc_S} {H : Heap} {locs : List Loc} {ls : Array Slot}, fQ_attach_189 x2 t1 t2 z = some (r, z') → lv_has ls 5 [(0, .ref (lc_ad G 80)), (2, .int x2)] → lc_H G z s.heap H locs → W p l e (lc_rm 3) s m args below meth c H locs 0 0 (MQ below (lc_Q G (some (.int r)) z') args s 0 0 (lc_A G)) (F0 m 189 ls [.int t2, .int t1, .ref (lc_ad G 80)]) := by
  intro x2 t1 t2 z H locs ls hf hl hH
  rw [fQ_attach_189] at hf
  refine lv_isub hx hb dQ_attach_189 ?_
  refine lc_puti hx hb hts hown hE hH fpQ_179 lc_h80 rfl rfl rfl dQ_attach_190 (fun H locs hH => ?_)
  refine lv_aload_n hx hb dQ_attach_193 rfl (lv_at hl 0 rfl) ?_
  refine lv_bipush (v := 41) hx hb dQ_attach_194 (by decide) ?_
  obtain ⟨r196, z196, h196, hf⟩ := lc_bnd_some hf
  refine lc_callv (va_runV (As := [.int 41]) (rest := []) ⟨hx, hb, hml, hown, hts⟩ (cQ_expect l G h196) (lc_cwV hts kvQ_172 (lc_room (by decide) (by decide))) (lc_preV hE hH lc_h80 rfl _) rfl rfl hl.1 rfl (lv_room (Nat.le_of_ble_eq_true rfl)) dQ_attach_196 ⟨Nat.zero_le _, Nat.zero_le _⟩) hH (fun H locs hH => ?_)
  refine lv_aload_n hx hb dQ_attach_199 rfl (lv_at hl 0 rfl) ?_
  refine lv_dup hx hb dQ_attach_200 rfl ?_
  refine lc_geti hx hb hts hown hE hH flQ_185 lc_h80 rfl dQ_attach_201 ?_
  refine lv_iconst (v := 1) hx hb dQ_attach_204 (by decide) ?_
  refine lv_isub hx hb dQ_attach_205 ?_
  refine lc_puti hx hb hts hown hE hH fpQ_185 lc_h80 rfl rfl rfl dQ_attach_206 (fun H locs hH => ?_)
  refine lv_iload_n hx hb dQ_attach_209 rfl (lv_at hl 1 rfl) ?_
  exact lc_iret hx hb hr hlocks hH hf dQ_attach_210
set_option maxHeartbeats 4000000 in
set_option maxRecDepth 100000 in
theorem bQ_attach_140 {p : Program} {l : Launch} {e : Env} {s : State} {m : MethodId} {args : Array Value} {below : List Frame} {meth : Method} {c : Code} {G : lc_G} (hx : p.tables.exec = Jvm.exec) (hb : c.code = prog_10_method_20_code) (hml : c.maxLocals = 5) (hr : meth.sig.returnType = (some .int)) (hlocks : meth.locks = false) (hown : s.vm.findClass "LinearCellsModel" = some m.cls) (hts : ∀ w ∈ lc_ALL, w.before args s = true) (hE : lc_E G s) {r : Int32} {z' : lc_S} : ∀ {x2 : Int32} {x4 : Int32} {z : lc_S} {H : Heap} {locs : List Loc} {ls : Array Slot}, fQ_attach_140 x2 x4 z = some (r, z') → lv_has ls 5 [(0, .ref (lc_ad G 80)), (2, .int x2), (4, .int x4)] → lc_H G z s.heap H locs → W p l e (lc_rm 3) s m args below meth c H locs 0 0 (MQ below (lc_Q G (some (.int r)) z') args s 0 0 (lc_A G)) (F0 m 140 ls []) := by
  intro x2 x4 z H locs ls hf hl hH
  rw [fQ_attach_140] at hf
  refine lv_aload_n hx hb dQ_attach_140 rfl (lv_at hl 0 rfl) ?_
  refine lc_getf (d := 13) (q := 93) hx hb hts hown hE hH flQ_47 lc_h80 rfl rfl dQ_attach_141 ?_
  refine lv_aload_n hx hb dQ_attach_144 rfl (lv_at hl 0 rfl) ?_
  refine lc_geti hx hb hts hown hE hH flQ_185 lc_h80 rfl dQ_attach_145 ?_
  refine lv_iconst (v := 1) hx hb dQ_attach_148 (by decide) ?_
  refine lv_isub hx hb dQ_attach_149 ?_
  obtain ⟨hi150, hf⟩ := lc_chk_some hf
  refine lc_iald hx hb hE hH lc_h93 rfl hi150 dQ_attach_150 ?_
  refine lv_iload hx hb dQ_attach_151 (lv_at hl 2 rfl) ?_
  obtain ⟨r153, z153, h153, hf⟩ := lc_bnd_some hf
  refine lc_calli (va_runS (As := [.int x4]) (rest := [.int (lcI z 93 ((lcI z 80 16) - 1).toNatClampNeg)]) ⟨hx, hb, hml, hown, hts⟩ (cQ_partsOf l G h153) (lc_cwS hts ksQ_214 (lc_room (by decide) (by decide))) (lc_preS hE hH _) rfl rfl hl.1 rfl (lv_room (Nat.le_of_ble_eq_true rfl)) dQ_attach_153 ⟨Nat.zero_le _, Nat.zero_le _⟩) hH (fun H locs hH => ?_)
  refine lv_icmp_ge (tgt := 161) hx hb dQ_attach_156 (by decide) (fun hc => ?_) (fun hc => ?_)
  · replace hf := lc_ite_pos hc hf
    refine lv_aload_n hx hb dQ_attach_161 rfl (lv_at hl 0 rfl) ?_
    refine lv_dup hx hb dQ_attach_162 rfl ?_
    refine lc_geti hx hb hts hown hE hH flQ_179 lc_h80 rfl dQ_attach_163 ?_
    refine lv_iload hx hb dQ_attach_166 (lv_at hl 2 rfl) ?_
    refine lv_bipush (v := 58) hx hb dQ_attach_168 (by decide) ?_
    refine lv_icmp_ne (tgt := 177) hx hb dQ_attach_170 (by decide) (fun hc => ?_) (fun hc => ?_)
    · replace hf := lc_ite_neg hc hf
      refine lv_iload hx hb dQ_attach_177 (lv_at hl 2 rfl) ?_
      refine lv_bipush (v := 47) hx hb dQ_attach_179 (by decide) ?_
      refine lv_icmp_ne (tgt := 188) hx hb dQ_attach_181 (by decide) (fun hc => ?_) (fun hc => ?_)
      · replace hf := lc_ite_neg hc hf
        refine lv_iconst (v := 0) hx hb dQ_attach_188 (by decide) ?_
        exact bQ_attach_189 hx hb hml hr hlocks hown hts hE hf (lv_sub hl [0, 1] rfl) hH
      · replace hf := lc_ite_pos hc hf
        refine lv_iconst (v := 2) hx hb dQ_attach_184 (by decide) ?_
        refine lv_goto (tgt := 189) hx hb dQ_attach_185 (by decide) ?_
        exact bQ_attach_189 hx hb hml hr hlocks hown hts hE hf (lv_sub hl [0, 1] rfl) hH
    · replace hf := lc_ite_pos hc hf
      refine lv_iconst (v := 1) hx hb dQ_attach_173 (by decide) ?_
      refine lv_goto (tgt := 189) hx hb dQ_attach_174 (by decide) ?_
      exact bQ_attach_189 hx hb hml hr hlocks hown hts hE hf (lv_sub hl [0, 1] rfl) hH
  · replace hf := lc_ite_neg hc hf
    refine lv_iconst (v := (-1)) hx hb dQ_attach_159 (by decide) ?_
    exact lc_iret hx hb hr hlocks hH hf dQ_attach_160
set_option maxHeartbeats 4000000 in
set_option maxRecDepth 100000 in
theorem bQ_attach_101 {p : Program} {l : Launch} {e : Env} {s : State} {m : MethodId} {args : Array Value} {below : List Frame} {meth : Method} {c : Code} {G : lc_G} (hx : p.tables.exec = Jvm.exec) (hb : c.code = prog_10_method_20_code) (hml : c.maxLocals = 5) (hr : meth.sig.returnType = (some .int)) (hlocks : meth.locks = false) (hown : s.vm.findClass "LinearCellsModel" = some m.cls) (hts : ∀ w ∈ lc_ALL, w.before args s = true) (hE : lc_E G s) {r : Int32} {z' : lc_S} : ∀ {x2 : Int32} {x4 : Int32} {z : lc_S} {H : Heap} {locs : List Loc} {ls : Array Slot}, fQ_attach_101 x2 x4 z = some (r, z') → lv_has ls 5 [(0, .ref (lc_ad G 80)), (2, .int x2), (4, .int x4)] → lc_H G z s.heap H locs → W p l e (lc_rm 3) s m args below meth c H locs 0 0 (MQ below (lc_Q G (some (.int r)) z') args s 0 0 (lc_A G)) (F0 m 101 ls []) := by
  intro x2 x4 z H locs ls hf hl hH
  rw [fQ_attach_101] at hf
  refine lv_aload_n hx hb dQ_attach_101 rfl (lv_at hl 0 rfl) ?_
  refine lv_aload_n hx hb dQ_attach_102 rfl (lv_at hl 0 rfl) ?_
  refine lc_getf (d := 3) (q := 83) hx hb hts hown hE hH flQ_16 lc_h80 rfl rfl dQ_attach_103 ?_
  refine lv_iload_n hx hb dQ_attach_106 rfl (lv_at hl 1 rfl) ?_
  obtain ⟨hi107, hf⟩ := lc_chk_some hf
  refine lc_iald hx hb hE hH lc_h83 rfl hi107 dQ_attach_107 ?_
  refine lv_sipush (v := 256) hx hb dQ_attach_108 (by decide) ?_
  refine lv_irem hx hb dQ_attach_111 (by decide) ?_
  refine lv_iload_n hx hb dQ_attach_112 rfl (lv_at hl 1 rfl) ?_
  refine lv_iconst (v := 0) hx hb dQ_attach_113 (by decide) ?_
  obtain ⟨r114, z114, h114, hf⟩ := lc_bnd_some hf
  refine lc_callv (va_runV (As := [.int ((lcI z 83 x2.toNatClampNeg) - (lcI z 83 x2.toNatClampNeg) / 256 * 256), .int x2, .int 0]) (rest := []) ⟨hx, hb, hml, hown, hts⟩ (cQ_bind l G h114) (lc_cwV hts kvQ_191 (lc_room (by decide) (by decide))) (lc_preV hE hH lc_h80 rfl _) rfl rfl hl.1 rfl (lv_room (Nat.le_of_ble_eq_true rfl)) dQ_attach_114 ⟨Nat.zero_le _, Nat.zero_le _⟩) hH (fun H locs hH => ?_)
  refine lv_iload hx hb dQ_attach_117 (lv_at hl 2 rfl) ?_
  refine lv_bipush (v := 47) hx hb dQ_attach_119 (by decide) ?_
  refine lv_icmp_ne (tgt := 140) hx hb dQ_attach_121 (by decide) (fun hc => ?_) (fun hc => ?_)
  · replace hf := lc_ite_neg hc hf
    exact bQ_attach_140 hx hb hml hr hlocks hown hts hE hf (lv_sub hl [0, 1, 2] rfl) hH
  · replace hf := lc_ite_pos hc hf
    refine lv_aload_n hx hb dQ_attach_124 rfl (lv_at hl 0 rfl) ?_
    refine lv_aload_n hx hb dQ_attach_125 rfl (lv_at hl 0 rfl) ?_
    refine lc_getf (d := 3) (q := 83) hx hb hts hown hE hH flQ_16 lc_h80 rfl rfl dQ_attach_126 ?_
    refine lv_iload_n hx hb dQ_attach_129 rfl (lv_at hl 1 rfl) ?_
    obtain ⟨hi130, hf⟩ := lc_chk_some hf
    refine lc_iald hx hb hE hH lc_h83 rfl hi130 dQ_attach_130 ?_
    refine lv_sipush (v := 256) hx hb dQ_attach_131 (by decide) ?_
    refine lv_idiv hx hb dQ_attach_134 (by decide) ?_
    refine lv_iload_n hx hb dQ_attach_135 rfl (lv_at hl 1 rfl) ?_
    refine lv_iconst (v := 1) hx hb dQ_attach_136 (by decide) ?_
    obtain ⟨r137, z137, h137, hf⟩ := lc_bnd_some hf
    refine lc_callv (va_runV (As := [.int ((lcI z114 83 x2.toNatClampNeg) / 256), .int x2, .int 1]) (rest := []) ⟨hx, hb, hml, hown, hts⟩ (cQ_bind l G h137) (lc_cwV hts kvQ_191 (lc_room (by decide) (by decide))) (lc_preV hE hH lc_h80 rfl _) rfl rfl hl.1 rfl (lv_room (Nat.le_of_ble_eq_true rfl)) dQ_attach_137 ⟨Nat.zero_le _, Nat.zero_le _⟩) hH (fun H locs hH => ?_)
    exact bQ_attach_140 hx hb hml hr hlocks hown hts hE hf (lv_sub hl [0, 1, 2] rfl) hH
set_option maxHeartbeats 4000000 in
set_option maxRecDepth 100000 in
theorem bQ_attach_68 {p : Program} {l : Launch} {e : Env} {s : State} {m : MethodId} {args : Array Value} {below : List Frame} {meth : Method} {c : Code} {G : lc_G} (hx : p.tables.exec = Jvm.exec) (hb : c.code = prog_10_method_20_code) (hml : c.maxLocals = 5) (hr : meth.sig.returnType = (some .int)) (hlocks : meth.locks = false) (hown : s.vm.findClass "LinearCellsModel" = some m.cls) (hts : ∀ w ∈ lc_ALL, w.before args s = true) (hE : lc_E G s) {r : Int32} {z' : lc_S} : ∀ {x2 : Int32} {x3 : Int32} {x4 : Int32} {z : lc_S} {H : Heap} {locs : List Loc} {ls : Array Slot}, fQ_attach_68 x2 x3 x4 z = some (r, z') → lv_has ls 5 [(0, .ref (lc_ad G 80)), (2, .int x2), (3, .int x3), (4, .int x4)] → lc_H G z s.heap H locs → W p l e (lc_rm 3) s m args below meth c H locs 0 0 (MQ below (lc_Q G (some (.int r)) z') args s 0 0 (lc_A G)) (F0 m 68 ls []) := by
  intro x2 x3 x4 z H locs ls hf hl hH
  rw [fQ_attach_68] at hf
  refine lv_aload_n hx hb dQ_attach_68 rfl (lv_at hl 0 rfl) ?_
  refine lc_getf (d := 13) (q := 93) hx hb hts hown hE hH flQ_47 lc_h80 rfl rfl dQ_attach_69 ?_
  refine lv_aload_n hx hb dQ_attach_72 rfl (lv_at hl 0 rfl) ?_
  refine lc_geti hx hb hts hown hE hH flQ_185 lc_h80 rfl dQ_attach_73 ?_
  refine lv_iconst (v := 1) hx hb dQ_attach_76 (by decide) ?_
  refine lv_isub hx hb dQ_attach_77 ?_
  refine lv_dup2_11 hx hb dQ_attach_78 rfl rfl ?_
  obtain ⟨hi79, hf⟩ := lc_chk_some hf
  refine lc_iald hx hb hE hH lc_h93 rfl hi79 dQ_attach_79 ?_
  refine lv_iconst (v := 1) hx hb dQ_attach_80 (by decide) ?_
  refine lv_iadd hx hb dQ_attach_81 ?_
  obtain ⟨hi82, hf⟩ := lc_chk_some hf
  refine lc_iast hx hb hE hH lc_h93 rfl hi82 dQ_attach_82 (fun H locs hH => ?_)
  refine lv_iload_n hx hb dQ_attach_83 rfl (lv_at hl 2 rfl) ?_
  refine lv_if_ne (tgt := 140) hx hb dQ_attach_84 (by decide) (fun hc => ?_) (fun hc => ?_)
  · replace hf := lc_ite_neg hc hf
    exact bQ_attach_140 hx hb hml hr hlocks hown hts hE hf (lv_sub hl [0, 1, 3] rfl) hH
  · replace hf := lc_ite_pos hc hf
    refine lv_iload hx hb dQ_attach_87 (lv_at hl 3 rfl) ?_
    refine lv_bipush (v := 58) hx hb dQ_attach_89 (by decide) ?_
    refine lv_icmp_eq (tgt := 101) hx hb dQ_attach_91 (by decide) (fun hc => ?_) (fun hc => ?_)
    · replace hf := lc_ite_pos hc hf
      exact bQ_attach_101 hx hb hml hr hlocks hown hts hE hf (lv_sub hl [0, 1, 3] rfl) hH
    · replace hf := lc_ite_neg hc hf
      refine lv_iload hx hb dQ_attach_94 (lv_at hl 3 rfl) ?_
      refine lv_bipush (v := 47) hx hb dQ_attach_96 (by decide) ?_
      refine lv_icmp_ne (tgt := 140) hx hb dQ_attach_98 (by decide) (fun hc => ?_) (fun hc => ?_)
      · replace hf := lc_ite_neg hc hf
        exact bQ_attach_140 hx hb hml hr hlocks hown hts hE hf (lv_sub hl [0, 1, 3] rfl) hH
      · replace hf := lc_ite_pos hc hf
        exact bQ_attach_101 hx hb hml hr hlocks hown hts hE hf (lv_sub hl [0, 1, 3] rfl) hH
set_option maxHeartbeats 4000000 in
set_option maxRecDepth 100000 in
theorem cQ_attach (l : Launch) (G : lc_G) {a1 : Int32} {r : Int32} {z z' : lc_S} (hf : fQ_attach a1 z = some (r, z')) : lc_M l G yQ_attach wQ_attach 3 [.ref (lc_ad G 80), .int a1] z (some (.int r)) z' := by
  refine lc_M_of (cc := prog_10_method_20_code) (maxL := 5) (ret := (some .int)) (own := "LinearCellsModel") (by decide) rfl (fun w h => List.mem_cons_of_mem _ h) (Nat.le_of_ble_eq_true rfl) rfl ?_
  intro p e s m below meth c hx hb hml hr hlocks hown hts hE ls hl hH
  replace hl : lv_has ls 5 [(0, .ref (lc_ad G 80)), (1, .int a1)] := hl
  rw [fQ_attach] at hf
  refine lv_aload_n hx hb dQ_attach_0 rfl (lv_at hl 0 rfl) ?_
  refine lc_getf (d := 12) (q := 92) hx hb hts hown hE hH flQ_44 lc_h80 rfl rfl dQ_attach_1 ?_
  refine lv_aload_n hx hb dQ_attach_4 rfl (lv_at hl 0 rfl) ?_
  refine lc_geti hx hb hts hown hE hH flQ_185 lc_h80 rfl dQ_attach_5 ?_
  refine lv_iconst (v := 1) hx hb dQ_attach_8 (by decide) ?_
  refine lv_isub hx hb dQ_attach_9 ?_
  obtain ⟨hi10, hf⟩ := lc_chk_some hf
  refine lc_iald hx hb hE hH lc_h92 rfl hi10 dQ_attach_10 ?_
  refine lv_topi (fun x11 e11 => ?_)
  replace hf := lc_let_of e11 hf
  refine lv_istore_n hx hb dQ_attach_11 rfl hl (by decide) rfl (fun ls hl => ?_)
  replace hl : lv_has ls 5 [(2, .int x11), (0, .ref (lc_ad G 80)), (1, .int a1)] := hl
  refine lv_aload_n hx hb dQ_attach_12 rfl (lv_at hl 1 rfl) ?_
  refine lc_getf (d := 13) (q := 93) hx hb hts hown hE hH flQ_47 lc_h80 rfl rfl dQ_attach_13 ?_
  refine lv_aload_n hx hb dQ_attach_16 rfl (lv_at hl 1 rfl) ?_
  refine lc_geti hx hb hts hown hE hH flQ_185 lc_h80 rfl dQ_attach_17 ?_
  refine lv_iconst (v := 1) hx hb dQ_attach_20 (by decide) ?_
  refine lv_isub hx hb dQ_attach_21 ?_
  obtain ⟨hi22, hf⟩ := lc_chk_some hf
  refine lc_iald hx hb hE hH lc_h93 rfl hi22 dQ_attach_22 ?_
  refine lv_topi (fun x23 e23 => ?_)
  replace hf := lc_let_of e23 hf
  refine lv_istore_n hx hb dQ_attach_23 rfl hl (by decide) rfl (fun ls hl => ?_)
  replace hl : lv_has ls 5 [(3, .int x23), (2, .int x11), (0, .ref (lc_ad G 80)), (1, .int a1)] := hl
  refine lv_aload_n hx hb dQ_attach_24 rfl (lv_at hl 2 rfl) ?_
  refine lc_getf (d := 2) (q := 82) hx hb hts hown hE hH flQ_13 lc_h80 rfl rfl dQ_attach_25 ?_
  refine lv_iload_n hx hb dQ_attach_28 rfl (lv_at hl 1 rfl) ?_
  obtain ⟨hi29, hf⟩ := lc_chk_some hf
  refine lc_iald hx hb hE hH lc_h82 rfl hi29 dQ_attach_29 ?_
  refine lv_topi (fun x30 e30 => ?_)
  replace hf := lc_let_of e30 hf
  refine lv_istore hx hb dQ_attach_30 hl (by decide) rfl (fun ls hl => ?_)
  replace hl : lv_has ls 5 [(4, .int x30), (3, .int x23), (2, .int x11), (0, .ref (lc_ad G 80)), (1, .int a1)] := hl
  refine lv_iload_n hx hb dQ_attach_32 rfl (lv_at hl 1 rfl) ?_
  refine lv_if_ne (tgt := 46) hx hb dQ_attach_33 (by decide) (fun hc => ?_) (fun hc => ?_)
  · replace hf := lc_ite_neg hc hf
    refine lv_iload_n hx hb dQ_attach_46 rfl (lv_at hl 1 rfl) ?_
    refine lv_iconst (v := 1) hx hb dQ_attach_47 (by decide) ?_
    refine lv_icmp_ne (tgt := 61) hx hb dQ_attach_48 (by decide) (fun hc => ?_) (fun hc => ?_)
    · replace hf := lc_ite_neg hc hf
      refine lv_aload_n hx hb dQ_attach_61 rfl (lv_at hl 3 rfl) ?_
      refine lc_getf (d := 6) (q := 86) hx hb hts hown hE hH flQ_25 lc_h80 rfl rfl dQ_attach_62 ?_
      refine lv_iload_n hx hb dQ_attach_65 rfl (lv_at hl 2 rfl) ?_
      refine lv_iload_n hx hb dQ_attach_66 rfl (lv_at hl 4 rfl) ?_
      obtain ⟨hi67, hf⟩ := lc_chk_some hf
      refine lc_iast hx hb hE hH lc_h86 rfl hi67 dQ_attach_67 (fun H locs hH => ?_)
      exact bQ_attach_68 hx hb hml hr hlocks hown hts hE hf (lv_sub hl [3, 2, 1, 0] rfl) hH
    · replace hf := lc_ite_pos hc hf
      refine lv_aload_n hx hb dQ_attach_51 rfl (lv_at hl 3 rfl) ?_
      refine lc_getf (d := 5) (q := 85) hx hb hts hown hE hH flQ_22 lc_h80 rfl rfl dQ_attach_52 ?_
      refine lv_iload_n hx hb dQ_attach_55 rfl (lv_at hl 2 rfl) ?_
      refine lv_iload_n hx hb dQ_attach_56 rfl (lv_at hl 4 rfl) ?_
      obtain ⟨hi57, hf⟩ := lc_chk_some hf
      refine lc_iast hx hb hE hH lc_h85 rfl hi57 dQ_attach_57 (fun H locs hH => ?_)
      refine lv_goto (tgt := 68) hx hb dQ_attach_58 (by decide) ?_
      exact bQ_attach_68 hx hb hml hr hlocks hown hts hE hf (lv_sub hl [3, 2, 1, 0] rfl) hH
  · replace hf := lc_ite_pos hc hf
    refine lv_aload_n hx hb dQ_attach_36 rfl (lv_at hl 3 rfl) ?_
    refine lc_getf (d := 4) (q := 84) hx hb hts hown hE hH flQ_19 lc_h80 rfl rfl dQ_attach_37 ?_
    refine lv_iload_n hx hb dQ_attach_40 rfl (lv_at hl 2 rfl) ?_
    refine lv_iload_n hx hb dQ_attach_41 rfl (lv_at hl 4 rfl) ?_
    obtain ⟨hi42, hf⟩ := lc_chk_some hf
    refine lc_iast hx hb hE hH lc_h84 rfl hi42 dQ_attach_42 (fun H locs hH => ?_)
    refine lv_goto (tgt := 68) hx hb dQ_attach_43 (by decide) ?_
    exact bQ_attach_68 hx hb hml hr hlocks hown hts hE hf (lv_sub hl [3, 2, 1, 0] rfl) hH
